/-! ways: states are a line and the facts told -/
def mgB (V : Nat → Nat → Nat) (i T j : Nat) : Bool := (decide (j = i + 1) || jpB V i j) && decide ((nI (V 5 j) &&& (nI T ^^^ (-1))) = 0)
/-- a way from (i, T) to t, line by line; t comes at its end alone -/
def VPt (V : Nat → Nat → Nat) (t : Nat) : List Nat → Nat → Nat → Prop
  | [], _, _ => False
  | j :: ls, i, T => j < V 8 0 ∧ mgB V i T j = true ∧ (if j = t then ls = [] else VPt V t ls j (T ||| V 4 j))
theorem or256 {V : Nat → Nat → Nat} (ok : OKV V) {j T : Nat} (hj : j < V 8 0) (hT : T < 256) : T ||| V 4 j < 256 := Nat.or_lt_two_pow (n := 8) hT (ok.2.2.2.1 j hj).2.2.2.2.2.1
/-- steps by way of j -/
def isW (V : Nat → Nat → Nat) (M : Nat → Nat) (t T j : Nat) : Nat := if j = t then 1 else 1 + M (256 * j + (T ||| V 4 j))
def mbF (V : Nat → Nat → Nat) (M : Nat → Nat) (t i T : Nat) : Nat → Nat
  | 0 => 100000
  | j + 1 => if mgB V i T j = true ∧ isW V M t T j < mbF V M t i T j then isW V M t T j else mbF V M t i T j
theorem mbF_succ (V : Nat → Nat → Nat) (M : Nat → Nat) (t i T j : Nat) : mbF V M t i T (j + 1) = if mgB V i T j = true ∧ isW V M t T j < mbF V M t i T j then isW V M t T j else mbF V M t i T j := rfl
theorem mbF_le (V : Nat → Nat → Nat) (M : Nat → Nat) (t i T : Nat) : ∀ n, mbF V M t i T n ≤ 100000 ∧ ∀ j, j < n → mgB V i T j = true → mbF V M t i T n ≤ isW V M t T j
  | 0 => ⟨Nat.le_refl _, fun j h => absurd h (Nat.not_lt_zero j)⟩
  | n + 1 => by
    obtain ⟨h1, h2⟩ := mbF_le V M t i T n
    rw [mbF_succ]
    by_cases c : mgB V i T n = true ∧ isW V M t T n < mbF V M t i T n
    · rw [if_pos c]
      refine ⟨by omega, fun j hj hm => ?_⟩
      by_cases e : j = n
      · rw [e]; exact Nat.le_refl _
      · have := h2 j (by omega) hm
        omega
    · rw [if_neg c]
      refine ⟨h1, fun j hj hm => ?_⟩
      by_cases e : j = n
      · subst e
        have : ¬ isW V M t T j < mbF V M t i T j := fun q => c ⟨hm, q⟩
        omega
      · exact h2 j (by omega) hm
theorem mbF_ex (V : Nat → Nat → Nat) (M : Nat → Nat) (t i T : Nat) : ∀ n, mbF V M t i T n < 100000 → ∃ j, j < n ∧ mgB V i T j = true ∧ mbF V M t i T n = isW V M t T j
  | 0, h => absurd h (Nat.lt_irrefl _)
  | n + 1, h => by
    rw [mbF_succ] at h ⊢
    by_cases c : mgB V i T n = true ∧ isW V M t T n < mbF V M t i T n
    · rw [if_pos c]
      exact ⟨n, by omega, c.1, rfl⟩
    · rw [if_neg c] at h ⊢
      obtain ⟨j, h1, h2, h3⟩ := mbF_ex V M t i T n h
      exact ⟨j, by omega, h2, h3⟩
/-- what the numbers of the reference say at all times -/
def SndM (V : Nat → Nat → Nat) (t : Nat) (M : Nat → Nat) : Prop := (∀ k, k < 5120 → M k ≤ 100000) ∧ ∀ i T, i < V 8 0 → T < 256 → M (256 * i + T) < 100000 → ∃ ls, ls.length = M (256 * i + T) ∧ VPt V t ls i T
def ArM (S : St) (M : Nat → Nat) : Prop := ∀ k, k < 5120 → S.2.1 85 k = nI (M k)
theorem mbF_snd {V : Nat → Nat → Nat} (ok : OKV V) {M : Nat → Nat} {t i T : Nat} (hs : SndM V t M) (hT : T < 256) (h : mbF V M t i T (V 8 0) < 100000) : ∃ ls, ls.length = mbF V M t i T (V 8 0) ∧ VPt V t ls i T := by
  have h20 := ok.1
  obtain ⟨j, h1, h2, h3⟩ := mbF_ex V M t i T (V 8 0) h
  rw [h3] at h ⊢
  unfold isW at h ⊢
  by_cases c : j = t
  · rw [if_pos c]
    exact ⟨[j], rfl, h1, h2, by rw [if_pos c]⟩
  · rw [if_neg c] at h ⊢
    obtain ⟨ls, l1, l2⟩ := hs.2 j (T ||| V 4 j) h1 (or256 ok h1 hT) (by omega)
    refine ⟨j :: ls, ?_, h1, h2, by rw [if_neg c]; exact l2⟩
    rw [List.length_cons, l1]
    omega
theorem mbF_fix {V : Nat → Nat → Nat} (ok : OKV V) {M : Nat → Nat} {t : Nat} (hf : ∀ i T, i < V 8 0 → T < 256 → M (256 * i + T) ≤ mbF V M t i T (V 8 0)) : ∀ (ls : List Nat) (i T : Nat), i < V 8 0 → T < 256 → VPt V t ls i T → M (256 * i + T) ≤ ls.length
  | [], i, T, _, _, h => h.elim
  | j :: ls, i, T, hi, hT, h => by
    obtain ⟨h1, h2, h3⟩ := h
    have a := hf i T hi hT
    have b := (mbF_le V M t i T (V 8 0)).2 j h1 h2
    unfold isW at b
    rw [List.length_cons]
    by_cases c : j = t
    · rw [if_pos c] at b; omega
    · rw [if_neg c] at b h3
      have := mbF_fix ok hf ls j (T ||| V 4 j) h1 (or256 ok h1 hT) h3
      omega
section
variable {N : Nat} {V : Nat → Nat → Nat} {t : Nat}
theorem rl_mayGo (ok : OKV V) {S : St} (hr : RlP S V) {i j T : Nat} (hi : i < V 8 0) (hj : j < V 8 0) : F_X12_mayGo (nI i) (nI j) (nI T) S = some (bI (mgB V i T j), S) := by
  have h20 := ok.1
  have e5 := (hr.2.2.2.1 j hj).2.2.2.2.2.1
  unfold F_X12_mayGo mgB
  rw [nI_1, gd_t (inb_nI (by omega) (by decide)), nI_clamp (by omega), e5, rl_isJump ok hr hi hj, Option.bind_some]
  by_cases c : j = i + 1
  · rw [if_pos (by rw [c])]
    by_cases d : (nI (V 5 j) &&& (nI T ^^^ (-1))) = 0
    · rw [if_pos d, bI_t (by rw [decide_eq_true c, Bool.true_or, decide_eq_true d]; rfl)]
    · rw [if_neg d, bI_f (by rw [decide_eq_false d, Bool.and_false])]
  · rw [if_neg (fun z => c (nI_inj (by omega) (by omega) z))]
    show (if bI (jpB V i j) = 0 then some ((0 : Int32), S) else gd (inb (nI j) 20) (if (S.2.1 69 j &&& (nI T ^^^ (-1))) = 0 then some ((1 : Int32), S) else some ((0 : Int32), S))) = _
    rw [gd_t (inb_nI (by omega) (by decide)), e5]
    by_cases e : jpB V i j = true
    · rw [if_neg (bI_ne.mpr e)]
      by_cases d : (nI (V 5 j) &&& (nI T ^^^ (-1))) = 0
      · rw [if_pos d, bI_t (by rw [e, Bool.or_true, decide_eq_true d]; rfl)]
      · rw [if_neg d, bI_f (by rw [decide_eq_false d, Bool.and_false])]
    · rw [if_pos (bI_0.mpr (Bool.eq_false_iff.mpr e)), bI_f (by rw [decide_eq_false c, Bool.eq_false_iff.mpr e]; rfl)]
theorem ix256 (j T : Nat) : (256 * nI j) + nI T = nI (256 * j + T) := by
  show nI 256 * nI j + nI T = _
  rw [pk_mul, nI_add]
theorem rl_moreBy8 (ok : OKV V) {S : St} (hr : RlP S V) {M : Nat → Nat} (hM : ArM S M) (hs : SndM V t M) {i T : Nat} (ht : t < V 8 0) (hi : i < V 8 0) (hT : T < 256) : ∀ (m j n : Nat), j + m = V 8 0 → m < n → F_X12_moreBy_8 n (nI i) (nI T) (nI t) (nI (mbF V M t i T j)) (nI j) S = some (nI (mbF V M t i T (V 8 0)), S)
  | m, j, 0, _, hn => absurd hn (Nat.not_lt_zero m)
  | 0, j, n + 1, hj, _ => by
    have e : j = V 8 0 := hj
    show (if (S.1 63 1) ≤ nI j then (some (nI (mbF V M t i T j), S)) else _) = _
    rw [if_pos (by rw [hr.1, e]; exact Int32.le_refl _), e]
  | m + 1, j, n + 1, hj, hn => by
    have h20 := ok.1
    have hjj : j < V 8 0 := by omega
    have ih := rl_moreBy8 ok hr hM hs ht hi hT m (j + 1) n (by omega) (by omega)
    rw [← ih, mbF_succ]
    have hle := (mbF_le V M t i T j).1
    have e4 := (hr.2.2.2.1 j hjj).2.2.2.2.1
    have ho := or256 ok hjj hT
    have hb := hs.1 (256 * j + (T ||| V 4 j)) (by omega)
    show (if (S.1 63 1) ≤ nI j then _ else ((F_X12_mayGo (nI i) (nI j) (nI T) S).bind (fun r_22 => if r_22.1 = 0 then (F_X12_moreBy_8 n (nI i) (nI T) (nI t) (nI (mbF V M t i T j)) (nI j + 1) r_22.2) else (if nI j = nI t then (if nI (mbF V M t i T j) ≤ (1 : Int32) then (F_X12_moreBy_8 n (nI i) (nI T) (nI t) (nI (mbF V M t i T j)) (nI j + 1) r_22.2) else (F_X12_moreBy_8 n (nI i) (nI T) (nI t) 1 (nI j + 1) r_22.2)) else (gd (inb (nI j) 20) (gd (inb ((256 * nI j) + (nI T ||| (r_22.2.2.1 68 (Int32.toNatClampNeg (nI j))))) 5120) (if nI (mbF V M t i T j) ≤ (1 + (r_22.2.2.1 85 (Int32.toNatClampNeg ((256 * nI j) + (nI T ||| (r_22.2.2.1 68 (Int32.toNatClampNeg (nI j)))))))) then (F_X12_moreBy_8 n (nI i) (nI T) (nI t) (nI (mbF V M t i T j)) (nI j + 1) r_22.2) else (F_X12_moreBy_8 n (nI i) (nI T) (nI t) (1 + (r_22.2.2.1 85 (Int32.toNatClampNeg ((256 * nI j) + (nI T ||| (r_22.2.2.1 68 (Int32.toNatClampNeg (nI j)))))))) (nI j + 1) r_22.2)))))))) = _
    rw [if_neg (by rw [hr.1]; exact nI_ge hjj (by omega)), rl_mayGo ok hr hi hjj, Option.bind_some, nI_1]
    by_cases c : mgB V i T j = true
    · rw [if_neg (bI_ne.mpr c)]
      by_cases d : j = t
      · have ei : isW V M t T j = 1 := if_pos d
        rw [if_pos (show nI j = nI t by rw [d]), ei]
        by_cases e : 1 < mbF V M t i T j
        · rw [if_neg (show ¬ nI (mbF V M t i T j) ≤ 1 from nI_ge (a := 1) e (by omega)), if_pos ⟨c, e⟩]; rfl
        · rw [if_pos (show nI (mbF V M t i T j) ≤ 1 from nI_le (b := 1) (by omega) (by decide)), if_neg (fun z => e z.2)]
      · have ei : isW V M t T j = 1 + M (256 * j + (T ||| V 4 j)) := if_neg d
        rw [if_neg (show ¬ nI j = nI t from fun z => d (nI_inj (by omega) (by omega) z)), gd_t (inb_nI (by omega) (by decide)), nI_clamp (n := j) (by omega)]
        show gd (inb ((256 * nI j) + (nI T ||| S.2.1 68 j)) 5120) (if nI (mbF V M t i T j) ≤ (1 + (S.2.1 85 (Int32.toNatClampNeg ((256 * nI j) + (nI T ||| S.2.1 68 j))))) then (F_X12_moreBy_8 n (nI i) (nI T) (nI t) (nI (mbF V M t i T j)) (nI (j + 1)) S) else (F_X12_moreBy_8 n (nI i) (nI T) (nI t) (1 + (S.2.1 85 (Int32.toNatClampNeg ((256 * nI j) + (nI T ||| S.2.1 68 j))))) (nI (j + 1)) S)) = _
        rw [e4, nI_or, ix256, gd_t (inb_nI (by omega) (by decide)), nI_clamp (by omega), hM _ (by omega), show (1 : Int32) + nI (M (256 * j + (T ||| V 4 j))) = nI (1 + M (256 * j + (T ||| V 4 j))) from nI_add 1 _, ei]
        by_cases e : 1 + M (256 * j + (T ||| V 4 j)) < mbF V M t i T j
        · rw [if_neg (nI_ge e (by omega)), if_pos ⟨c, e⟩]
        · rw [if_pos (nI_le (by omega) (by omega)), if_neg (fun z => e z.2)]
    · rw [if_pos (bI_0.mpr (Bool.eq_false_iff.mpr c)), if_neg (show ¬ (mgB V i T j = true ∧ isW V M t T j < mbF V M t i T j) from fun z => c z.1)]
theorem rl_moreBy (hN : 2100 ≤ N) (ok : OKV V) {S : St} (hr : RlP S V) {M : Nat → Nat} (hM : ArM S M) (hs : SndM V t M) {i T : Nat} (ht : t < V 8 0) (hi : i < V 8 0) (hT : T < 256) : F_X12_moreBy N (nI i) (nI T) (nI t) S = some (nI (mbF V M t i T (V 8 0)), S) := by
  have h20 := ok.1
  exact rl_moreBy8 ok hr hM hs ht hi hT (V 8 0) 0 N (by omega) (by omega)
def aQ (k : Nat) : Bool := !decide (k = 85)
def AgQ (S S' : St) : Prop := AgO fT aQ lAll S S'
theorem AgQ.rl {S S' : St} (h : AgQ S S') (hr : RlP S V) : RlP S' V := hr.agree (AgO.weak h (fun _ _ _ => rfl) (fun k q => by have := aRl_mem q; refine not_t (fun z => ?_); have := of_decide_eq_true z; omega) (fun k q => by cases q))
/-- a pass: either something has become less, or nothing has changed and all that was looked at stands -/
def PsM (V : Nat → Nat → Nat) (t : Nat) (M0 M : Nat → Nat) (fl : Int32) (P : Nat → Nat → Prop) : Prop := (fl = 1 ∧ smN M 5120 < smN M0 5120) ∨ (fl = 0 ∧ M = M0 ∧ ∀ i T, P i T → i < V 8 0 → T < 256 → M0 (256 * i + T) ≤ mbF V M0 t i T (V 8 0))
theorem rl_fw45 (hN : 2100 ≤ N) (ok : OKV V) (ht : t < V 8 0) {M0 : Nat → Nat} {i : Nat} (hi : i < V 8 0) (k34 : Int32 → Int32 → Int32 → St → Option (St)) : ∀ (m T n : Nat) (S : St) (M : Nat → Nat) (fl : Int32), RlP S V → ArM S M → SndM V t M → PsM V t M0 M fl (fun i' T' => i' < i ∨ (i' = i ∧ T' < T)) → T + m = 256 → m < n → ∃ S' M' fl', F_X12_findWays_45 N k34 n (nI t) fl (nI i) (nI T) S = k34 (nI t) fl' (nI (i + 1)) S' ∧ AgQ S S' ∧ ArM S' M' ∧ SndM V t M' ∧ PsM V t M0 M' fl' (fun i' _ => i' < i + 1)
  | m, T, 0, S, M, fl, _, _, _, _, _, hn => absurd hn (Nat.not_lt_zero m)
  | 0, T, n + 1, S, M, fl, hr, hM, hs, hP, hT, _ => by
    have e : T = 256 := hT
    refine ⟨S, M, fl, ?_, AgO.rfl, hM, hs, ?_⟩
    · show (if 256 ≤ nI T then (k34 (nI t) fl (nI i + 1) S) else _) = _
      rw [if_pos (show (256 : Int32) ≤ nI T by rw [e]; decide), nI_1]
    · rcases hP with hP | ⟨p1, p2, p3⟩
      · exact Or.inl hP
      · exact Or.inr ⟨p1, p2, fun i' T' h1 h2 h3 => p3 i' T' (by omega) h2 h3⟩
  | m + 1, T, n + 1, S, M, fl, hr, hM, hs, hP, hT, hn => by
    have h20 := ok.1
    have hT256 : T < 256 := by omega
    have hk : 256 * i + T < 5120 := by omega
    have hb := hs.1 (256 * i + T) hk
    have hml := (mbF_le V M t i T (V 8 0)).1
    have stp : F_X12_findWays_45 N k34 (n + 1) (nI t) fl (nI i) (nI T) S = (if mbF V M t i T (V 8 0) < M (256 * i + T) then (F_X12_findWays_45 N k34 n (nI t) 1 (nI i) (nI (T + 1)) (aset S 85 (upd (S.2.1 85) (256 * i + T) (nI (mbF V M t i T (V 8 0)))))) else (F_X12_findWays_45 N k34 n (nI t) fl (nI i) (nI (T + 1)) S)) := by
      show (if 256 ≤ nI T then _ else ((F_X12_moreBy N (nI i) (nI T) (nI t) S).bind (fun r_58 => gd (inb ((256 * nI i) + nI T) 5120) (if r_58.1 < (r_58.2.2.1 85 (Int32.toNatClampNeg ((256 * nI i) + nI T))) then (gd (inb ((256 * nI i) + nI T) 5120) (F_X12_findWays_45 N k34 n (nI t) 1 (nI i) (nI T + 1) (aset r_58.2 85 (upd (r_58.2.2.1 85) (Int32.toNatClampNeg ((256 * nI i) + nI T)) r_58.1)))) else (F_X12_findWays_45 N k34 n (nI t) fl (nI i) (nI T + 1) r_58.2))))) = _
      rw [if_neg (show ¬ (256 : Int32) ≤ nI T from nI_ge (b := 256) hT256 (by decide)), rl_moreBy hN ok hr hM hs ht hi hT256, Option.bind_some, ix256, gd_t (inb_nI hk (by decide)), gd_t (inb_nI hk (by decide)), nI_clamp (by omega), nI_1]
      show (if nI (mbF V M t i T (V 8 0)) < S.2.1 85 (256 * i + T) then _ else _) = _
      rw [hM _ hk]
      by_cases c : mbF V M t i T (V 8 0) < M (256 * i + T)
      · rw [if_pos c, if_pos (nI_lt c (by omega))]
      · rw [if_neg c, if_neg (nI_nlt (by omega) (by omega))]
    rw [stp]
    by_cases c : mbF V M t i T (V 8 0) < M (256 * i + T)
    · rw [if_pos c]
      let M' : Nat → Nat := fun k => if k = 256 * i + T then mbF V M t i T (V 8 0) else M k
      have hM' : ArM (aset S 85 (upd (S.2.1 85) (256 * i + T) (nI (mbF V M t i T (V 8 0))))) M' := by
        intro k hk2
        show (aset S 85 _).2.1 85 k = nI (if k = 256 * i + T then mbF V M t i T (V 8 0) else M k)
        rw [aset_get]
        by_cases e : k = 256 * i + T
        · rw [if_pos e, e, pk_us]
        · rw [if_neg e, pk_un e]; exact hM k hk2
      have hs' : SndM V t M' := by
        refine ⟨fun k hk2 => ?_, fun i2 T2 hi2 hT2 hlt => ?_⟩
        · show (if k = 256 * i + T then mbF V M t i T (V 8 0) else M k) ≤ 100000
          split
          · exact hml
          · exact hs.1 k hk2
        · have hlt' : (if 256 * i2 + T2 = 256 * i + T then mbF V M t i T (V 8 0) else M (256 * i2 + T2)) < 100000 := hlt
          show ∃ ls, ls.length = (if 256 * i2 + T2 = 256 * i + T then mbF V M t i T (V 8 0) else M (256 * i2 + T2)) ∧ VPt V t ls i2 T2
          by_cases e : 256 * i2 + T2 = 256 * i + T
          · have e1 : i2 = i := by omega
            have e2 : T2 = T := by omega
            rw [if_pos e] at hlt' ⊢
            rw [e1, e2]
            exact mbF_snd ok hs hT256 hlt'
          · rw [if_neg e] at hlt' ⊢
            exact hs.2 i2 T2 hi2 hT2 hlt'
      have hsum : smN M' 5120 < smN M 5120 := by
        have := (smN_upd (f := M) (g := M') (b := 256 * i + T) (d := M (256 * i + T) - mbF V M t i T (V 8 0)) (fun k hk2 => if_neg hk2) (by show (if 256 * i + T = 256 * i + T then mbF V M t i T (V 8 0) else M (256 * i + T)) + _ = _; rw [if_pos rfl]; omega) 5120).2 hk
        omega
      have hle : smN M 5120 ≤ smN M0 5120 := by
        rcases hP with ⟨_, p2⟩ | ⟨_, p2, _⟩
        · omega
        · rw [p2]; exact Nat.le_refl _
      obtain ⟨S', M'', fl', u1, u2, u3⟩ := rl_fw45 (M0 := M0) hN ok ht hi k34 m (T + 1) n (aset S 85 (upd (S.2.1 85) (256 * i + T) (nI (mbF V M t i T (V 8 0))))) M' 1 (hr.agree (AgO.aset AgO.rfl _ (by decide))) hM' hs' (Or.inl ⟨rfl, by omega⟩) (by omega) (by omega)
      have aA : AgQ S (aset S 85 (upd (S.2.1 85) (256 * i + T) (nI (mbF V M t i T (V 8 0))))) := AgO.aset AgO.rfl _ (by decide)
      exact ⟨S', M'', fl', u1, aA.trans u2, u3⟩
    · rw [if_neg c]
      refine rl_fw45 (M0 := M0) hN ok ht hi k34 m (T + 1) n S M fl hr hM hs ?_ (by omega) (by omega)
      rcases hP with hP | ⟨p1, p2, p3⟩
      · exact Or.inl hP
      · refine Or.inr ⟨p1, p2, fun i' T' h1 h2 h3 => ?_⟩
        by_cases e : i' = i ∧ T' = T
        · rw [e.1, e.2, ← p2]
          omega
        · exact p3 i' T' (by omega) h2 h3
theorem rl_fw34 (hN : 2100 ≤ N) (ok : OKV V) (ht : t < V 8 0) {M0 : Nat → Nat} (k26 : Int32 → Int32 → St → Option (St)) : ∀ (m i n : Nat) (S : St) (M : Nat → Nat) (fl : Int32), RlP S V → ArM S M → SndM V t M → PsM V t M0 M fl (fun i' _ => i' < i) → i + m = V 8 0 → m < n → ∃ S' M' fl', F_X12_findWays_34 N k26 n (nI t) fl (nI i) S = k26 (nI t) fl' S' ∧ AgQ S S' ∧ ArM S' M' ∧ SndM V t M' ∧ PsM V t M0 M' fl' (fun i' _ => i' < V 8 0)
  | m, i, 0, S, M, fl, _, _, _, _, _, hn => absurd hn (Nat.not_lt_zero m)
  | 0, i, n + 1, S, M, fl, hr, hM, hs, hP, hi, _ => by
    have e : i = V 8 0 := hi
    refine ⟨S, M, fl, ?_, AgO.rfl, hM, hs, by rw [← e]; exact hP⟩
    show (if (S.1 63 1) ≤ nI i then (k26 (nI t) fl S) else _) = _
    rw [if_pos (by rw [hr.1, e]; exact Int32.le_refl _)]
  | m + 1, i, n + 1, S, M, fl, hr, hM, hs, hP, hi, hn => by
    have h20 := ok.1
    have hii : i < V 8 0 := by omega
    obtain ⟨S1, M1, fl1, s1, s2, s3, s4, s5⟩ := rl_fw45 hN ok ht (M0 := M0) hii (F_X12_findWays_34 N k26 n) 256 0 N S M fl hr hM hs (by
      rcases hP with hP | ⟨p1, p2, p3⟩
      · exact Or.inl hP
      · exact Or.inr ⟨p1, p2, fun i' T' h1 h2 h3 => p3 i' T' (by omega) h2 h3⟩) (by omega) (by omega)
    obtain ⟨S2, M2, fl2, u1, u2, u3⟩ := rl_fw34 (M0 := M0) hN ok ht k26 m (i + 1) n S1 M1 fl1 (s2.rl hr) s3 s4 s5 (by omega) (by omega)
    refine ⟨S2, M2, fl2, ?_, s2.trans u2, u3⟩
    rw [← u1, ← s1]
    show (if (S.1 63 1) ≤ nI i then _ else (F_X12_findWays_45 N (F_X12_findWays_34 N k26 n) N (nI t) fl (nI i) 0 S)) = _
    rw [if_neg (by rw [hr.1]; exact nI_ge hii (by omega))]
    rfl
theorem rl_fw26 (hN : 2100 ≤ N) (ok : OKV V) (ht : t < V 8 0) : ∀ (w : Nat) (n : Nat) (S : St) (M : Nat → Nat), RlP S V → ArM S M → SndM V t M → smN M 5120 ≤ w → w + 1 < n → ∃ S' M', F_X12_findWays_26 N n (nI t) 1 S = some S' ∧ AgQ S S' ∧ ArM S' M' ∧ SndM V t M' ∧ ∀ i T, i < V 8 0 → T < 256 → M' (256 * i + T) ≤ mbF V M' t i T (V 8 0) := by
  intro w
  induction w with
  | zero =>
    intro n S M hr hM hs hw hn
    have h20 := ok.1
    obtain ⟨n, rfl⟩ : ∃ k, n = k + 1 := ⟨n - 1, by omega⟩
    obtain ⟨S1, M1, fl1, s1, s2, s3, s4, s5⟩ := rl_fw34 hN ok ht (M0 := M) (F_X12_findWays_26 N n) (V 8 0) 0 N S M 0 hr hM hs (Or.inr ⟨rfl, rfl, fun i' T' h => absurd h (Nat.not_lt_zero i')⟩) (by omega) (by omega)
    have e : F_X12_findWays_26 N (n + 1) (nI t) 1 S = F_X12_findWays_26 N n (nI t) fl1 S1 := s1
    rcases s5 with ⟨_, p⟩ | ⟨p1, p2, p3⟩
    · omega
    · refine ⟨S1, M1, ?_, s2, s3, s4, by rw [p2]; exact fun i T h1 h2 => p3 i T h1 h1 h2⟩
      rw [e, p1]
      obtain ⟨k, rfl⟩ : ∃ k, n = k + 1 := ⟨n - 1, by omega⟩
      rfl
  | succ w ih =>
    intro n S M hr hM hs hw hn
    have h20 := ok.1
    obtain ⟨n, rfl⟩ : ∃ k, n = k + 1 := ⟨n - 1, by omega⟩
    obtain ⟨S1, M1, fl1, s1, s2, s3, s4, s5⟩ := rl_fw34 hN ok ht (M0 := M) (F_X12_findWays_26 N n) (V 8 0) 0 N S M 0 hr hM hs (Or.inr ⟨rfl, rfl, fun i' T' h => absurd h (Nat.not_lt_zero i')⟩) (by omega) (by omega)
    have e : F_X12_findWays_26 N (n + 1) (nI t) 1 S = F_X12_findWays_26 N n (nI t) fl1 S1 := s1
    rcases s5 with ⟨p1, p⟩ | ⟨p1, p2, p3⟩
    · obtain ⟨S2, M2, u1, u2, u3⟩ := ih n S1 M1 (s2.rl hr) s3 s4 (by omega) (by omega)
      refine ⟨S2, M2, ?_, s2.trans u2, u3⟩
      rw [e, p1]
      exact u1
    · refine ⟨S1, M1, ?_, s2, s3, s4, by rw [p2]; exact fun i T h1 h2 => p3 i T h1 h1 h2⟩
      rw [e, p1]
      obtain ⟨k, rfl⟩ : ∃ k, n = k + 1 := ⟨n - 1, by omega⟩
      rfl
theorem rl_fw2 : ∀ (m k n : Nat) (S : St), k + m = 5120 → m < n → (∀ j, j < k → S.2.1 85 j = nI 100000) → ∃ S', F_X12_findWays_2 N n (nI t) (nI k) S = F_X12_findWays_26 N N (nI t) 1 S' ∧ AgQ S S' ∧ ∀ j, j < 5120 → S'.2.1 85 j = nI 100000
  | m, k, 0, S, _, hn, _ => absurd hn (Nat.not_lt_zero m)
  | 0, k, n + 1, S, hk, _, hj => by
    have e : k = 5120 := hk
    refine ⟨S, ?_, AgO.rfl, by rw [← e]; exact hj⟩
    show (if 5120 ≤ nI k then (F_X12_findWays_26 N N (nI t) 1 S) else _) = _
    rw [if_pos (show (5120 : Int32) ≤ nI k by rw [e]; decide)]
  | m + 1, k, n + 1, S, hk, hn, hj => by
    obtain ⟨S', u1, u2, u3⟩ := rl_fw2 m (k + 1) n (aset S 85 (upd (S.2.1 85) k (nI 100000))) (by omega) (by omega) (fun j hj2 => by
      rw [aset_get]
      by_cases c : j = k
      · rw [c, pk_us]
      · rw [pk_un c]; exact hj j (by omega))
    refine ⟨S', ?_, AgO.trans (AgO.aset AgO.rfl _ (by decide)) u2, u3⟩
    rw [← u1]
    show (if 5120 ≤ nI k then _ else (gd (inb (nI k) 5120) (F_X12_findWays_2 N n (nI t) (nI k + 1) (aset S 85 (upd (S.2.1 85) (Int32.toNatClampNeg (nI k)) (100000 : Int32)))))) = _
    rw [if_neg (show ¬ (5120 : Int32) ≤ nI k from nI_ge (b := 5120) (by omega) (by decide)), gd_t (inb_nI (by omega) (by decide)), nI_clamp (by omega), nI_1]
    rfl
/-- the reference's numbers: the shortest ways -/
theorem rl_ways (hN : 1000000000 ≤ N) (ok : OKV V) (ht : t < V 8 0) {S : St} (hr : RlP S V) : ∃ S' M, F_X12_findWays N (nI t) S = some S' ∧ AgQ S S' ∧ ArM S' M ∧ SndM V t M ∧ ∀ ls i T, i < V 8 0 → T < 256 → VPt V t ls i T → M (256 * i + T) ≤ ls.length := by
  obtain ⟨S1, s1, s2, s3⟩ := rl_fw2 (N := N) (t := t) 5120 0 N S (by omega) (by omega) (fun j hj => absurd hj (Nat.not_lt_zero j))
  have hsum : smN (fun _ => 100000) 5120 ≤ 5120 * 100000 := smN_le 5120 (fun _ _ => Nat.le_refl _)
  obtain ⟨S2, M, u1, u2, u3, u4, u5⟩ := rl_fw26 (N := N) (by omega) ok ht 512000000 N S1 (fun _ => 100000) (s2.rl hr) s3 ⟨fun _ _ => Nat.le_refl _, fun _ _ _ _ h => absurd h (Nat.lt_irrefl _)⟩ (by omega) (by omega)
  refine ⟨S2, M, ?_, s2.trans u2, u3, u4, fun ls i T hi hT hv => mbF_fix ok u5 ls i T hi hT hv⟩
  unfold F_X12_findWays
  exact (show F_X12_findWays_2 N N (nI t) 0 S = _ from s1).trans u1
end
