section
variable {tx : Nat → Nat} {len : Nat}
theorem NX6 {p : Nat} : NX tx len 6 p := fun _ => ⟨fun z => absurd z (by decide), fun z => absurd z (by decide), fun z => absurd z (by decide), fun z => absurd z (by decide)⟩
/-- where the machine stops -/
theorem step_none {p : Nat} {W : List Nat} {m : List Int32} {o br dg : Nat} {ak : Bool} (hp : p < len) (hd : dg = 0 ∨ ¬ dgAt tx len p) (hn : NX tx len 1 p) (hc : cmpAt tx len p → sgS ((stl 4 W m o).1.headD 0) = 3) (h41 : tx p = 41 → br = 0) (h63 : tx p = 63 → ¬ (br = 0 ∧ ak = false)) (h59 : tx p = 59 → ¬ br = 0) : cstep (tx p) (W, m, o, br, dg, false, ak) = none := by
  unfold cstep
  rw [if_neg (show ¬ (W, m, o, br, dg, false, ak).2.2.2.2.2.1 = true from fun z => by cases z)]
  by_cases c1 : isDg (tx p) = true
  · rw [if_pos c1]
    exact if_neg (fun z => hd.elim (fun e => by have z1 : 1 ≤ dg := z.1; omega) (fun e => e ⟨hp, c1⟩))
  · rw [if_neg c1]
    by_cases c2 : tx p = 41
    · rw [if_pos c2]
      exact if_pos (h41 c2)
    · rw [if_neg c2]
      by_cases c3 : tx p = 63
      · rw [if_pos c3]
        exact if_neg (h63 c3)
      · rw [if_neg c3]
        by_cases c4 : tx p = 59
        · rw [if_pos c4]
          exact if_neg (h59 c4)
        · rw [if_neg c4]
          unfold cJoin
          by_cases c5 : sgS (tx p) = 0 ∨ sgS (tx p) = 6
          · rw [if_pos c5]
          · rw [if_neg c5]
            obtain ⟨a1, a2, a3, a4⟩ := hn hp
            have := sgS_le (tx p)
            have e3 : sgS (tx p) = 3 := by
              have := a1 (by decide); have := a2 (by decide); have := a3 (by decide); have := a4 (by decide)
              omega
            have h3 := hc ⟨hp, e3⟩
            rw [e3]
            exact if_pos ⟨rfl, h3⟩
theorem in_dg (htx : ∀ i, i < len → tx i < 256) {p : Nat} (S : St) : F_X12_in (lkV tx len p) 48 57 S = some (if p < len ∧ isDg (tx p) = true then 1 else 0, S) := by
  unfold F_X12_in lkV
  by_cases c : p < len
  · rw [if_pos c]
    have key : ∀ c, c < 256 → (isDg c = true → ¬ (nI c).toInt8.toInt32 < 48 ∧ ¬ 57 < (nI c).toInt8.toInt32) ∧ (¬ isDg c = true → (nI c).toInt8.toInt32 < 48 ∨ 57 < (nI c).toInt8.toInt32) := by decide +kernel
    have k := key (tx p) (htx p c)
    by_cases d : isDg (tx p) = true
    · rw [if_neg (k.1 d).1, if_neg (k.1 d).2, if_pos ⟨c, d⟩]
    · rw [if_neg (show ¬ (p < len ∧ isDg (tx p) = true) from fun z => d z.2)]
      by_cases e : (nI (tx p)).toInt8.toInt32 < 48
      · rw [if_pos e]
      · rw [if_neg e, if_pos ((k.2 d).resolve_left e)]
  · rw [if_neg c, if_pos (show (-1 : Int32) < 48 by decide), if_neg (show ¬ (p < len ∧ isDg (tx p) = true) from fun z => c z.1)]
/-- one figure or one name -/
theorem res_tok {p op p1 : Nat} {TS : List (Nat × Nat)} {S S' : St} (hag : AgU S S') (t : Nat × Nat) (hpr : PR tx len S' p1 op (TS ++ [t])) (hp : p < p1) (ho : okT t) (h1 : t.1 ≤ 1) {dg : Nat} (hd : dg = 0 ∨ ¬ dgAt tx len p1) (hc : ∀ W O ak, crun tx len (len - p) (W, O, op, bB W, 0, true, ak) = crun tx len (len - p1) (W, tkC t :: O, op, bB W, dg, false, ak)) : RES tx len 6 p op TS S (some S') := by
  have hG : GoodP tx len 6 p op p1 [t] := by
    intro W O ak hW hu hcd
    refine ⟨[], tkC t :: O, dg, ?_, ?_, rfl, hd, ?_⟩
    · intro s hs; cases hs
    · rw [hc W O ak]
      show _ = crun tx len (len - p1) (W, tkC t :: O, uB W, bB W, dg, false, ak)
      rw [hu]
    · intro z; exact absurd z (by decide)
  refine ⟨S', rfl, hag, Or.inl ⟨p1, [t], hpr, hp, by show 1 ≤ _; omega, fun z hz => ?_, fun h => ?_, hG, NX6⟩⟩
  · rcases List.mem_cons.mp hz with e | e
    · rw [e]; exact ho
    · cases e
  · show (if t.1 ≤ 1 then some (h + 1) else _) = _
    rw [if_pos h1]
theorem dg_val : ∀ c, c < 256 → isDg c = true → c < 128 ∧ c - 48 ≤ 9 ∧ 48 ≤ c := by decide +kernel
theorem ten_step {x c : Nat} (hc : 48 ≤ c) : ((10 * nI x) + nI c) - 48 = nI (10 * x + (c - 48)) := by
  have e : (10 : Int32) * nI x = nI (10 * x) := (Int32.ofNat_mul 10 x).symm
  rw [e, nI_add]
  have e2 : 10 * x + c = (10 * x + (c - 48)) + 48 := by omega
  rw [e2, ← nI_add]
  exact Int32.add_sub_cancel _ _
theorem ten_step2 {x c : Nat} : nI x * 10 + nI (c - 48) = nI (10 * x + (c - 48)) := by
  have e : nI x * (10 : Int32) = nI (x * 10) := (Int32.ofNat_mul x 10).symm
  rw [e, nI_add, Nat.mul_comm]
theorem fig_end (hl : len ≤ 120) (htx : ∀ i, i < len → tx i < 256) {p op : Nat} {TS : List (Nat × Nat)} {S0 S : St} {k x : Nat} (hk1 : 1 ≤ k) (hx : x ≤ 9999) (hpr : PR tx len S (p + k) op TS) (hT : TS.length ≤ p) (hag : AgU S0 S) (hk2 : dgAt tx len (p + k) → k = 4) (hc : ∀ W O ak, crun tx len (len - p) (W, O, op, bB W, 0, true, ak) = crun tx len (len - (p + k)) (W, nI x :: O, op, bB W, k, false, ak)) (hk4 : k ≤ 4) : RES tx len 6 p op TS S0 (F_X12_figure_52 (nI x) (nI k) S) := by
  have hpl := hpr.2.2.1
  have lk := look_eq hl hpr.1 hpl
  have hin := in_dg htx (p := p + k) S
  unfold F_X12_figure_52
  rw [if_neg (nI_ne0 hk1 (by omega))]
  simp only [lk, Option.bind_some, hin]
  by_cases c : p + k < len ∧ isDg (tx (p + k)) = true
  · rw [if_pos c, if_neg (by decide)]
    rw [faulty_eq hpr.1]
    simp only [Option.bind_some]
    have hb : PB tx len (fset S 63 21 (nI (p + k))) (p + k) (nI (p + k)) (nI op) TS.length := ⟨hpr.1.1, hpr.1.2.1, rfl, hpr.1.2.2.2.1, hpr.1.2.2.2.2.1, hpr.1.2.2.2.2.2⟩
    rw [lay_eq hb (by omega) (x1 := 1) (x2 := nI x) (t := (0, x)) rfl rfl]
    refine ⟨_, rfl, hag.trans ((AgU.rfl.fs _ (by decide)).trans (lay_ag _ _ _)), Or.inr ⟨p + k, p + k, TS.length + 1, ?_, hpl, hpl, by omega, by omega, fun W O ak hW hu hcd => ?_⟩⟩
    · have h2 := hb.lay (0, x)
      exact ⟨h2.1, h2.2.1, h2.2.2.1, rfl, h2.2.2.2.2.1, h2.2.2.2.2.2⟩
    · rw [hc W O ak, crun_step c.1]
      have e : cstep (tx (p + k)) (W, nI x :: O, op, bB W, k, false, ak) = none := by
        unfold cstep
        rw [if_neg (show ¬ (W, nI x :: O, op, bB W, k, false, ak).2.2.2.2.2.1 = true from fun z => by cases z), if_pos c.2]
        exact if_neg (fun z => by have z2 : k < 4 := z.2; have := hk2 c; omega)
      rw [e]
  · rw [if_neg c, if_pos rfl]
    rw [lay_eq hpr.1 (by omega) (x1 := 1) (x2 := nI x) (t := (0, x)) rfl rfl]
    exact res_tok (hag.trans (lay_ag _ _ _)) (0, x) (hpr.lay _ (by omega)) (by omega) (Or.inl ⟨rfl, hx⟩) (Nat.zero_le 1) (Or.inr c) hc
theorem fig_go (hl : len ≤ 120) (htx : ∀ i, i < len → tx i < 256) {p op : Nat} {TS : List (Nat × Nat)} {S0 : St} (hT : TS.length ≤ p) : ∀ (n k x : Nat) (S : St), 1 ≤ k → k ≤ 4 → x < 10 ^ k → PR tx len S (p + k) op TS → AgU S0 S → (∀ W O ak, crun tx len (len - p) (W, O, op, bB W, 0, true, ak) = crun tx len (len - (p + k)) (W, nI x :: O, op, bB W, k, false, ak)) → 5 ≤ n + k → RES tx len 6 p op TS S0 (F_X12_figure_4 n (nI x) (nI k) S)
  | 0, k, x, S, _, h4, _, _, _, _, hn => absurd hn (by omega)
  | n + 1, k, x, S, h1, h4, hx, hpr, hag, hc, hn => by
    have hpl := hpr.2.2.1
    have lk := look_eq hl hpr.1 hpl
    have hin := in_dg htx (p := p + k) S
    have hx4 : x ≤ 9999 := by
      have : 10 ^ k ≤ 10 ^ 4 := Nat.pow_le_pow_right (by decide) h4
      omega
    show RES tx len 6 p op TS S0 (if 4 ≤ nI k then (F_X12_figure_52 (nI x) (nI k) S) else ((F_X12_look S).bind (fun r_10 => (F_X12_in r_10.1 (48 : Int32) (57 : Int32) r_10.2).bind (fun r_17 => if r_17.1 = 0 then (F_X12_figure_52 (nI x) (nI k) r_17.2) else ((F_X12_look r_17.2).bind (fun r_28 => let S46 := fset r_28.2 63 20 ((r_28.2.1 63 20) + 1); (F_X12_figure_4 n) (((10 * nI x) + r_28.1) - 48) (nI k + 1) S46))))))
    by_cases q : k = 4
    · rw [if_pos (show (4 : Int32) ≤ nI k by rw [q]; decide)]
      exact fig_end hl htx h1 hx4 hpr hT hag (fun _ => q) hc h4
    · rw [if_neg (show ¬ (4 : Int32) ≤ nI k from nI_ge (a := k) (b := 4) (by omega) (by decide))]
      simp only [lk, Option.bind_some, hin]
      by_cases c : p + k < len ∧ isDg (tx (p + k)) = true
      · have hv := dg_val _ (htx _ c.1) c.2
        rw [if_pos c, if_neg (by decide), lkV_in c.1 hv.1, ten_step hv.2.2, nI_1]
        refine fig_go hl htx hT n (k + 1) _ _ (by omega) (by omega) (by rw [Nat.pow_succ]; omega) (hpr.here c.1) (hag.trans (here_ag S _)) (fun W O ak => ?_) (by omega)
        rw [hc W O ak, crun_step c.1]
        have e : cstep (tx (p + k)) (W, nI x :: O, op, bB W, k, false, ak) = some (W, nI (10 * x + (tx (p + k) - 48)) :: O, op, bB W, k + 1, false, ak) := by
          unfold cstep
          rw [if_neg (show ¬ (W, nI x :: O, op, bB W, k, false, ak).2.2.2.2.2.1 = true from fun z => by cases z), if_pos c.2, if_pos (show 1 ≤ (W, nI x :: O, op, bB W, k, false, ak).2.2.2.2.1 ∧ (W, nI x :: O, op, bB W, k, false, ak).2.2.2.2.1 < 4 from ⟨h1, by show k < 4; omega⟩)]
          show some (W, (nI x * 10 + nI (tx (p + k) - 48)) :: O, op, bB W, k + 1, false, ak) = _
          rw [ten_step2]
        rw [e]
        rfl
      · rw [if_neg c, if_pos rfl]
        exact fig_end hl htx h1 hx4 hpr hT hag (fun z => absurd z c) hc h4
end
