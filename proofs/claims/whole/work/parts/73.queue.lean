/-! the class's search, breadth first: the queue by numbers (ln line, tl facts told, pr the one ahead, g the way to it) -/
theorem fb_holes : ∀ (m n : Nat) (f : Nat → Nat), (∀ i, i < n → f i < m) → (∀ i j, i < j → j < n → f i ≠ f j) → n ≤ m := by
  intro m
  induction m with
  | zero =>
    intro n f h1 _
    rcases Nat.eq_zero_or_pos n with h | h
    · omega
    · exact absurd (h1 0 h) (Nat.not_lt_zero _)
  | succ m ih =>
    intro n f h1 h2
    by_cases hx : ∃ i, i < n ∧ f i = m
    · obtain ⟨a, ha, hfa⟩ := hx
      have hg := ih (n - 1) (fun i => if i < a then f i else f (i + 1)) (by
        intro i hi
        by_cases q : i < a
        · simp only [if_pos q]
          have b1 := h1 i (by omega)
          have b2 := h2 i a q ha
          omega
        · simp only [if_neg q]
          have b1 := h1 (i + 1) (by omega)
          have b2 := h2 a (i + 1) (by omega) (by omega)
          omega) (by
        intro i j hij hj
        by_cases q : i < a
        · by_cases r : j < a
          · simp only [if_pos q, if_pos r]
            exact h2 i j hij (by omega)
          · simp only [if_pos q, if_neg r]
            exact h2 i (j + 1) (by omega) (by omega)
        · have r : ¬ j < a := by omega
          simp only [if_neg q, if_neg r]
          exact h2 (i + 1) (j + 1) (by omega) (by omega))
      omega
    · have hg := ih n f (fun i hi => by
        have b1 := h1 i hi
        have b2 : f i ≠ m := fun e => hx ⟨i, hi, e⟩
        omega) h2
      omega
/-- two of them in one place -/
def lxlt (x y : List Nat) : Prop := ∃ k, k < x.length ∧ k < y.length ∧ x.getD k 0 < y.getD k 0 ∧ ∀ i, i < k → x.getD i 0 = y.getD i 0
def Lt2 (x y : List Nat) : Prop := x.length < y.length ∨ (x.length = y.length ∧ lxlt x y)
def Le2 (x y : List Nat) : Prop := x = y ∨ Lt2 x y
theorem lxlt.app {x y : List Nat} (h : lxlt x y) (u v : List Nat) : lxlt (x ++ u) (y ++ v) := by
  obtain ⟨k, h1, h2, h3, h4⟩ := h
  refine ⟨k, by rw [List.length_append]; omega, by rw [List.length_append]; omega, ?_, fun i hi => ?_⟩
  · rw [getD_app_l _ _ _ h1, getD_app_l _ _ _ h2]; exact h3
  · rw [getD_app_l _ _ _ (by omega), getD_app_l _ _ _ (by omega)]; exact h4 i hi
theorem Lt2.app1 {x y : List Nat} (h : Lt2 x y) (a b : Nat) : Lt2 (x ++ [a]) (y ++ [b]) := by
  unfold Lt2
  rw [List.length_append, List.length_append]
  show x.length + 1 < y.length + 1 ∨ _
  rcases h with h | ⟨h1, h2⟩
  · exact Or.inl (by omega)
  · exact Or.inr ⟨by show x.length + 1 = y.length + 1; omega, h2.app _ _⟩
theorem Lt2.last (x : List Nat) {a b : Nat} (h : a < b) : Lt2 (x ++ [a]) (x ++ [b]) := by
  refine Or.inr ⟨by rw [List.length_append, List.length_append]; rfl, x.length, by rw [List.length_append]; show _ < _ + 1; omega, by rw [List.length_append]; show _ < _ + 1; omega, ?_, fun i hi => ?_⟩
  · have e1 := getD_app_r x [a] 0 0
    have e2 := getD_app_r x [b] 0 0
    rw [Nat.add_zero] at e1 e2
    rw [e1, e2]
    exact h
  · rw [getD_app_l _ _ _ hi, getD_app_l _ _ _ hi]
theorem Lt2.more {x y r : List Nat} (h : Lt2 x y) (hr : 1 ≤ r.length) (a : Nat) : Lt2 (x ++ [a]) (y ++ r) := by
  unfold Lt2
  rw [List.length_append, List.length_append]
  show x.length + 1 < y.length + r.length ∨ (x.length + 1 = y.length + r.length ∧ _)
  rcases h with h | ⟨h1, h2⟩
  · exact Or.inl (by omega)
  · by_cases c : r.length = 1
    · exact Or.inr ⟨by omega, h2.app _ _⟩
    · exact Or.inl (by omega)
theorem Le2.app {x y : List Nat} (h : Le2 x y) (r : List Nat) : Le2 (x ++ r) (y ++ r) := by
  rcases h with h | h
  · exact Or.inl (by rw [h])
  · refine Or.inr ?_
    unfold Lt2
    rw [List.length_append, List.length_append]
    rcases h with h | ⟨h1, h2⟩
    · exact Or.inl (by omega)
    · exact Or.inr ⟨by omega, h2.app _ _⟩
theorem Lt2.trans {x y z : List Nat} (h : Lt2 x y) (h' : Lt2 y z) : Lt2 x z := by
  rcases h with h | ⟨h1, k, k1, k2, k3, k4⟩
  · rcases h' with h' | ⟨h', _⟩
    · exact Or.inl (by omega)
    · exact Or.inl (by omega)
  · rcases h' with h' | ⟨h1', l, l1, l2, l3, l4⟩
    · exact Or.inl (by omega)
    · refine Or.inr ⟨by omega, ?_⟩
      by_cases c : k < l
      · exact ⟨k, k1, by omega, by rw [← l4 k c]; exact k3, fun i hi => (k4 i hi).trans (l4 i (by omega))⟩
      · by_cases d : k = l
        · subst d
          exact ⟨k, k1, l2, by omega, fun i hi => (k4 i hi).trans (l4 i hi)⟩
        · exact ⟨l, by omega, l2, by rw [k4 l (by omega)]; exact l3, fun i hi => (k4 i (by omega)).trans (l4 i hi)⟩
theorem Le2.trans {x y z : List Nat} (h : Le2 x y) (h' : Le2 y z) : Le2 x z := by
  rcases h with h | h
  · rw [h]; exact h'
  · rcases h' with h' | h'
    · rw [← h']; exact Or.inr h
    · exact Or.inr (h.trans h')
def BQ (V : Nat → Nat → Nat) (t i0 T0 F a0 nx : Nat) (ln tl pr : Nat → Nat) (g : Nat → List Nat) : Prop :=
  (1 ≤ F ∧ ln 0 = i0 ∧ tl 0 = T0 ∧ g 0 = []) ∧ (∀ a, a < F → ln a < V 8 0 ∧ tl a < 256) ∧
  (∀ a, 1 ≤ a → a < F → pr a < a ∧ pr a ≤ a0 ∧ ln a ≠ t ∧ mgB V (ln (pr a)) (tl (pr a)) (ln a) = true ∧ tl a = tl (pr a) ||| V 4 (ln a) ∧ g a = g (pr a) ++ [ln a]) ∧
  (∀ a b, 1 ≤ a → a < b → b < F → pr a < pr b ∨ (pr a = pr b ∧ ln a < ln b)) ∧
  (∀ a b, 1 ≤ a → a < b → b < F → ¬ (ln a = ln b ∧ tl a = tl b)) ∧
  (∀ a j, (a < a0 ∨ (a = a0 ∧ j < nx)) → a < F → j < V 8 0 → mgB V (ln a) (tl a) j = true → j ≠ t ∧ ∃ b, 1 ≤ b ∧ b < F ∧ ln b = j ∧ tl b = tl a ||| V 4 j ∧ pr b ≤ a) ∧
  (∀ b, 1 ≤ b → b < F → pr b = a0 → ln b < nx)
section
variable {V : Nat → Nat → Nat} {t i0 T0 F a0 nx : Nat} {ln tl pr : Nat → Nat} {g : Nat → List Nat}
theorem BQ.lt (h : BQ V t i0 T0 F a0 nx ln tl pr g) : ∀ b a, a < b → b < F → Lt2 (g a) (g b) := by
  obtain ⟨⟨h1, h2, h3, h4⟩, -, h5, h6, -⟩ := h
  intro b
  induction b using Nat.strongRecOn with
  | ind b ih =>
    intro a hab hb
    obtain ⟨q1, -, -, -, -, q6⟩ := h5 b (by omega) hb
    rcases Nat.eq_zero_or_pos a with c | c
    · subst c
      rw [h4, q6]
      left
      rw [List.length_append]
      show 0 < _ + 1
      omega
    · obtain ⟨p1, -, -, -, -, p6⟩ := h5 a c (by omega)
      rw [p6, q6]
      rcases h6 a b c hab hb with z | ⟨z1, z2⟩
      · exact (ih (pr b) q1 (pr a) z (by omega)).app1 _ _
      · rw [z1]
        exact Lt2.last _ z2
theorem BQ.le (h : BQ V t i0 T0 F a0 nx ln tl pr g) {a b : Nat} (hab : a ≤ b) (hb : b < F) : Le2 (g a) (g b) := by
  by_cases c : a = b
  · exact Or.inl (by rw [c])
  · exact Or.inr (h.lt b a (by omega) hb)
theorem VPt.len {t : Nat} {ls : List Nat} {i T : Nat} (h : VPt V t ls i T) : 1 ≤ ls.length := by
  cases ls with
  | nil => exact h.elim
  | cons j ls => rw [List.length_cons]; omega
theorem BQ.min (h : BQ V t i0 T0 F a0 t ln tl pr g) (ha0 : a0 < F) : ∀ (rest : List Nat) (a : Nat), a < F → VPt V t rest (ln a) (tl a) → Le2 (g a0 ++ [t]) (g a ++ rest) := by
  intro rest
  induction rest with
  | nil => intro a _ hv; exact hv.elim
  | cons j rest ih =>
    intro a haF hv
    by_cases c : a0 < a
    · exact Or.inr ((h.lt a a0 c haF).more (by rw [List.length_cons]; omega) t)
    · obtain ⟨v1, v2, v3⟩ := id hv
      by_cases d : a < a0 ∨ (a = a0 ∧ j < t)
      · obtain ⟨w1, b, b1, b2, b3, b4, b5⟩ := h.2.2.2.2.2.1 a j d haF v1 v2
        rw [if_neg w1] at v3
        have hb := ih b b2 (by rw [b3, b4]; exact v3)
        obtain ⟨-, -, -, -, -, q6⟩ := h.2.2.1 b b1 b2
        have hle : Le2 (g b) (g a ++ [j]) := by
          rw [q6, b3]
          exact (h.le b5 haF).app [j]
        have := hb.trans (hle.app rest)
        rw [List.append_assoc] at this
        exact this
      · have e : a = a0 := by omega
        subst e
        by_cases f : j = t
        · rw [if_pos f] at v3
          rw [f, v3]
          exact Or.inl rfl
        · rw [if_neg f] at v3
          have := v3.len
          refine Or.inr (Or.inl ?_)
          simp only [List.length_append, List.length_cons, List.length_nil]
          omega
theorem BQ.none (h : BQ V t i0 T0 F F 0 ln tl pr g) : ∀ (rest : List Nat) (a : Nat), a < F → ¬ VPt V t rest (ln a) (tl a) := by
  intro rest
  induction rest with
  | nil => intro a _ hv; exact hv.elim
  | cons j rest ih =>
    intro a haF hv
    obtain ⟨v1, v2, v3⟩ := id hv
    obtain ⟨w1, b, b1, b2, b3, b4, b5⟩ := h.2.2.2.2.2.1 a j (Or.inl haF) haF v1 v2
    rw [if_neg w1] at v3
    exact ih b b2 (by rw [b3, b4]; exact v3)
/-- the way to a place of the queue is a way -/
theorem BQ.way (h : BQ V t i0 T0 F a0 nx ln tl pr g) : ∀ (a : Nat), a < F → ∀ ls, VPt V t ls (ln a) (tl a) → VPt V t (g a ++ ls) i0 T0 := by
  obtain ⟨⟨h1, h2, h3, h4⟩, hb, h5, -⟩ := id h
  intro a
  induction a using Nat.strongRecOn with
  | ind a ih =>
    intro haF ls hv
    rcases Nat.eq_zero_or_pos a with c | c
    · subst c
      rw [h4]
      rw [h2, h3] at hv
      exact hv
    · obtain ⟨q1, -, q3, q4, q5, q6⟩ := h5 a c haF
      rw [q6, List.append_assoc]
      refine ih (pr a) q1 (by omega) ([ln a] ++ ls) ⟨(hb a haF).1, q4, ?_⟩
      rw [if_neg q3, ← q5]
      exact hv
theorem BQ.len (h : BQ V t i0 T0 F a0 nx ln tl pr g) : ∀ (a : Nat), a < F → (g a).length ≤ a ∧ (1 ≤ a → 1 ≤ (g a).length ∧ (g (pr a)).length + 1 = (g a).length) := by
  obtain ⟨⟨h1, h2, h3, h4⟩, hb, h5, -⟩ := id h
  intro a
  induction a using Nat.strongRecOn with
  | ind a ih =>
    intro haF
    rcases Nat.eq_zero_or_pos a with c | c
    · subst c
      rw [h4]
      exact ⟨Nat.le_refl _, fun z => absurd z (by decide)⟩
    · obtain ⟨q1, -, -, -, -, q6⟩ := h5 a c haF
      have := (ih (pr a) q1 (by omega)).1
      rw [q6, List.length_append]
      show _ + 1 ≤ a ∧ (1 ≤ a → 1 ≤ _ + 1 ∧ _ + 1 = _ + 1)
      exact ⟨by omega, fun _ => ⟨by omega, rfl⟩⟩
/-- there is room -/
theorem BQ.room (ok : OKV V) (h : BQ V t i0 T0 F a0 nx ln tl pr g) {j T : Nat} (hj : j < V 8 0) (hT : T < 256) (hnew : ∀ b, 1 ≤ b → b < F → ¬ (ln b = j ∧ tl b = T)) : F ≤ 5120 := by
  have h20 := ok.1
  obtain ⟨⟨h1, -⟩, hb, -, -, hd, -⟩ := h
  refine fb_holes 5120 F (fun a => if a + 1 < F then 256 * ln (a + 1) + tl (a + 1) else 256 * j + T) (fun i hi => ?_) (fun i k hik hk => ?_)
  · show (if i + 1 < F then _ else _) < 5120
    by_cases c : i + 1 < F
    · rw [if_pos c]
      have := hb (i + 1) c
      omega
    · rw [if_neg c]; omega
  · show (if i + 1 < F then 256 * ln (i + 1) + tl (i + 1) else 256 * j + T) ≠ (if k + 1 < F then 256 * ln (k + 1) + tl (k + 1) else 256 * j + T)
    rw [if_pos (show i + 1 < F by omega)]
    have p1 := hb (i + 1) (by omega)
    by_cases c : k + 1 < F
    · rw [if_pos c]
      have p2 := hb (k + 1) c
      have p3 := hd (i + 1) (k + 1) (by omega) (by omega) c
      intro e
      exact p3 ⟨by omega, by omega⟩
    · rw [if_neg c]
      have p3 := hnew (i + 1) (by omega) (by omega)
      intro e
      exact p3 ⟨by omega, by omega⟩
def upN {α : Type} (f : Nat → α) (k : Nat) (v : α) : Nat → α := fun a => if a = k then v else f a
theorem upN_s {α : Type} (f : Nat → α) (k : Nat) (v : α) : upN f k v k = v := if_pos rfl
theorem upN_n {α : Type} (f : Nat → α) {k a : Nat} (v : α) (h : a ≠ k) : upN f k v a = f a := if_neg h
/-- nothing new by nx -/
theorem BQ.skip (h : BQ V t i0 T0 F a0 nx ln tl pr g) (hn : nx < V 8 0 → mgB V (ln a0) (tl a0) nx = true → nx ≠ t ∧ ∃ b, 1 ≤ b ∧ b < F ∧ ln b = nx ∧ tl b = tl a0 ||| V 4 nx ∧ pr b ≤ a0) : BQ V t i0 T0 F a0 (nx + 1) ln tl pr g := by
  obtain ⟨h1, h2, h3, h4, h5, h6, h7⟩ := h
  refine ⟨h1, h2, h3, h4, h5, fun a j hc haF hj hm => ?_, fun b b1 b2 b3 => by have := h7 b b1 b2 b3; omega⟩
  by_cases e : a = a0 ∧ j = nx
  · obtain ⟨rfl, rfl⟩ := e
    exact hn hj hm
  · exact h6 a j (by omega) haF hj hm
theorem BQ.next (h : BQ V t i0 T0 F a0 (V 8 0) ln tl pr g) : BQ V t i0 T0 F (a0 + 1) 0 ln tl pr g := by
  obtain ⟨h1, h2, h3, h4, h5, h6, h7⟩ := h
  refine ⟨h1, h2, fun a a1 a2 => ?_, h4, h5, fun a j hc haF hj hm => h6 a j (by omega) haF hj hm, fun b b1 b2 b3 => ?_⟩
  · obtain ⟨q1, q2, q3⟩ := h3 a a1 a2
    exact ⟨q1, by omega, q3⟩
  · have := (h3 b b1 b2).2.1
    omega
/-- a new place in the queue -/
theorem BQ.add (ok : OKV V) (h : BQ V t i0 T0 F a0 nx ln tl pr g) (ha0 : a0 < F) (hnx : nx < V 8 0) (hnt : nx ≠ t) (hm : mgB V (ln a0) (tl a0) nx = true) (hnew : ∀ b, 1 ≤ b → b < F → ¬ (ln b = nx ∧ tl b = tl a0 ||| V 4 nx)) : BQ V t i0 T0 (F + 1) a0 (nx + 1) (upN ln F nx) (upN tl F (tl a0 ||| V 4 nx)) (upN pr F a0) (upN g F (g a0 ++ [nx])) := by
  obtain ⟨⟨h1, h1b, h1c, h1d⟩, h2, h3, h4, h5, h6, h7⟩ := h
  have n0 : (0 : Nat) ≠ F := by omega
  have na : a0 ≠ F := by omega
  refine ⟨⟨by omega, by rw [upN_n _ _ n0]; exact h1b, by rw [upN_n _ _ n0]; exact h1c, by rw [upN_n _ _ n0]; exact h1d⟩, fun a ha => ?_, fun a a1 a2 => ?_, fun a b a1 ab b2 => ?_, fun a b a1 ab b2 => ?_, fun a j hc haF hj hmm => ?_, fun b b1 b2 b3 => ?_⟩
  · by_cases c : a = F
    · rw [c, upN_s, upN_s]; exact ⟨hnx, or256 ok hnx (h2 a0 ha0).2⟩
    · rw [upN_n _ _ c, upN_n _ _ c]; exact h2 a (by omega)
  · by_cases c : a = F
    · subst c
      rw [upN_s, upN_s, upN_s, upN_s, upN_n _ _ na, upN_n _ _ na, upN_n _ _ na]
      exact ⟨ha0, Nat.le_refl _, hnt, hm, rfl, rfl⟩
    · obtain ⟨q1, q2, q3, q4, q5, q6⟩ := h3 a a1 (by omega)
      have np : pr a ≠ F := by omega
      rw [upN_n _ _ c, upN_n _ _ c, upN_n _ _ c, upN_n _ _ c, upN_n _ _ np, upN_n _ _ np, upN_n _ _ np]
      exact ⟨q1, q2, q3, q4, q5, q6⟩
  · have ca : a ≠ F := by omega
    rw [upN_n _ _ ca, upN_n _ _ ca]
    by_cases c : b = F
    · subst c
      rw [upN_s, upN_s]
      have q := (h3 a a1 (by omega)).2.1
      by_cases d : pr a = a0
      · exact Or.inr ⟨d, h7 a a1 (by omega) d⟩
      · exact Or.inl (by omega)
    · rw [upN_n _ _ c, upN_n _ _ c]
      exact h4 a b a1 ab (by omega)
  · have ca : a ≠ F := by omega
    rw [upN_n _ _ ca, upN_n _ _ ca]
    by_cases c : b = F
    · subst c
      rw [upN_s, upN_s]
      exact hnew a a1 (by omega)
    · rw [upN_n _ _ c, upN_n _ _ c]
      exact h5 a b a1 ab (by omega)
  · have ca : a ≠ F := by omega
    rw [upN_n _ _ ca, upN_n _ _ ca] at hmm
    rw [upN_n _ _ ca]
    by_cases e : a = a0 ∧ j = nx
    · obtain ⟨rfl, rfl⟩ := e
      exact ⟨hnt, F, by omega, by omega, upN_s _ _ _, upN_s _ _ _, by rw [upN_s]; exact Nat.le_refl _⟩
    · obtain ⟨w1, b, b1, b2, b3, b4, b5⟩ := h6 a j (by omega) (by omega) hj hmm
      have cb : b ≠ F := by omega
      exact ⟨w1, b, b1, by omega, by rw [upN_n _ _ cb]; exact b3, by rw [upN_n _ _ cb]; exact b4, by rw [upN_n _ _ cb]; exact b5⟩
  · by_cases c : b = F
    · subst c
      rw [upN_s]; omega
    · rw [upN_n _ _ c] at b3
      rw [upN_n _ _ c]
      have := h7 b b1 (by omega) b3
      omega
end
