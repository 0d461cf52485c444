/-! what acts answer, and what runs -/
def acCue (b : Int32) (k : Nat) (x : Int32) : Int32 × List Int32 := if k = 1 ∨ k = 4 then (x + b + 3, [20, 1]) else if k = 7 then ((x + b) * 2 - 1, [81, 70, 1]) else if k = 6 then ((x + b) * 2, [70, 1]) else (x + b, [1])
def acPh (b : Int32) (k : Nat) (x : Int32) : Int32 × List Int32 := ((acCue b k x).1 * 2, 10 :: (acCue b k x).2)
def acDh (b : Int32) (k : Nat) (x : Int32) : Int32 × List Int32 := (-(acPh b k x).1, 30 :: (acPh b k x).2)
def acJum (b : Int32) (k : Nat) (x : Int32) : Int32 × List Int32 := if k = 5 then ((x ^^^ b) * 3 - (acCue b k 2).1, 60 :: ([40, 11] ++ (acCue b k 2).2)) else if k = 3 then ((x ^^^ b) * 3, [40, 11]) else (x ^^^ b, [11])
def acHol (b : Int32) (k : Nat) (x : Int32) : Int32 × List Int32 := if k = 3 ∨ k = 5 then ((acDh b k (x + 1)).1, 41 :: (acDh b k (x + 1)).2) else if k = 7 then ((acPh b k x).1 + (acJum b k 2).1, 80 :: ((acPh b k x).2 ++ (acJum b k 2).2)) else if k = 2 then acDh b k x else acPh b k x
def acPp (b : Int32) (k : Nat) (x : Int32) : Int32 × List Int32 := ((acHol b k x).1 - (acJum b k 1).1, 2 :: ((acHol b k x).2 ++ (acJum b k 1).2))
def acPro (b : Int32) (k : Nat) (x : Int32) : Int32 × List Int32 := if k = 4 then ((acPp b k x).1 ^^^ 5, 50 :: (acPp b k x).2) else if k = 5 then ((acPp b k x).1 + 1, 61 :: (acPp b k x).2) else acPp b k x
theorem le30 {d : Nat} (h : d ≤ 30) : nI d ≤ (30 : Int32) := nI_le (b := 30) h (by decide)
section
variable {N q k : Nat}
theorem Sp.own {n d a : Nat} {c x v : Int32} {tr : List Int32} (hN : 130 ≤ N) (hq : q < 50) (hd : d + 1 ≤ 30) (hfr : ∀ (m : Nat) (S : St), F_X0_from_6 (rec_X0_from N n) (m + 9) (nI a) x (nI (d + 1)) (nI k) (nI 0) S = (F_X0_begun (rec_X0_from N n) c x (nI (d + 1)) S).bind (fun z => some (z.1, z.2))) (h : Sp q k (F_X0_begun (rec_X0_from N n) c x (nI (d + 1))) v tr) : Sp q k (F_X0_own (rec_X0_from N (n + 1)) (nI a) x (nI d)) v tr := by
  intro S l h1 h2 h3 h4
  obtain ⟨S', s1, s2, s3⟩ := h S l h1 h2 h3 h4
  refine ⟨S', ?_, s2, s3⟩
  unfold F_X0_own
  rw [h1, gd_t (inb_nI hq (by decide)), nI_clamp (by omega), h2, nI_1]
  have e := hfr (N - 9) S
  rw [show N - 9 + 9 = N by omega] at e
  have e' : rec_X0_from N (n + 1) (nI k) (nI a) x (nI (d + 1)) S = _ := e
  rw [e', s1]
  rfl
theorem Sp.above {n d a K s : Nat} {c x v : Int32} {tr : List Int32} (hN : 130 ≤ N) (hK : K < 8) (hs : aboveT K = nI s) (hd : d + 1 ≤ 30) (hfr : ∀ (m : Nat) (S : St), F_X0_from_6 (rec_X0_from N n) (m + 9) (nI a) x (nI (d + 1)) (nI s) (nI 0) S = (F_X0_begun (rec_X0_from N n) c x (nI (d + 1)) S).bind (fun z => some (z.1, z.2))) (h : Sp q k (F_X0_begun (rec_X0_from N n) c x (nI (d + 1))) v tr) : Sp q k (F_X0_above (rec_X0_from N (n + 1)) (nI K) (nI a) x (nI d)) v tr := by
  intro S l h1 h2 h3 h4
  obtain ⟨S', s1, s2, s3⟩ := h S l h1 h2 h3 h4
  refine ⟨S', ?_, s2, s3⟩
  unfold F_X0_above
  rw [gd_t (inb_nI hK (by decide)), nI_clamp (by omega), hs, nI_1]
  have e := hfr (N - 9) S
  rw [show N - 9 + 9 = N by omega] at e
  have e' : rec_X0_from N (n + 1) (nI s) (nI a) x (nI (d + 1)) S = _ := e
  rw [e', s1]
  rfl
theorem Sp.base {g : Int32 → Int32} : Sp q k (fun S => some (g (S.1 12 4), S)) (g (nI q)) [] := by
  intro S l h1 h2 h3 h4
  refine ⟨S, ?_, by rw [List.append_nil]; exact h3, AgO.rfl⟩
  show some (g (S.1 12 4), S) = _
  rw [h1]
theorem cg_1 (n d : Nat) (x : Int32) : Sp q k (F_X0_begun (rec_X0_from N n) 1 x (nI d)) (x + nI q) [1] := Sp.begun (b19_1 _ x _) (Sp.base (g := fun b => x + b))
theorem cg_11 (n d : Nat) (x : Int32) : Sp q k (F_X0_begun (rec_X0_from N n) 11 x (nI d)) (x ^^^ nI q) [11] := Sp.begun (b19_11 _ x _) (Sp.base (g := fun b => x ^^^ b))
theorem cg_20 (hN : 130 ≤ N) (n d : Nat) (hd : d + 1 ≤ 30) (x : Int32) : Sp q k (F_X0_begun (rec_X0_from N (n + 1)) 20 x (nI d)) (x + nI q + 3) [20, 1] := Sp.begun (b19_20 _ x _) ((Sp.above (K := 1) (s := 0) (a := 0) hN (by decide) (by decide) hd (fun m S => fr_0_0 _ m x _ (le30 hd) S) (cg_1 n (d + 1) x)).map (fun z => z + 3))
theorem cg_70 (hN : 130 ≤ N) (n d : Nat) (hd : d + 1 ≤ 30) (x : Int32) : Sp q k (F_X0_begun (rec_X0_from N (n + 1)) 70 x (nI d)) ((x + nI q) * 2) [70, 1] := Sp.begun (b19_70 _ x _) ((Sp.above (K := 6) (s := 0) (a := 0) hN (by decide) (by decide) hd (fun m S => fr_0_0 _ m x _ (le30 hd) S) (cg_1 n (d + 1) x)).map (fun z => z * 2))
theorem cg_81 (hN : 130 ≤ N) (n d : Nat) (hd : d + 2 ≤ 30) (x : Int32) : Sp q k (F_X0_begun (rec_X0_from N (n + 2)) 81 x (nI d)) ((x + nI q) * 2 - 1) [81, 70, 1] := Sp.begun (b19_81 _ x _) ((Sp.above (K := 7) (s := 6) (a := 0) hN (by decide) (by decide) (by omega) (fun m S => fr_6_0 _ m x _ (le30 (by omega)) S) (cg_70 hN n (d + 1) (by omega) x)).map (fun z => z - 1))
theorem ow_cue (hN : 130 ≤ N) (hq : q < 50) (hk : k < 8) (n d : Nat) (hd : d + 3 ≤ 30) (x : Int32) : Sp q k (F_X0_own (rec_X0_from N (n + 3)) (nI 0) x (nI d)) (acCue (nI q) k x).1 (acCue (nI q) k x).2 := by
  have hl : nI (d + 1) ≤ (30 : Int32) := le30 (by omega)
  rcases lt8 hk with rfl | rfl | rfl | rfl | rfl | rfl | rfl | rfl
  · exact Sp.own (n := n + 2) hN hq (by omega) (fun m S => fr_0_0 _ m x _ hl S) (cg_1 _ _ x)
  · exact Sp.own (n := n + 2) hN hq (by omega) (fun m S => fr_1_0 _ m x _ hl S) (cg_20 hN (n + 1) _ (by omega) x)
  · exact Sp.own (n := n + 2) hN hq (by omega) (fun m S => fr_2_0 _ m x _ hl S) (cg_1 _ _ x)
  · exact Sp.own (n := n + 2) hN hq (by omega) (fun m S => fr_3_0 _ m x _ hl S) (cg_1 _ _ x)
  · exact Sp.own (n := n + 2) hN hq (by omega) (fun m S => fr_4_0 _ m x _ hl S) (cg_20 hN (n + 1) _ (by omega) x)
  · exact Sp.own (n := n + 2) hN hq (by omega) (fun m S => fr_5_0 _ m x _ hl S) (cg_1 _ _ x)
  · exact Sp.own (n := n + 2) hN hq (by omega) (fun m S => fr_6_0 _ m x _ hl S) (cg_70 hN (n + 1) _ (by omega) x)
  · exact Sp.own (n := n + 2) hN hq (by omega) (fun m S => fr_7_0 _ m x _ hl S) (cg_81 hN n _ (by omega) x)
theorem cg_10 (hN : 130 ≤ N) (hq : q < 50) (hk : k < 8) (n d : Nat) (hd : d + 3 ≤ 30) (x : Int32) : Sp q k (F_X0_begun (rec_X0_from N (n + 3)) 10 x (nI d)) (acPh (nI q) k x).1 (acPh (nI q) k x).2 := Sp.begun (b19_10 _ x _) ((ow_cue hN hq hk n d hd x).map (fun z => z * 2))
theorem cg_30 (hN : 130 ≤ N) (hq : q < 50) (hk : k < 8) (n d : Nat) (hd : d + 4 ≤ 30) (x : Int32) : Sp q k (F_X0_begun (rec_X0_from N (n + 4)) 30 x (nI d)) (acDh (nI q) k x).1 (acDh (nI q) k x).2 := Sp.begun (b19_30 _ x _) ((Sp.above (K := 2) (s := 0) (a := 1) hN (by decide) (by decide) (by omega) (fun m S => fr_0_1 _ m x _ (le30 (by omega)) S) (cg_10 hN hq hk n (d + 1) (by omega) x)).map (fun z => -z))
theorem cg_41 (hN : 130 ≤ N) (hq : q < 50) (hk : k < 8) (n d : Nat) (hd : d + 5 ≤ 30) (x : Int32) : Sp q k (F_X0_begun (rec_X0_from N (n + 5)) 41 x (nI d)) (acDh (nI q) k (x + 1)).1 (41 :: (acDh (nI q) k (x + 1)).2) := Sp.begun (b19_41 _ x _) ((Sp.above (K := 3) (s := 2) (a := 1) hN (by decide) (by decide) (by omega) (fun m S => fr_2_1 _ m (x + 1) _ (le30 (by omega)) S) (cg_30 hN hq hk n (d + 1) (by omega) (x + 1))).map (fun z => z))
theorem cg_40 (hN : 130 ≤ N) (n d : Nat) (hd : d + 1 ≤ 30) (x : Int32) : Sp q k (F_X0_begun (rec_X0_from N (n + 1)) 40 x (nI d)) ((x ^^^ nI q) * 3) [40, 11] := Sp.begun (b19_40 _ x _) ((Sp.above (K := 3) (s := 2) (a := 2) hN (by decide) (by decide) hd (fun m S => fr_2_2 _ m x _ (le30 hd) S) (cg_11 n (d + 1) x)).map (fun z => z * 3))
theorem cg_60 (hN : 130 ≤ N) (hq : q < 50) (hk : k < 8) (n d : Nat) (hd : d + 3 ≤ 30) (x : Int32) : Sp q k (F_X0_begun (rec_X0_from N (n + 3)) 60 x (nI d)) ((x ^^^ nI q) * 3 - (acCue (nI q) k 2).1) (60 :: ([40, 11] ++ (acCue (nI q) k 2).2)) := Sp.begun (b19_60 _ x _) ((Sp.above (n := n + 2) (K := 5) (s := 3) (a := 2) hN (by decide) (by decide) (by omega) (fun m S => fr_3_2 _ m x _ (le30 (by omega)) S) (cg_40 hN (n + 1) (d + 1) (by omega) x)).two (ow_cue hN hq hk n d hd 2) (fun y z => y - z))
theorem ow_jum (hN : 130 ≤ N) (hq : q < 50) (hk : k < 8) (n d : Nat) (hd : d + 4 ≤ 30) (x : Int32) : Sp q k (F_X0_own (rec_X0_from N (n + 4)) (nI 2) x (nI d)) (acJum (nI q) k x).1 (acJum (nI q) k x).2 := by
  have hl : nI (d + 1) ≤ (30 : Int32) := le30 (by omega)
  rcases lt8 hk with rfl | rfl | rfl | rfl | rfl | rfl | rfl | rfl
  · exact Sp.own (n := n + 3) hN hq (by omega) (fun m S => fr_0_2 _ m x _ hl S) (cg_11 _ _ x)
  · exact Sp.own (n := n + 3) hN hq (by omega) (fun m S => fr_1_2 _ m x _ hl S) (cg_11 _ _ x)
  · exact Sp.own (n := n + 3) hN hq (by omega) (fun m S => fr_2_2 _ m x _ hl S) (cg_11 _ _ x)
  · exact Sp.own (n := n + 3) hN hq (by omega) (fun m S => fr_3_2 _ m x _ hl S) (cg_40 hN (n + 2) _ (by omega) x)
  · exact Sp.own (n := n + 3) hN hq (by omega) (fun m S => fr_4_2 _ m x _ hl S) (cg_11 _ _ x)
  · exact Sp.own (n := n + 3) hN hq (by omega) (fun m S => fr_5_2 _ m x _ hl S) (cg_60 hN hq (by decide) n _ (by omega) x)
  · exact Sp.own (n := n + 3) hN hq (by omega) (fun m S => fr_6_2 _ m x _ hl S) (cg_11 _ _ x)
  · exact Sp.own (n := n + 3) hN hq (by omega) (fun m S => fr_7_2 _ m x _ hl S) (cg_11 _ _ x)
theorem cg_80 (hN : 130 ≤ N) (hq : q < 50) (hk : k < 8) (n d : Nat) (hd : d + 4 ≤ 30) (x : Int32) : Sp q k (F_X0_begun (rec_X0_from N (n + 4)) 80 x (nI d)) ((acPh (nI q) k x).1 + (acJum (nI q) k 2).1) (80 :: ((acPh (nI q) k x).2 ++ (acJum (nI q) k 2).2)) := Sp.begun (b19_80 _ x _) ((Sp.above (K := 7) (s := 6) (a := 1) hN (by decide) (by decide) (by omega) (fun m S => fr_6_1 _ m x _ (le30 (by omega)) S) (cg_10 hN hq hk n (d + 1) (by omega) x)).two (ow_jum hN hq hk n d hd 2) (fun y z => y + z))
theorem ow_hol (hN : 130 ≤ N) (hq : q < 50) (hk : k < 8) (n d : Nat) (hd : d + 6 ≤ 30) (x : Int32) : Sp q k (F_X0_own (rec_X0_from N (n + 6)) (nI 1) x (nI d)) (acHol (nI q) k x).1 (acHol (nI q) k x).2 := by
  have hl : nI (d + 1) ≤ (30 : Int32) := le30 (by omega)
  rcases lt8 hk with rfl | rfl | rfl | rfl | rfl | rfl | rfl | rfl
  · exact Sp.own (n := n + 5) hN hq (by omega) (fun m S => fr_0_1 _ m x _ hl S) (cg_10 hN hq (by decide) (n + 2) _ (by omega) x)
  · exact Sp.own (n := n + 5) hN hq (by omega) (fun m S => fr_1_1 _ m x _ hl S) (cg_10 hN hq (by decide) (n + 2) _ (by omega) x)
  · exact Sp.own (n := n + 5) hN hq (by omega) (fun m S => fr_2_1 _ m x _ hl S) (cg_30 hN hq (by decide) (n + 1) _ (by omega) x)
  · exact Sp.own (n := n + 5) hN hq (by omega) (fun m S => fr_3_1 _ m x _ hl S) (cg_41 hN hq (by decide) n _ (by omega) x)
  · exact Sp.own (n := n + 5) hN hq (by omega) (fun m S => fr_4_1 _ m x _ hl S) (cg_10 hN hq (by decide) (n + 2) _ (by omega) x)
  · exact Sp.own (n := n + 5) hN hq (by omega) (fun m S => fr_5_1 _ m x _ hl S) (cg_41 hN hq (by decide) n _ (by omega) x)
  · exact Sp.own (n := n + 5) hN hq (by omega) (fun m S => fr_6_1 _ m x _ hl S) (cg_10 hN hq (by decide) (n + 2) _ (by omega) x)
  · exact Sp.own (n := n + 5) hN hq (by omega) (fun m S => fr_7_1 _ m x _ hl S) (cg_80 hN hq (by decide) (n + 1) _ (by omega) x)
theorem cg_2 (hN : 130 ≤ N) (hq : q < 50) (hk : k < 8) (n d : Nat) (hd : d + 6 ≤ 30) (x : Int32) : Sp q k (F_X0_begun (rec_X0_from N (n + 6)) 2 x (nI d)) (acPp (nI q) k x).1 (acPp (nI q) k x).2 := Sp.begun (b19_2 _ x _) ((ow_hol hN hq hk n d hd x).two (ow_jum hN hq hk (n + 2) d (by omega) 1) (fun y z => y - z))
theorem cg_50 (hN : 130 ≤ N) (hq : q < 50) (hk : k < 8) (n d : Nat) (hd : d + 7 ≤ 30) (x : Int32) : Sp q k (F_X0_begun (rec_X0_from N (n + 7)) 50 x (nI d)) ((acPp (nI q) k x).1 ^^^ 5) (50 :: (acPp (nI q) k x).2) := Sp.begun (b19_50 _ x _) ((Sp.above (K := 4) (s := 1) (a := 3) hN (by decide) (by decide) (by omega) (fun m S => fr_1_3 _ m x _ (le30 (by omega)) S) (cg_2 hN hq hk n (d + 1) (by omega) x)).map (fun z => z ^^^ 5))
theorem cg_61 (hN : 130 ≤ N) (hq : q < 50) (hk : k < 8) (n d : Nat) (hd : d + 7 ≤ 30) (x : Int32) : Sp q k (F_X0_begun (rec_X0_from N (n + 7)) 61 x (nI d)) ((acPp (nI q) k x).1 + 1) (61 :: (acPp (nI q) k x).2) := Sp.begun (b19_61 _ x _) ((Sp.above (K := 5) (s := 3) (a := 3) hN (by decide) (by decide) (by omega) (fun m S => fr_3_3 _ m x _ (le30 (by omega)) S) (cg_2 hN hq hk n (d + 1) (by omega) x)).map (fun z => z + 1))
theorem ow_pro (hN : 130 ≤ N) (hq : q < 50) (hk : k < 8) (n d : Nat) (hd : d + 8 ≤ 30) (x : Int32) : Sp q k (F_X0_own (rec_X0_from N (n + 8)) (nI 3) x (nI d)) (acPro (nI q) k x).1 (acPro (nI q) k x).2 := by
  have hl : nI (d + 1) ≤ (30 : Int32) := le30 (by omega)
  rcases lt8 hk with rfl | rfl | rfl | rfl | rfl | rfl | rfl | rfl
  · exact Sp.own (n := n + 7) hN hq (by omega) (fun m S => fr_0_3 _ m x _ hl S) (cg_2 hN hq (by decide) (n + 1) _ (by omega) x)
  · exact Sp.own (n := n + 7) hN hq (by omega) (fun m S => fr_1_3 _ m x _ hl S) (cg_2 hN hq (by decide) (n + 1) _ (by omega) x)
  · exact Sp.own (n := n + 7) hN hq (by omega) (fun m S => fr_2_3 _ m x _ hl S) (cg_2 hN hq (by decide) (n + 1) _ (by omega) x)
  · exact Sp.own (n := n + 7) hN hq (by omega) (fun m S => fr_3_3 _ m x _ hl S) (cg_2 hN hq (by decide) (n + 1) _ (by omega) x)
  · exact Sp.own (n := n + 7) hN hq (by omega) (fun m S => fr_4_3 _ m x _ hl S) (cg_50 hN hq (by decide) n _ (by omega) x)
  · exact Sp.own (n := n + 7) hN hq (by omega) (fun m S => fr_5_3 _ m x _ hl S) (cg_61 hN hq (by decide) n _ (by omega) x)
  · exact Sp.own (n := n + 7) hN hq (by omega) (fun m S => fr_6_3 _ m x _ hl S) (cg_2 hN hq (by decide) (n + 1) _ (by omega) x)
  · exact Sp.own (n := n + 7) hN hq (by omega) (fun m S => fr_7_3 _ m x _ hl S) (cg_2 hN hq (by decide) (n + 1) _ (by omega) x)
/-! the reference -/
theorem Sr.of {f g : St → Option (Int32 × St)} {v : Int32} {tr : List Int32} (h : Sr q k g v tr) (e : ∀ S : St, S.2.1 98 q = nI k → f S = g S) : Sr q k f v tr := by
  intro S l h1 h2 h3
  rw [e S h1]
  exact h S l h1 h2 h3
theorem ref_pc (x : Int32) : Sr q k (F_X12_plainCues (nI q) x) (x + nI q) [1] := Sr.cst
theorem ref_pj (x : Int32) : Sr q k (F_X12_plainJumps (nI q) x) (x ^^^ nI q) [11] := Sr.cst
theorem ref_sc (x : Int32) : Sr q k (F_X12_savedCues (nI q) x) ((x + nI q) * 2) [70, 1] := Sr.ran ((ref_pc x).map (fun z => z * 2)) 70
theorem ref_jj (x : Int32) : Sr q k (F_X12_jumpedJumps (nI q) x) ((x ^^^ nI q) * 3) [40, 11] := Sr.ran ((ref_pj x).map (fun z => z * 3)) 40
theorem und_eq {u : Nat} (hk : k < 8) (hu : u < 8) (S : St) : F_X12_isUnder (nI k) (nI u) S = some (bI (undB k u), S) := F_und12 hk hu S
theorem ref_cue (hq : q < 50) (hk : k < 8) (x : Int32) : Sr q k (F_X12_cueing (nI q) x) (acCue (nI q) k x).1 (acCue (nI q) k x).2 := by
  have gq : inb (nI q) 50 = true := inb_nI hq (by decide)
  have cq : Int32.toNatClampNeg (nI q) = q := nI_clamp (by omega)
  have stp : ∀ S : St, S.2.1 98 q = nI k → F_X12_cueing (nI q) x S = (if bI (undB k 1) = 0 then (if nI k = 7 then ((F_X12_ran (81 : Int32) S).bind (fun r_42 => (F_X12_savedCues (nI q) x r_42).bind (fun r_48 => some (r_48.1 - 1, r_48.2)))) else (if nI k = 6 then ((F_X12_savedCues (nI q) x S).bind (fun r_68 => some (r_68.1, r_68.2))) else ((F_X12_plainCues (nI q) x S).bind (fun r_77 => some (r_77.1, r_77.2))))) else ((F_X12_ran (20 : Int32) S).bind (fun r_16 => (F_X12_plainCues (nI q) x r_16).bind (fun r_22 => some (r_22.1 + 3, r_22.2))))) := by
    intro S hS
    have e := und_eq (u := 1) hk (by decide) S
    have e' : F_X12_isUnder (nI k) (1 : Int32) S = _ := e
    unfold F_X12_cueing
    simp only [gd_t gq, cq, hS, e', Option.bind_some]
  rcases lt8 hk with rfl | rfl | rfl | rfl | rfl | rfl | rfl | rfl
  · exact Sr.of (ref_pc x).id (fun S hS => (stp S hS).trans ((if_pos (by decide)).trans ((if_neg (by decide)).trans (if_neg (by decide)))))
  · exact Sr.of (Sr.ran ((ref_pc x).map (fun z => z + 3)) 20) (fun S hS => (stp S hS).trans (if_neg (by decide)))
  · exact Sr.of (ref_pc x).id (fun S hS => (stp S hS).trans ((if_pos (by decide)).trans ((if_neg (by decide)).trans (if_neg (by decide)))))
  · exact Sr.of (ref_pc x).id (fun S hS => (stp S hS).trans ((if_pos (by decide)).trans ((if_neg (by decide)).trans (if_neg (by decide)))))
  · exact Sr.of (Sr.ran ((ref_pc x).map (fun z => z + 3)) 20) (fun S hS => (stp S hS).trans (if_neg (by decide)))
  · exact Sr.of (ref_pc x).id (fun S hS => (stp S hS).trans ((if_pos (by decide)).trans ((if_neg (by decide)).trans (if_neg (by decide)))))
  · exact Sr.of (ref_sc x).id (fun S hS => (stp S hS).trans ((if_pos (by decide)).trans ((if_neg (by decide)).trans (if_pos (by decide)))))
  · exact Sr.of (Sr.ran ((ref_sc x).map (fun z => z - 1)) 81) (fun S hS => (stp S hS).trans ((if_pos (by decide)).trans (if_pos (by decide))))
theorem ref_ph (hq : q < 50) (hk : k < 8) (x : Int32) : Sr q k (F_X12_plainHolds (nI q) x) (acPh (nI q) k x).1 (acPh (nI q) k x).2 := Sr.ran ((ref_cue hq hk x).map (fun z => z * 2)) 10
theorem ref_dh (hq : q < 50) (hk : k < 8) (x : Int32) : Sr q k (F_X12_driedHolds (nI q) x) (acDh (nI q) k x).1 (acDh (nI q) k x).2 := Sr.ran ((ref_ph hq hk x).map (fun z => -z)) 30
theorem ref_jum (hq : q < 50) (hk : k < 8) (x : Int32) : Sr q k (F_X12_jumping (nI q) x) (acJum (nI q) k x).1 (acJum (nI q) k x).2 := by
  have gq : inb (nI q) 50 = true := inb_nI hq (by decide)
  have cq : Int32.toNatClampNeg (nI q) = q := nI_clamp (by omega)
  have stp : ∀ S : St, S.2.1 98 q = nI k → F_X12_jumping (nI q) x S = (if nI k = 5 then ((F_X12_ran (60 : Int32) S).bind (fun r_13 => (F_X12_jumpedJumps (nI q) x r_13).bind (fun r_19 => (F_X12_cueing (nI q) (2 : Int32) r_19.2).bind (fun r_27 => some (r_19.1 - r_27.1, r_27.2))))) else (if nI k = 3 then ((F_X12_jumpedJumps (nI q) x S).bind (fun r_45 => some (r_45.1, r_45.2))) else ((F_X12_plainJumps (nI q) x S).bind (fun r_54 => some (r_54.1, r_54.2))))) := by
    intro S hS
    unfold F_X12_jumping
    simp only [gd_t gq, cq, hS]
  rcases lt8 hk with rfl | rfl | rfl | rfl | rfl | rfl | rfl | rfl
  · exact Sr.of (ref_pj x).id (fun S hS => (stp S hS).trans ((if_neg (by decide)).trans (if_neg (by decide))))
  · exact Sr.of (ref_pj x).id (fun S hS => (stp S hS).trans ((if_neg (by decide)).trans (if_neg (by decide))))
  · exact Sr.of (ref_pj x).id (fun S hS => (stp S hS).trans ((if_neg (by decide)).trans (if_neg (by decide))))
  · exact Sr.of (ref_jj x).id (fun S hS => (stp S hS).trans ((if_neg (by decide)).trans (if_pos (by decide))))
  · exact Sr.of (ref_pj x).id (fun S hS => (stp S hS).trans ((if_neg (by decide)).trans (if_neg (by decide))))
  · exact Sr.of (Sr.ran ((ref_jj x).two (ref_cue hq (by decide) 2) (fun y z => y - z)) 60) (fun S hS => (stp S hS).trans (if_pos (by decide)))
  · exact Sr.of (ref_pj x).id (fun S hS => (stp S hS).trans ((if_neg (by decide)).trans (if_neg (by decide))))
  · exact Sr.of (ref_pj x).id (fun S hS => (stp S hS).trans ((if_neg (by decide)).trans (if_neg (by decide))))
theorem ref_hol (hq : q < 50) (hk : k < 8) (x : Int32) : Sr q k (F_X12_holding (nI q) x) (acHol (nI q) k x).1 (acHol (nI q) k x).2 := by
  have gq : inb (nI q) 50 = true := inb_nI hq (by decide)
  have cq : Int32.toNatClampNeg (nI q) = q := nI_clamp (by omega)
  have stp : ∀ S : St, S.2.1 98 q = nI k → F_X12_holding (nI q) x S = (if bI (undB k 3) = 0 then (if nI k = 7 then ((F_X12_ran (80 : Int32) S).bind (fun r_42 => (F_X12_plainHolds (nI q) x r_42).bind (fun r_48 => (F_X12_jumping (nI q) (2 : Int32) r_48.2).bind (fun r_56 => some (r_48.1 + r_56.1, r_56.2))))) else (if nI k = 2 then ((F_X12_driedHolds (nI q) x S).bind (fun r_74 => some (r_74.1, r_74.2))) else ((F_X12_plainHolds (nI q) x S).bind (fun r_83 => some (r_83.1, r_83.2))))) else ((F_X12_ran (41 : Int32) S).bind (fun r_16 => (F_X12_driedHolds (nI q) (x + 1) r_16).bind (fun r_24 => some (r_24.1, r_24.2))))) := by
    intro S hS
    have e := und_eq (u := 3) hk (by decide) S
    have e' : F_X12_isUnder (nI k) (3 : Int32) S = _ := e
    unfold F_X12_holding
    simp only [gd_t gq, cq, hS, e', Option.bind_some]
  rcases lt8 hk with rfl | rfl | rfl | rfl | rfl | rfl | rfl | rfl
  · exact Sr.of (ref_ph hq (by decide) x).id (fun S hS => (stp S hS).trans ((if_pos (by decide)).trans ((if_neg (by decide)).trans (if_neg (by decide)))))
  · exact Sr.of (ref_ph hq (by decide) x).id (fun S hS => (stp S hS).trans ((if_pos (by decide)).trans ((if_neg (by decide)).trans (if_neg (by decide)))))
  · exact Sr.of (ref_dh hq (by decide) x).id (fun S hS => (stp S hS).trans ((if_pos (by decide)).trans ((if_neg (by decide)).trans (if_pos (by decide)))))
  · exact Sr.of (Sr.ran (ref_dh hq (by decide) (x + 1)).id 41) (fun S hS => (stp S hS).trans (if_neg (by decide)))
  · exact Sr.of (ref_ph hq (by decide) x).id (fun S hS => (stp S hS).trans ((if_pos (by decide)).trans ((if_neg (by decide)).trans (if_neg (by decide)))))
  · exact Sr.of (Sr.ran (ref_dh hq (by decide) (x + 1)).id 41) (fun S hS => (stp S hS).trans (if_neg (by decide)))
  · exact Sr.of (ref_ph hq (by decide) x).id (fun S hS => (stp S hS).trans ((if_pos (by decide)).trans ((if_neg (by decide)).trans (if_neg (by decide)))))
  · exact Sr.of (Sr.ran ((ref_ph hq (by decide) x).two (ref_jum hq (by decide) 2) (fun y z => y + z)) 80) (fun S hS => (stp S hS).trans ((if_pos (by decide)).trans (if_pos (by decide))))
theorem ref_pp (hq : q < 50) (hk : k < 8) (x : Int32) : Sr q k (F_X12_plainPrompts (nI q) x) (acPp (nI q) k x).1 (acPp (nI q) k x).2 := Sr.ran ((ref_hol hq hk x).two (ref_jum hq hk 1) (fun y z => y - z)) 2
theorem ref_pro (hq : q < 50) (hk : k < 8) (x : Int32) : Sr q k (F_X12_prompting (nI q) x) (acPro (nI q) k x).1 (acPro (nI q) k x).2 := by
  have gq : inb (nI q) 50 = true := inb_nI hq (by decide)
  have cq : Int32.toNatClampNeg (nI q) = q := nI_clamp (by omega)
  have stp : ∀ S : St, S.2.1 98 q = nI k → F_X12_prompting (nI q) x S = (if nI k = 4 then ((F_X12_ran (50 : Int32) S).bind (fun r_13 => (F_X12_plainPrompts (nI q) x r_13).bind (fun r_19 => some (r_19.1 ^^^ 5, r_19.2)))) else (if nI k = 5 then ((F_X12_ran (61 : Int32) S).bind (fun r_38 => (F_X12_plainPrompts (nI q) x r_38).bind (fun r_44 => some (r_44.1 + 1, r_44.2)))) else ((F_X12_plainPrompts (nI q) x S).bind (fun r_53 => some (r_53.1, r_53.2))))) := by
    intro S hS
    unfold F_X12_prompting
    simp only [gd_t gq, cq, hS]
  rcases lt8 hk with rfl | rfl | rfl | rfl | rfl | rfl | rfl | rfl
  · exact Sr.of (ref_pp hq (by decide) x).id (fun S hS => (stp S hS).trans ((if_neg (by decide)).trans (if_neg (by decide))))
  · exact Sr.of (ref_pp hq (by decide) x).id (fun S hS => (stp S hS).trans ((if_neg (by decide)).trans (if_neg (by decide))))
  · exact Sr.of (ref_pp hq (by decide) x).id (fun S hS => (stp S hS).trans ((if_neg (by decide)).trans (if_neg (by decide))))
  · exact Sr.of (ref_pp hq (by decide) x).id (fun S hS => (stp S hS).trans ((if_neg (by decide)).trans (if_neg (by decide))))
  · exact Sr.of (Sr.ran ((ref_pp hq (by decide) x).map (fun z => z ^^^ 5)) 50) (fun S hS => (stp S hS).trans (if_pos (by decide)))
  · exact Sr.of (Sr.ran ((ref_pp hq (by decide) x).map (fun z => z + 1)) 61) (fun S hS => (stp S hS).trans ((if_neg (by decide)).trans (if_pos (by decide))))
  · exact Sr.of (ref_pp hq (by decide) x).id (fun S hS => (stp S hS).trans ((if_neg (by decide)).trans (if_neg (by decide))))
  · exact Sr.of (ref_pp hq (by decide) x).id (fun S hS => (stp S hS).trans ((if_neg (by decide)).trans (if_neg (by decide))))
end
