/-- all cells but those of the class's night b -/
def fN (b c : Nat) (_ : Nat) : Bool := !decide (c = 5 + b)
def aN (b k : Nat) : Bool := !decide (k ∈ ([36 + b, 38 + b, 40 + b] : List Nat))
def AgN (b : Nat) (S S' : St) : Prop := AgO (fN b) (aN b) lAll S S'
theorem say_0 {S : St} {V : Nat → Nat → Nat} (ok : OKV V) (hc : ClP S V) {l mn k : Nat} (hl : l < V 8 0) (hm : mn ≤ 2) (hk : k < 60) (h0 : S.1 5 0 = nI k) (told lk : Int32) (hlk : nI (V 5 l) &&& (told ^^^ (-1)) = lk) : ∃ S', F_X7_say 0 (nI l) (nI mn) told S = some S' ∧ AgN 0 S S' ∧ S'.1 5 0 = nI (k + 1) ∧ S'.1 5 4 = S.1 5 4 + ((nI (V 7 (V 0 l)) + nI (V 3 l)) + (if mn = 2 then nI (V 8 1) else 0)) ∧ S'.1 5 5 = S.1 5 5 + (if mn = 1 then 1 else 0) ∧ S'.1 5 6 = S.1 5 6 + (if lk = 0 then 0 else 1) ∧ S'.1 5 7 = S.1 5 7 + (if mn = 2 then 1 else 0) ∧ S'.2.1 36 = upd (S.2.1 36) k (nI l) ∧ S'.2.1 38 = upd (S.2.1 38) k (nI mn) ∧ S'.2.1 40 = upd (S.2.1 40) k lk := by
  have h20 := ok.1
  obtain ⟨e0, -, -, e3, -, e5, -⟩ := hc.2.2.2.1 l hl
  have b0 := (ok.2.2.2.1 l hl).1
  have e7 := hc.2.2.2.2.1 (V 0 l) b0
  have e10 := hc.2.1
  have g1 : inb (S.1 5 0) 60 = true := by rw [h0]; exact inb_nI hk (by decide)
  have g2 : inb (nI l) 20 = true := inb_nI (by omega) (by decide)
  have g3 : inb (S.2.1 21 l) 6 = true := by rw [e0]; exact inb_nI b0 (by decide)
  have ck : Int32.toNatClampNeg (S.1 5 0) = k := by rw [h0]; exact nI_clamp (by omega)
  have cl : Int32.toNatClampNeg (nI l) = l := nI_clamp (by omega)
  have c0 : Int32.toNatClampNeg (S.2.1 21 l) = V 0 l := by rw [e0]; exact nI_clamp (by omega)
  have stp : F_X7_say 0 (nI l) (nI mn) told S = (if lk = 0 then (if nI mn = 1 then F_X7_say_104 0 (nI mn) (fset (fset (aset (aset (aset S 36 (upd (S.2.1 36) k (nI l))) 38 (upd (S.2.1 38) k (nI mn))) 40 (upd (S.2.1 40) k lk)) 5 4 (S.1 5 4 + (nI (V 7 (V 0 l)) + nI (V 3 l)))) 5 5 (S.1 5 5 + 1)) else F_X7_say_104 0 (nI mn) (fset (aset (aset (aset S 36 (upd (S.2.1 36) k (nI l))) 38 (upd (S.2.1 38) k (nI mn))) 40 (upd (S.2.1 40) k lk)) 5 4 (S.1 5 4 + (nI (V 7 (V 0 l)) + nI (V 3 l))))) else (if nI mn = 1 then F_X7_say_104 0 (nI mn) (fset (fset (fset (aset (aset (aset S 36 (upd (S.2.1 36) k (nI l))) 38 (upd (S.2.1 38) k (nI mn))) 40 (upd (S.2.1 40) k lk)) 5 4 (S.1 5 4 + (nI (V 7 (V 0 l)) + nI (V 3 l)))) 5 6 (S.1 5 6 + 1)) 5 5 (S.1 5 5 + 1)) else F_X7_say_104 0 (nI mn) (fset (fset (aset (aset (aset S 36 (upd (S.2.1 36) k (nI l))) 38 (upd (S.2.1 38) k (nI mn))) 40 (upd (S.2.1 40) k lk)) 5 4 (S.1 5 4 + (nI (V 7 (V 0 l)) + nI (V 3 l)))) 5 6 (S.1 5 6 + 1)))) := by
    show gd (inb (S.1 5 0) 60) (gd (inb (S.1 5 0) 60) (gd (inb (nI l) 20) (gd (inb (S.1 5 0) 60) (gd (inb (nI l) 20) (gd (inb (S.2.1 21 (Int32.toNatClampNeg (nI l))) 6) (gd (inb (nI l) 20) (gd (inb (S.1 5 0) 60) (if upd (S.2.1 40) (Int32.toNatClampNeg (S.1 5 0)) ((S.2.1 26 (Int32.toNatClampNeg (nI l))) &&& (told ^^^ (-1))) (Int32.toNatClampNeg (S.1 5 0)) = 0 then (if nI mn = 1 then F_X7_say_104 0 (nI mn) (fset (fset (aset (aset (aset S 36 (upd (S.2.1 36) (Int32.toNatClampNeg (S.1 5 0)) (nI l))) 38 (upd (S.2.1 38) (Int32.toNatClampNeg (S.1 5 0)) (nI mn))) 40 (upd (S.2.1 40) (Int32.toNatClampNeg (S.1 5 0)) ((S.2.1 26 (Int32.toNatClampNeg (nI l))) &&& (told ^^^ (-1))))) 5 4 (S.1 5 4 + (S.2.1 28 (Int32.toNatClampNeg (S.2.1 21 (Int32.toNatClampNeg (nI l)))) + S.2.1 24 (Int32.toNatClampNeg (nI l))))) 5 5 (S.1 5 5 + 1)) else F_X7_say_104 0 (nI mn) (fset (aset (aset (aset S 36 (upd (S.2.1 36) (Int32.toNatClampNeg (S.1 5 0)) (nI l))) 38 (upd (S.2.1 38) (Int32.toNatClampNeg (S.1 5 0)) (nI mn))) 40 (upd (S.2.1 40) (Int32.toNatClampNeg (S.1 5 0)) ((S.2.1 26 (Int32.toNatClampNeg (nI l))) &&& (told ^^^ (-1))))) 5 4 (S.1 5 4 + (S.2.1 28 (Int32.toNatClampNeg (S.2.1 21 (Int32.toNatClampNeg (nI l)))) + S.2.1 24 (Int32.toNatClampNeg (nI l)))))) else (if nI mn = 1 then F_X7_say_104 0 (nI mn) (fset (fset (fset (aset (aset (aset S 36 (upd (S.2.1 36) (Int32.toNatClampNeg (S.1 5 0)) (nI l))) 38 (upd (S.2.1 38) (Int32.toNatClampNeg (S.1 5 0)) (nI mn))) 40 (upd (S.2.1 40) (Int32.toNatClampNeg (S.1 5 0)) ((S.2.1 26 (Int32.toNatClampNeg (nI l))) &&& (told ^^^ (-1))))) 5 4 (S.1 5 4 + (S.2.1 28 (Int32.toNatClampNeg (S.2.1 21 (Int32.toNatClampNeg (nI l)))) + S.2.1 24 (Int32.toNatClampNeg (nI l))))) 5 6 (S.1 5 6 + 1)) 5 5 (S.1 5 5 + 1)) else F_X7_say_104 0 (nI mn) (fset (fset (aset (aset (aset S 36 (upd (S.2.1 36) (Int32.toNatClampNeg (S.1 5 0)) (nI l))) 38 (upd (S.2.1 38) (Int32.toNatClampNeg (S.1 5 0)) (nI mn))) 40 (upd (S.2.1 40) (Int32.toNatClampNeg (S.1 5 0)) ((S.2.1 26 (Int32.toNatClampNeg (nI l))) &&& (told ^^^ (-1))))) 5 4 (S.1 5 4 + (S.2.1 28 (Int32.toNatClampNeg (S.2.1 21 (Int32.toNatClampNeg (nI l)))) + S.2.1 24 (Int32.toNatClampNeg (nI l))))) 5 6 (S.1 5 6 + 1))))))))))) = _
    rw [ck, cl, c0, gd_t g1, gd_t g1, gd_t g2, gd_t g1, gd_t g2, gd_t g3, gd_t g2, gd_t g1, pk_us, e5, e7, e3, hlk]
  rw [stp]
  have hz := (congrArg (fun q : Int32 => q + 1) h0).trans (nI_1 k)
  rcases (show mn = 0 ∨ mn = 1 ∨ mn = 2 by omega) with rfl | rfl | rfl
  · rw [if_neg (show ¬ nI 0 = 1 by decide), if_neg (show ¬ nI 0 = 1 by decide)]
    have w : ∀ T : St, F_X7_say_104 0 (nI 0) T = some (fset T 5 0 (T.1 5 0 + 1)) := fun T => by
      unfold F_X7_say_104
      rw [if_neg (show ¬ nI 0 = 2 by decide)]
    rw [w, w]
    by_cases q : lk = 0
    · rw [if_pos q]
      exact ⟨_, rfl, AgO.fset (AgO.fset (AgO.aset (AgO.aset (AgO.aset AgO.rfl _ (by decide)) _ (by decide)) _ (by decide)) _ (by decide)) _ (by decide), hz, congrArg (fun q : Int32 => S.1 5 4 + q) (Int32.add_zero _).symm, (Int32.add_zero _).symm, by rw [if_pos q]; exact (Int32.add_zero _).symm, (Int32.add_zero _).symm, rfl, rfl, rfl⟩
    · rw [if_neg q]
      exact ⟨_, rfl, AgO.fset (AgO.fset (AgO.fset (AgO.aset (AgO.aset (AgO.aset AgO.rfl _ (by decide)) _ (by decide)) _ (by decide)) _ (by decide)) _ (by decide)) _ (by decide), hz, congrArg (fun q : Int32 => S.1 5 4 + q) (Int32.add_zero _).symm, (Int32.add_zero _).symm, by rw [if_neg q]; rfl, (Int32.add_zero _).symm, rfl, rfl, rfl⟩
  · rw [if_pos (show nI 1 = 1 from rfl), if_pos (show nI 1 = 1 from rfl)]
    have w : ∀ T : St, F_X7_say_104 0 (nI 1) T = some (fset T 5 0 (T.1 5 0 + 1)) := fun T => by
      unfold F_X7_say_104
      rw [if_neg (show ¬ nI 1 = 2 by decide)]
    rw [w, w]
    by_cases q : lk = 0
    · rw [if_pos q]
      exact ⟨_, rfl, AgO.fset (AgO.fset (AgO.fset (AgO.aset (AgO.aset (AgO.aset AgO.rfl _ (by decide)) _ (by decide)) _ (by decide)) _ (by decide)) _ (by decide)) _ (by decide), hz, congrArg (fun q : Int32 => S.1 5 4 + q) (Int32.add_zero _).symm, rfl, by rw [if_pos q]; exact (Int32.add_zero _).symm, (Int32.add_zero _).symm, rfl, rfl, rfl⟩
    · rw [if_neg q]
      exact ⟨_, rfl, AgO.fset (AgO.fset (AgO.fset (AgO.fset (AgO.aset (AgO.aset (AgO.aset AgO.rfl _ (by decide)) _ (by decide)) _ (by decide)) _ (by decide)) _ (by decide)) _ (by decide)) _ (by decide), hz, congrArg (fun q : Int32 => S.1 5 4 + q) (Int32.add_zero _).symm, rfl, by rw [if_neg q]; rfl, (Int32.add_zero _).symm, rfl, rfl, rfl⟩
  · rw [if_neg (show ¬ nI 2 = 1 by decide), if_neg (show ¬ nI 2 = 1 by decide)]
    have w : ∀ T : St, F_X7_say_104 0 (nI 2) T = some (fset (fset (fset T 5 7 (T.1 5 7 + 1)) 5 4 (T.1 5 4 + T.1 1 10)) 5 0 (T.1 5 0 + 1)) := fun T => by
      unfold F_X7_say_104
      rw [if_pos (show nI 2 = 2 from rfl)]
      rfl
    rw [w, w]
    by_cases q : lk = 0
    · rw [if_pos q]
      exact ⟨_, rfl, AgO.fset (AgO.fset (AgO.fset (AgO.fset (AgO.aset (AgO.aset (AgO.aset AgO.rfl _ (by decide)) _ (by decide)) _ (by decide)) _ (by decide)) _ (by decide)) _ (by decide)) _ (by decide), hz, (Int32.add_assoc _ _ _).trans (congrArg (fun q : Int32 => S.1 5 4 + (nI (V 7 (V 0 l)) + nI (V 3 l) + q)) e10), (Int32.add_zero _).symm, by rw [if_pos q]; exact (Int32.add_zero _).symm, rfl, rfl, rfl, rfl⟩
    · rw [if_neg q]
      exact ⟨_, rfl, AgO.fset (AgO.fset (AgO.fset (AgO.fset (AgO.fset (AgO.aset (AgO.aset (AgO.aset AgO.rfl _ (by decide)) _ (by decide)) _ (by decide)) _ (by decide)) _ (by decide)) _ (by decide)) _ (by decide)) _ (by decide), hz, (Int32.add_assoc _ _ _).trans (congrArg (fun q : Int32 => S.1 5 4 + (nI (V 7 (V 0 l)) + nI (V 3 l) + q)) e10), (Int32.add_zero _).symm, by rw [if_neg q]; rfl, rfl, rfl, rfl, rfl⟩
theorem say_1 {S : St} {V : Nat → Nat → Nat} (ok : OKV V) (hc : ClP S V) {l mn k : Nat} (hl : l < V 8 0) (hm : mn ≤ 2) (hk : k < 60) (h0 : S.1 6 0 = nI k) (told lk : Int32) (hlk : nI (V 5 l) &&& (told ^^^ (-1)) = lk) : ∃ S', F_X7_say 1 (nI l) (nI mn) told S = some S' ∧ AgN 1 S S' ∧ S'.1 6 0 = nI (k + 1) ∧ S'.1 6 4 = S.1 6 4 + ((nI (V 7 (V 0 l)) + nI (V 3 l)) + (if mn = 2 then nI (V 8 1) else 0)) ∧ S'.1 6 5 = S.1 6 5 + (if mn = 1 then 1 else 0) ∧ S'.1 6 6 = S.1 6 6 + (if lk = 0 then 0 else 1) ∧ S'.1 6 7 = S.1 6 7 + (if mn = 2 then 1 else 0) ∧ S'.2.1 37 = upd (S.2.1 37) k (nI l) ∧ S'.2.1 39 = upd (S.2.1 39) k (nI mn) ∧ S'.2.1 41 = upd (S.2.1 41) k lk := by
  have h20 := ok.1
  obtain ⟨e0, -, -, e3, -, e5, -⟩ := hc.2.2.2.1 l hl
  have b0 := (ok.2.2.2.1 l hl).1
  have e7 := hc.2.2.2.2.1 (V 0 l) b0
  have e10 := hc.2.1
  have g1 : inb (S.1 6 0) 60 = true := by rw [h0]; exact inb_nI hk (by decide)
  have g2 : inb (nI l) 20 = true := inb_nI (by omega) (by decide)
  have g3 : inb (S.2.1 21 l) 6 = true := by rw [e0]; exact inb_nI b0 (by decide)
  have ck : Int32.toNatClampNeg (S.1 6 0) = k := by rw [h0]; exact nI_clamp (by omega)
  have cl : Int32.toNatClampNeg (nI l) = l := nI_clamp (by omega)
  have c0 : Int32.toNatClampNeg (S.2.1 21 l) = V 0 l := by rw [e0]; exact nI_clamp (by omega)
  have stp : F_X7_say 1 (nI l) (nI mn) told S = (if lk = 0 then (if nI mn = 1 then F_X7_say_104 1 (nI mn) (fset (fset (aset (aset (aset S 37 (upd (S.2.1 37) k (nI l))) 39 (upd (S.2.1 39) k (nI mn))) 41 (upd (S.2.1 41) k lk)) 6 4 (S.1 6 4 + (nI (V 7 (V 0 l)) + nI (V 3 l)))) 6 5 (S.1 6 5 + 1)) else F_X7_say_104 1 (nI mn) (fset (aset (aset (aset S 37 (upd (S.2.1 37) k (nI l))) 39 (upd (S.2.1 39) k (nI mn))) 41 (upd (S.2.1 41) k lk)) 6 4 (S.1 6 4 + (nI (V 7 (V 0 l)) + nI (V 3 l))))) else (if nI mn = 1 then F_X7_say_104 1 (nI mn) (fset (fset (fset (aset (aset (aset S 37 (upd (S.2.1 37) k (nI l))) 39 (upd (S.2.1 39) k (nI mn))) 41 (upd (S.2.1 41) k lk)) 6 4 (S.1 6 4 + (nI (V 7 (V 0 l)) + nI (V 3 l)))) 6 6 (S.1 6 6 + 1)) 6 5 (S.1 6 5 + 1)) else F_X7_say_104 1 (nI mn) (fset (fset (aset (aset (aset S 37 (upd (S.2.1 37) k (nI l))) 39 (upd (S.2.1 39) k (nI mn))) 41 (upd (S.2.1 41) k lk)) 6 4 (S.1 6 4 + (nI (V 7 (V 0 l)) + nI (V 3 l)))) 6 6 (S.1 6 6 + 1)))) := by
    show gd (inb (S.1 6 0) 60) (gd (inb (S.1 6 0) 60) (gd (inb (nI l) 20) (gd (inb (S.1 6 0) 60) (gd (inb (nI l) 20) (gd (inb (S.2.1 21 (Int32.toNatClampNeg (nI l))) 6) (gd (inb (nI l) 20) (gd (inb (S.1 6 0) 60) (if upd (S.2.1 41) (Int32.toNatClampNeg (S.1 6 0)) ((S.2.1 26 (Int32.toNatClampNeg (nI l))) &&& (told ^^^ (-1))) (Int32.toNatClampNeg (S.1 6 0)) = 0 then (if nI mn = 1 then F_X7_say_104 1 (nI mn) (fset (fset (aset (aset (aset S 37 (upd (S.2.1 37) (Int32.toNatClampNeg (S.1 6 0)) (nI l))) 39 (upd (S.2.1 39) (Int32.toNatClampNeg (S.1 6 0)) (nI mn))) 41 (upd (S.2.1 41) (Int32.toNatClampNeg (S.1 6 0)) ((S.2.1 26 (Int32.toNatClampNeg (nI l))) &&& (told ^^^ (-1))))) 6 4 (S.1 6 4 + (S.2.1 28 (Int32.toNatClampNeg (S.2.1 21 (Int32.toNatClampNeg (nI l)))) + S.2.1 24 (Int32.toNatClampNeg (nI l))))) 6 5 (S.1 6 5 + 1)) else F_X7_say_104 1 (nI mn) (fset (aset (aset (aset S 37 (upd (S.2.1 37) (Int32.toNatClampNeg (S.1 6 0)) (nI l))) 39 (upd (S.2.1 39) (Int32.toNatClampNeg (S.1 6 0)) (nI mn))) 41 (upd (S.2.1 41) (Int32.toNatClampNeg (S.1 6 0)) ((S.2.1 26 (Int32.toNatClampNeg (nI l))) &&& (told ^^^ (-1))))) 6 4 (S.1 6 4 + (S.2.1 28 (Int32.toNatClampNeg (S.2.1 21 (Int32.toNatClampNeg (nI l)))) + S.2.1 24 (Int32.toNatClampNeg (nI l)))))) else (if nI mn = 1 then F_X7_say_104 1 (nI mn) (fset (fset (fset (aset (aset (aset S 37 (upd (S.2.1 37) (Int32.toNatClampNeg (S.1 6 0)) (nI l))) 39 (upd (S.2.1 39) (Int32.toNatClampNeg (S.1 6 0)) (nI mn))) 41 (upd (S.2.1 41) (Int32.toNatClampNeg (S.1 6 0)) ((S.2.1 26 (Int32.toNatClampNeg (nI l))) &&& (told ^^^ (-1))))) 6 4 (S.1 6 4 + (S.2.1 28 (Int32.toNatClampNeg (S.2.1 21 (Int32.toNatClampNeg (nI l)))) + S.2.1 24 (Int32.toNatClampNeg (nI l))))) 6 6 (S.1 6 6 + 1)) 6 5 (S.1 6 5 + 1)) else F_X7_say_104 1 (nI mn) (fset (fset (aset (aset (aset S 37 (upd (S.2.1 37) (Int32.toNatClampNeg (S.1 6 0)) (nI l))) 39 (upd (S.2.1 39) (Int32.toNatClampNeg (S.1 6 0)) (nI mn))) 41 (upd (S.2.1 41) (Int32.toNatClampNeg (S.1 6 0)) ((S.2.1 26 (Int32.toNatClampNeg (nI l))) &&& (told ^^^ (-1))))) 6 4 (S.1 6 4 + (S.2.1 28 (Int32.toNatClampNeg (S.2.1 21 (Int32.toNatClampNeg (nI l)))) + S.2.1 24 (Int32.toNatClampNeg (nI l))))) 6 6 (S.1 6 6 + 1))))))))))) = _
    rw [ck, cl, c0, gd_t g1, gd_t g1, gd_t g2, gd_t g1, gd_t g2, gd_t g3, gd_t g2, gd_t g1, pk_us, e5, e7, e3, hlk]
  rw [stp]
  have hz := (congrArg (fun q : Int32 => q + 1) h0).trans (nI_1 k)
  rcases (show mn = 0 ∨ mn = 1 ∨ mn = 2 by omega) with rfl | rfl | rfl
  · rw [if_neg (show ¬ nI 0 = 1 by decide), if_neg (show ¬ nI 0 = 1 by decide)]
    have w : ∀ T : St, F_X7_say_104 1 (nI 0) T = some (fset T 6 0 (T.1 6 0 + 1)) := fun T => by
      unfold F_X7_say_104
      rw [if_neg (show ¬ nI 0 = 2 by decide)]
    rw [w, w]
    by_cases q : lk = 0
    · rw [if_pos q]
      exact ⟨_, rfl, AgO.fset (AgO.fset (AgO.aset (AgO.aset (AgO.aset AgO.rfl _ (by decide)) _ (by decide)) _ (by decide)) _ (by decide)) _ (by decide), hz, congrArg (fun q : Int32 => S.1 6 4 + q) (Int32.add_zero _).symm, (Int32.add_zero _).symm, by rw [if_pos q]; exact (Int32.add_zero _).symm, (Int32.add_zero _).symm, rfl, rfl, rfl⟩
    · rw [if_neg q]
      exact ⟨_, rfl, AgO.fset (AgO.fset (AgO.fset (AgO.aset (AgO.aset (AgO.aset AgO.rfl _ (by decide)) _ (by decide)) _ (by decide)) _ (by decide)) _ (by decide)) _ (by decide), hz, congrArg (fun q : Int32 => S.1 6 4 + q) (Int32.add_zero _).symm, (Int32.add_zero _).symm, by rw [if_neg q]; rfl, (Int32.add_zero _).symm, rfl, rfl, rfl⟩
  · rw [if_pos (show nI 1 = 1 from rfl), if_pos (show nI 1 = 1 from rfl)]
    have w : ∀ T : St, F_X7_say_104 1 (nI 1) T = some (fset T 6 0 (T.1 6 0 + 1)) := fun T => by
      unfold F_X7_say_104
      rw [if_neg (show ¬ nI 1 = 2 by decide)]
    rw [w, w]
    by_cases q : lk = 0
    · rw [if_pos q]
      exact ⟨_, rfl, AgO.fset (AgO.fset (AgO.fset (AgO.aset (AgO.aset (AgO.aset AgO.rfl _ (by decide)) _ (by decide)) _ (by decide)) _ (by decide)) _ (by decide)) _ (by decide), hz, congrArg (fun q : Int32 => S.1 6 4 + q) (Int32.add_zero _).symm, rfl, by rw [if_pos q]; exact (Int32.add_zero _).symm, (Int32.add_zero _).symm, rfl, rfl, rfl⟩
    · rw [if_neg q]
      exact ⟨_, rfl, AgO.fset (AgO.fset (AgO.fset (AgO.fset (AgO.aset (AgO.aset (AgO.aset AgO.rfl _ (by decide)) _ (by decide)) _ (by decide)) _ (by decide)) _ (by decide)) _ (by decide)) _ (by decide), hz, congrArg (fun q : Int32 => S.1 6 4 + q) (Int32.add_zero _).symm, rfl, by rw [if_neg q]; rfl, (Int32.add_zero _).symm, rfl, rfl, rfl⟩
  · rw [if_neg (show ¬ nI 2 = 1 by decide), if_neg (show ¬ nI 2 = 1 by decide)]
    have w : ∀ T : St, F_X7_say_104 1 (nI 2) T = some (fset (fset (fset T 6 7 (T.1 6 7 + 1)) 6 4 (T.1 6 4 + T.1 1 10)) 6 0 (T.1 6 0 + 1)) := fun T => by
      unfold F_X7_say_104
      rw [if_pos (show nI 2 = 2 from rfl)]
      rfl
    rw [w, w]
    by_cases q : lk = 0
    · rw [if_pos q]
      exact ⟨_, rfl, AgO.fset (AgO.fset (AgO.fset (AgO.fset (AgO.aset (AgO.aset (AgO.aset AgO.rfl _ (by decide)) _ (by decide)) _ (by decide)) _ (by decide)) _ (by decide)) _ (by decide)) _ (by decide), hz, (Int32.add_assoc _ _ _).trans (congrArg (fun q : Int32 => S.1 6 4 + (nI (V 7 (V 0 l)) + nI (V 3 l) + q)) e10), (Int32.add_zero _).symm, by rw [if_pos q]; exact (Int32.add_zero _).symm, rfl, rfl, rfl, rfl⟩
    · rw [if_neg q]
      exact ⟨_, rfl, AgO.fset (AgO.fset (AgO.fset (AgO.fset (AgO.fset (AgO.aset (AgO.aset (AgO.aset AgO.rfl _ (by decide)) _ (by decide)) _ (by decide)) _ (by decide)) _ (by decide)) _ (by decide)) _ (by decide)) _ (by decide), hz, (Int32.add_assoc _ _ _).trans (congrArg (fun q : Int32 => S.1 6 4 + (nI (V 7 (V 0 l)) + nI (V 3 l) + q)) e10), (Int32.add_zero _).symm, by rw [if_neg q]; rfl, rfl, rfl, rfl, rfl⟩
