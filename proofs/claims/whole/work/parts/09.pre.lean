/-- a test that must hold, else nothing is said -/
def gd {α : Type} (b : Bool) (x : Option α) : Option α := if b = true then x else none
theorem gd_some {α : Type} {b : Bool} {x : Option α} {r : α} (h : gd b x = some r) : b = true ∧ x = some r := by
  unfold gd at h
  cases b with
  | true => exact ⟨rfl, h⟩
  | false => cases h
theorem gd_t {α : Type} {b : Bool} {x : Option α} (h : b = true) : gd b x = x := by rw [h]; rfl
def inb (i : Int32) (n : Nat) : Bool := decide (0 ≤ i.toInt ∧ i.toInt < n)
theorem inb_ok {i : Int32} {n : Nat} (h : inb i n = true) : vp_in i n := vp_in_iff.mpr (of_decide_eq_true h)
theorem inb_lt {i : Int32} {n : Nat} (h : inb i n = true) : i.toNatClampNeg < n := Nat.not_le.mp fun q => inb_ok h (Or.inr q)
theorem inb_nI {j n : Nat} (h : j < n) (hn : n < 2 ^ 31) : inb (nI j) n = true := by
  unfold inb
  rw [nI_toInt (by omega)]
  exact decide_eq_true ⟨by omega, by omega⟩
theorem ite_t {α : Type} {c : Prop} {i : Decidable c} {a b r : α} (h : c) (hF : (if c then a else b) = r) : a = r := by rw [if_pos h] at hF; exact hF
theorem ite_f {α : Type} {c : Prop} {i : Decidable c} {a b r : α} (h : ¬ c) (hF : (if c then a else b) = r) : b = r := by rw [if_neg h] at hF; exact hF
theorem nar01 {x : Int32} (h : x = 0 ∨ x = 1) : narrow .boolean (.int x) = .int x := by rcases h with rfl | rfl <;> rfl
def cpok (sp dp n : Int32) (n0 n1 : Nat) : Bool := decide ((¬ sp < 0 ∧ ¬ dp < 0 ∧ ¬ n < 0) ∧ sp.toNatClampNeg + n.toNatClampNeg ≤ n0 ∧ dp.toNatClampNeg + n.toNatClampNeg ≤ n1)
theorem cpok_ok {sp dp n : Int32} {n0 n1 : Nat} (h : cpok sp dp n n0 n1 = true) : ¬ sp < 0 ∧ ¬ dp < 0 ∧ ¬ n < 0 ∧ sp.toNatClampNeg + n.toNatClampNeg ≤ n0 ∧ dp.toNatClampNeg + n.toNatClampNeg ≤ n1 := by
  have := of_decide_eq_true h
  exact ⟨this.1.1, this.1.2.1, this.1.2.2, this.2.1, this.2.2⟩
theorem Go.iincP {l : Launch} {d : Nat} {mi : MI} {K : Option Value → St → Prop} {pc : Nat} {ls : List (Nat × Value)} {st : List Value} {S : St} {i : Nat} {x : Int32} {ls' : List (Nat × Value)} (hd : decode mi.2.2.1 pc = .ok (.iinc i 1, 3)) (hg : lgt ls i = some (.int x)) (hn : i < mi.2.2.2.1) (hs : sto1 ls i (.int (x + 1)) = ls') (k : Go l d mi K (pc + 3) ls' st S) : Go l d mi K pc ls st S := Go.iinc hd hg (by rw [show Int32.ofInt 1 = 1 by decide]) hn hs k
theorem Go.iincM {l : Launch} {d : Nat} {mi : MI} {K : Option Value → St → Prop} {pc : Nat} {ls : List (Nat × Value)} {st : List Value} {S : St} {i : Nat} {x : Int32} {ls' : List (Nat × Value)} (hd : decode mi.2.2.1 pc = .ok (.iinc i (-1), 3)) (hg : lgt ls i = some (.int x)) (hn : i < mi.2.2.2.1) (hs : sto1 ls i (.int (x + (-1))) = ls') (k : Go l d mi K (pc + 3) ls' st S) : Go l d mi K pc ls st S := Go.iinc hd hg (by rw [show Int32.ofInt (-1) = -1 by decide]) hn hs k
def swO (dflt lo hi : Int) (offs : Array Int) (x : Int32) : Int := if x.toInt < lo ∨ hi < x.toInt then dflt else offs.getD (x.toInt - lo).toNat dflt
theorem Go.swT {l : Launch} {d : Nat} {mi : MI} {K : Option Value → St → Prop} {pc : Nat} {ls : List (Nat × Value)} {st : List Value} {S : St} {dflt lo hi off : Int} {offs : Array Int} {len tgt : Nat} {x : Int32} (hd : decode mi.2.2.1 pc = .ok (.tableswitch dflt lo hi offs, len)) (ho : swO dflt lo hi offs x = off) (hz : (offs.size : Int) = hi - lo + 1) (ht : (pc : Int) + off = (tgt : Int)) (k : Go l d mi K tgt ls st S) : Go l d mi K pc ls (.int x :: st) S := by
  unfold swO at ho
  by_cases h : x.toInt < lo ∨ hi < x.toInt
  · rw [if_pos h] at ho
    subst ho
    exact Go.tabOut hd h ht k
  · rw [if_neg h] at ho
    have hl : (x.toInt - lo).toNat < offs.size := by omega
    refine Go.tabIn hd (fun q => h (Or.inl q)) (fun q => h (Or.inr q)) ?_ ht k
    rw [← ho, Array.getElem?_eq_getElem hl]
    simp [Array.getD, hl]
theorem cl_X5 {b : Nat} (h : b < 2) : clK (2 + b) = some 5 := (by decide : ∀ b, b < 2 → clK (2 + b) = some 5) b h
theorem sl_X5_0 {b : Nat} (h : b < 2) : slR (2 + b) 0 = some (5, some (30 + b)) := (by decide : ∀ b, b < 2 → slR (2 + b) 0 = some (5, some (30 + b))) b h
theorem ar_30 {b : Nat} (h : b < 2) : arK (30 + b) = some (0, 121) := (by decide : ∀ b, b < 2 → arK (30 + b) = some (0, 121)) b h
theorem sl_X5_1 {b : Nat} (h : b < 2) : slR (2 + b) 1 = some (5, none) := (by decide : ∀ b, b < 2 → slR (2 + b) 1 = some (5, none)) b h
theorem sl_X5_2 {b : Nat} (h : b < 2) : slR (2 + b) 2 = some (5, some (32 + b)) := (by decide : ∀ b, b < 2 → slR (2 + b) 2 = some (5, some (32 + b))) b h
theorem ar_32 {b : Nat} (h : b < 2) : arK (32 + b) = some (0, 121) := (by decide : ∀ b, b < 2 → arK (32 + b) = some (0, 121)) b h
theorem sl_X5_3 {b : Nat} (h : b < 2) : slR (2 + b) 3 = some (5, none) := (by decide : ∀ b, b < 2 → slR (2 + b) 3 = some (5, none)) b h
theorem cl_X7 {b : Nat} (h : b < 2) : clK (5 + b) = some 7 := (by decide : ∀ b, b < 2 → clK (5 + b) = some 7) b h
theorem sl_X7_0 {b : Nat} (h : b < 2) : slR (5 + b) 0 = some (7, none) := (by decide : ∀ b, b < 2 → slR (5 + b) 0 = some (7, none)) b h
theorem sl_X7_1 {b : Nat} (h : b < 2) : slR (5 + b) 1 = some (7, some (36 + b)) := (by decide : ∀ b, b < 2 → slR (5 + b) 1 = some (7, some (36 + b))) b h
theorem ar_36 {b : Nat} (h : b < 2) : arK (36 + b) = some (0, 60) := (by decide : ∀ b, b < 2 → arK (36 + b) = some (0, 60)) b h
theorem sl_X7_2 {b : Nat} (h : b < 2) : slR (5 + b) 2 = some (7, some (38 + b)) := (by decide : ∀ b, b < 2 → slR (5 + b) 2 = some (7, some (38 + b))) b h
theorem ar_38 {b : Nat} (h : b < 2) : arK (38 + b) = some (0, 60) := (by decide : ∀ b, b < 2 → arK (38 + b) = some (0, 60)) b h
theorem sl_X7_3 {b : Nat} (h : b < 2) : slR (5 + b) 3 = some (7, some (40 + b)) := (by decide : ∀ b, b < 2 → slR (5 + b) 3 = some (7, some (40 + b))) b h
theorem ar_40 {b : Nat} (h : b < 2) : arK (40 + b) = some (0, 60) := (by decide : ∀ b, b < 2 → arK (40 + b) = some (0, 60)) b h
theorem sl_X7_4 {b : Nat} (h : b < 2) : slR (5 + b) 4 = some (7, none) := (by decide : ∀ b, b < 2 → slR (5 + b) 4 = some (7, none)) b h
theorem sl_X7_5 {b : Nat} (h : b < 2) : slR (5 + b) 5 = some (7, none) := (by decide : ∀ b, b < 2 → slR (5 + b) 5 = some (7, none)) b h
theorem sl_X7_6 {b : Nat} (h : b < 2) : slR (5 + b) 6 = some (7, none) := (by decide : ∀ b, b < 2 → slR (5 + b) 6 = some (7, none)) b h
theorem sl_X7_7 {b : Nat} (h : b < 2) : slR (5 + b) 7 = some (7, none) := (by decide : ∀ b, b < 2 → slR (5 + b) 7 = some (7, none)) b h
theorem sl_X7_8 {b : Nat} (h : b < 2) : slR (5 + b) 8 = some (7, some (42 + b)) := (by decide : ∀ b, b < 2 → slR (5 + b) 8 = some (7, some (42 + b))) b h
theorem ar_42 {b : Nat} (h : b < 2) : arK (42 + b) = some (0, 20) := (by decide : ∀ b, b < 2 → arK (42 + b) = some (0, 20)) b h
theorem cl_X9 {b : Nat} (h : b < 6) : clK (14 + b) = some 9 := (by decide : ∀ b, b < 6 → clK (14 + b) = some 9) b h
theorem sl_X9_0 {b : Nat} (h : b < 6) : slR (14 + b) 0 = some (9, none) := (by decide : ∀ b, b < 6 → slR (14 + b) 0 = some (9, none)) b h
theorem sl_X9_1 {b : Nat} (h : b < 6) : slR (14 + b) 1 = some (9, none) := (by decide : ∀ b, b < 6 → slR (14 + b) 1 = some (9, none)) b h
theorem sl_X9_2 {b : Nat} (h : b < 6) : slR (14 + b) 2 = some (9, none) := (by decide : ∀ b, b < 6 → slR (14 + b) 2 = some (9, none)) b h
theorem sl_X9_3 {b : Nat} (h : b < 6) : slR (14 + b) 3 = some (9, none) := (by decide : ∀ b, b < 6 → slR (14 + b) 3 = some (9, none)) b h
theorem sl_X9_4 {b : Nat} (h : b < 6) : slR (14 + b) 4 = some (9, some (57 + b)) := (by decide : ∀ b, b < 6 → slR (14 + b) 4 = some (9, some (57 + b))) b h
theorem ar_57 {b : Nat} (h : b < 6) : arK (57 + b) = some (4, 60) := (by decide : ∀ b, b < 6 → arK (57 + b) = some (4, 60)) b h
