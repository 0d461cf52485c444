def undB (k u : Nat) : Bool := decide (u = 0 ∨ k = u ∨ (u = 1 ∧ k = 4) ∨ (u = 2 ∧ (k = 3 ∨ k = 5)) ∨ (u = 3 ∧ k = 5) ∨ (u = 6 ∧ k = 7))
theorem lt8 {k : Nat} (h : k < 8) : k = 0 ∨ k = 1 ∨ k = 2 ∨ k = 3 ∨ k = 4 ∨ k = 5 ∨ k = 6 ∨ k = 7 := by omega
set_option maxRecDepth 10000 in
theorem F_und0 {k u : Nat} (hk : k < 8) (hu : u < 8) (n : Nat) (S : St) : F_X0_isUnder (n + 9) (nI k) (nI u) S = some (bI (undB k u), S) := by
  rcases lt8 hk with rfl | rfl | rfl | rfl | rfl | rfl | rfl | rfl <;> rcases lt8 hu with rfl | rfl | rfl | rfl | rfl | rfl | rfl | rfl <;> rfl
set_option maxRecDepth 10000 in
theorem F_und12 {k u : Nat} (hk : k < 8) (hu : u < 8) (S : St) : F_X12_isUnder (nI k) (nI u) S = some (bI (undB k u), S) := by
  rcases lt8 hk with rfl | rfl | rfl | rfl | rfl | rfl | rfl | rfl <;> rcases lt8 hu with rfl | rfl | rfl | rfl | rfl | rfl | rfl | rfl <;> rfl
