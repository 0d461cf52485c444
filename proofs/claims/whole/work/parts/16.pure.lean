/-- the cells by number: in which order they were made -/
def permL : List Nat := [0, 1, 11, 14, 18, 21, 26, 31, 34, 39, 40, 42, 47, 50, 51, 53, 55, 57, 59, 61, 17, 2, 3, 4, 5, 6, 7, 8, 9, 10, 12, 15, 13, 16, 19, 20, 22, 27, 23, 28, 24, 29, 25, 30, 32, 33, 35, 36, 37, 38, 41, 43, 44, 45, 46, 48, 49, 52, 54, 56, 58, 60, 62, 63, 64, 65, 66, 67, 68, 69, 70, 71, 72, 73, 74, 75, 76, 77, 78, 79, 80, 81, 82, 83, 84, 85, 86, 87, 88, 89, 90, 91, 92, 93, 94, 95, 96, 97, 98, 99, 100, 101, 102, 103]
def perm (k : Nat) : Nat := permL.getD k 0
/-- the state behind the two constructors -/
def ini (k : Nat) : List Int32 := if k = 100 then [-1, -1, -1, -1, -1, -1] else []
def S0 : St := (fun k j => if k = 1 then (if j = 10 then 2 else 0) else if k = 4 then (if j = 7 then 1 else 0) else if k = 10 then (if j = 0 then (-1) else 0) else if k = 63 then (if j = 10 then 2 else 0) else 0, fun k i => (ini k).getD i 0, fun _ _ => 0)
