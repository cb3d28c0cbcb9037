def asA : List Int := [11, 13, 14, 19, 21, 22, 25, 26, 28, 35, 37, 38, 41, 42, 44, 49, 50, 52, 23, 27, 29, 39, 43, 45, 46, 51, 53, 54, 57, 58, 56, 15, 30, 60]
def asM : List Int := [-9, -9, -9, 33, -9, 29, 28, 30, -9, 27, 26, 0, 25, 1, 2, 31, -9, 24, 23, 3, 22, 4, 5, 18, 21, 6, 7, 19, 8, 20, 32, -9, -9, 32, 20, 9, 19, 10, 11, 21, 18, 12, 13, 22, 14, 23, 24, -9, 31, 15, 16, 25, 17, 26, 27, -9, 30, 28, 29, -9, 33, -9, -9, -9]
/-- the memory at the law's start -/
def mu0 (L : Nat) (xs : Nat → Int32) : mM := ((3, 0, fun i => if i = 0 then (10, 34) else if i = 1 then (10, 64) else if i = 2 then (10, L) else (99, 0)), (fun _ _ => .null), (fun i j => if i = 0 then iI (asA.getD j 0) else if i = 1 then iI (asM.getD j 0) else xs j), (fun _ _ => none))
