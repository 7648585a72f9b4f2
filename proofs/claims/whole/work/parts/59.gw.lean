def gSp (L : Nat) (xs : Nat → Int32) (k : Nat) : Nat × (Nat → Int32) := bif Nat.beq k 0 then (L, xs) else bif Nat.beq k 1 then (81, fun j => gaps.getD j 0) else (94, fun j => wordsT.getD j 0)
/-- the program, over a script xs of L ints -/
noncomputable abbrev GW (L : Nat) (xs : Nat → Int32) : PG := (gIns, gRes, gCst, gSwt, gNl, gFt, gSp L xs)
