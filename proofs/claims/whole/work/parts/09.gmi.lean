def gmi (j : Nat) : Int32 := if j = 0 then 2 else if j = 1 then 3 else 1
