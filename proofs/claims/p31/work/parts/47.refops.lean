/-! the calls that change the state: the reference -/
section RO
variable {N c : Nat} {SV : Nat → Nat → Nat} {M : Nat → Nat} {c1 c2 c3 c4 c5 c6 c7 : Int32} {c8 : Int64} {m s0 : Nat → Int32}
end RO

