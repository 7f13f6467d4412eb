/-! ===== odds by rain: the sum before it is reduced ===== -/
section Rain2
variable {d : Nat} {w : Mem} {Q : Option Value → Mem → Prop} {T : Tv} {R : Rc} {n h r : Nat}
abbrev RRain (R : Rc) (s : Nat) : Rc := (R.1, R.2.1, s, R.2.2.2)
def rkR (T : Tv) (R : Rc) (s h : Nat) : Nat := rkX (TO T (VC (RRain R s))) (nH T) (VC (RRain R s)).2.2.2.1 h
def odS (T : Tv) (R : Rc) (h r s : Nat) (a : Int64) : Int64 := if rkR T R s h = r then a + WRs T (nI s) else a
end Rain2
