theorem c2_add {sf : sfT} (hsf : sfOk sf) (l : Launch) (D : va_G) (cI : ClassId) (t : Nat) (n : Nat) (S : CS) : MetW l D (tyC cI) sf (wT cI t) yX2_add cX2_add 3 (some .int) 2 90 QWi [.ref t] S (f2_add n S) := by
  sorry
