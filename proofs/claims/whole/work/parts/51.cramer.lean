/-! Cramer's rule, coordinate by coordinate. -/
set_option maxHeartbeats 8000000 in
theorem d5_cr0 (a b c d e y : Nat → Int) : d5 a b c d e * y 0 = d5 y b c d e * a 0 + d5 a y c d e * b 0 + d5 a b y d e * c 0 + d5 a b c y e * d 0 + d5 a b c d y * e 0 := by
  simp only [d5, d4, d3, d2]; grind
set_option maxHeartbeats 8000000 in
theorem d5_cr1 (a b c d e y : Nat → Int) : d5 a b c d e * y 1 = d5 y b c d e * a 1 + d5 a y c d e * b 1 + d5 a b y d e * c 1 + d5 a b c y e * d 1 + d5 a b c d y * e 1 := by
  simp only [d5, d4, d3, d2]; grind
set_option maxHeartbeats 8000000 in
theorem d5_cr2 (a b c d e y : Nat → Int) : d5 a b c d e * y 2 = d5 y b c d e * a 2 + d5 a y c d e * b 2 + d5 a b y d e * c 2 + d5 a b c y e * d 2 + d5 a b c d y * e 2 := by
  simp only [d5, d4, d3, d2]; grind
set_option maxHeartbeats 8000000 in
theorem d5_cr3 (a b c d e y : Nat → Int) : d5 a b c d e * y 3 = d5 y b c d e * a 3 + d5 a y c d e * b 3 + d5 a b y d e * c 3 + d5 a b c y e * d 3 + d5 a b c d y * e 3 := by
  simp only [d5, d4, d3, d2]; grind
set_option maxHeartbeats 8000000 in
theorem d5_cr4 (a b c d e y : Nat → Int) : d5 a b c d e * y 4 = d5 y b c d e * a 4 + d5 a y c d e * b 4 + d5 a b y d e * c 4 + d5 a b c y e * d 4 + d5 a b c d y * e 4 := by
  simp only [d5, d4, d3, d2]; grind
