theorem zRd {x : Int} (h : (decide (-2147483648 ≤ x) && decide (x < 2147483648)) = true) : zR x := by simpa [zR] using h
theorem zLd {x : Int} (h : (decide (-9223372036854775808 ≤ x) && decide (x < 9223372036854775808)) = true) : zL x := by simpa [zL] using h
