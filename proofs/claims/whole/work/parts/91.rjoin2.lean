/-! join, operator by operator -/
theorem cods : cod (sgn 0) = 31868 ∧ cod (sgn 1) = 9766 ∧ cod (sgn 2) = 124 ∧ cod (sgn 3) = 94 ∧ cod (sgn 4) = 38 ∧ cod (sgn 5) = 15677 ∧ cod (sgn 6) = 15649 ∧ cod (sgn 7) = 60 ∧ cod (sgn 8) = 62 ∧ cod (sgn 9) = 15676 ∧ cod (sgn 10) = 15678 ∧ cod (sgn 11) = 15420 ∧ cod (sgn 12) = 15934 ∧ cod (sgn 13) = 43 ∧ cod (sgn 14) = 45 ∧ cod (sgn 15) = 42 ∧ cod (sgn 16) = 47 ∧ cod (sgn 17) = 37 := by decide +kernel
theorem xor0 (x : Int64) : x ^^^ 0 = x := by
  apply Int64.toBitVec_inj.mp
  rw [Int64.toBitVec_xor]
  exact BitVec.xor_zero
/-- v < w, of the kind p -/
def lessK (p : Int32) (v w : Int64) : Prop := if p = 0 then v < w else uN v < uN w
theorem hold7 (p : Int32) (v w : Int64) : (lg_cmp (v ^^^ (if p = 0 then 0 else -9223372036854775808)) (w ^^^ (if p = 0 then 0 else -9223372036854775808)) < 0) ↔ lessK p v w := by
  unfold lessK
  rw [lg_cmp_lt]
  split
  · rw [xor0, xor0]
  · exact uN_xLt v w
