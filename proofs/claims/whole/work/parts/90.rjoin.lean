/-! the class's quotient without a sign; join and pair -/
theorem uN_xLt (x y : Int64) : (x ^^^ (-9223372036854775808)) < (y ^^^ (-9223372036854775808)) ↔ uN x < uN y := by
  have := uN_le y x
  constructor
  · intro h
    rcases Nat.lt_or_ge (uN x) (uN y) with z | z
    · exact z
    · exact absurd (this.mpr z) (Int64.not_le.mpr h)
  · intro h
    exact Int64.not_le.mp (fun z => absurd (this.mp z) (by omega))
theorem cq_u {v w : Int64} {p : Int32} (hp : ¬ p = 0) (hw : ¬ w = 0) : uN (f_S_quotient v w p) = uN v / uN w := by
  have hw0 : 0 < uN w := Nat.pos_of_ne_zero (fun z => hw ((uN_0 w).mpr z))
  have hv := uN_lt v
  have hwl := uN_lt w
  unfold f_S_quotient
  rw [if_neg (fun z => hw ((lg_cmp_eq _ _).mp z)), if_neg hp]
  by_cases c : 0 ≤ lg_cmp w 0
  · rw [if_pos c]
    have c : uN w < 9223372036854775808 := by
      rcases Nat.lt_or_ge (uN w) 9223372036854775808 with z | z
      · exact z
      · exact absurd ((lg_cmp_ge _ _).mp c) (Int64.not_le.mpr ((uN_neg w).mpr z))
    have e1 : (v.toUInt64 >>> ((1 : Int32).toInt64.toUInt64 &&& Int64.toUInt64 63)).toInt64 = lN (uN v / 2) := by
      apply uN_inj
      rw [uN_lN (by omega)]
      have := uN_sk v (k := 1) (by omega)
      rw [Nat.pow_one] at this
      exact this
    have e2 : lN (uN v / 2) / w = lN (uN v / 2 / uN w) := by
      have := pk_lDiv (a := uN v / 2) (b := uN w) (by omega) hw0 c
      rw [lN_uN] at this
      exact this
    rw [e1, e2]
    generalize hq : uN v / 2 / uN w = qa
    have hdm := Nat.div_add_mod (uN v / 2) (uN w)
    have hr := Nat.mod_lt (uN v / 2) hw0
    rw [hq] at hdm
    have hql : qa ≤ uN v / 2 := by rw [← hq]; exact Nat.div_le_self _ _
    have en : uN (lN qa <<< ((1 : Int32).toInt64 &&& 63)) = 2 * qa := by
      rw [uN_shl, uN_lN (by omega)]
      omega
    generalize lN qa <<< ((1 : Int32).toInt64 &&& 63) = near at *
    generalize hr2 : uN v / 2 % uN w = r at *
    have hmul : uN w * (2 * qa) = 2 * (uN w * qa) := Nat.mul_left_comm _ _ _
    have er : uN (v - near * w) = 2 * r + uN v % 2 := by
      rw [uN_sub, uN_mul, en, Nat.mul_comm (2 * qa), hmul]
      omega
    have e : uN v = uN w * (2 * qa) + (2 * r + uN v % 2) := by rw [hmul]; omega
    by_cases c2 : lg_cmp ((v - near * w) ^^^ (-9223372036854775808)) (w ^^^ (-9223372036854775808)) < 0
    · rw [if_pos c2]
      have z := (uN_xLt _ _).mp ((lg_cmp_lt _ _).mp c2)
      rw [er] at z
      rw [en]
      have : uN v / uN w = 2 * qa := by
        rw [e, Nat.mul_add_div hw0, Nat.div_eq_of_lt]
        · rfl
        · have e5 : (uN w * (2 * qa) + (2 * r + uN v % 2)) % 2 = uN v % 2 := by rw [← e]
          omega
      exact this.symm
    · rw [if_neg c2]
      have z : uN w ≤ 2 * r + uN v % 2 := by
        rcases Nat.lt_or_ge (2 * r + uN v % 2) (uN w) with y | y
        · exact absurd ((lg_cmp_lt _ _).mpr ((uN_xLt _ _).mpr (by rw [er]; exact y))) c2
        · exact y
      have e3 : uN v = uN w * (2 * qa + 1) + (2 * r + uN v % 2 - uN w) := by rw [Nat.mul_add, Nat.mul_one]; omega
      have : uN v / uN w = 2 * qa + 1 := by
        generalize hR : 2 * r + uN v % 2 - uN w = R at e3
        rw [e3, Nat.mul_add_div hw0, Nat.div_eq_of_lt (by omega)]
      rw [this, uN_add, en]
      show (2 * qa + 1) % 18446744073709551616 = 2 * qa + 1
      omega
  · rw [if_neg c]
    have c : 9223372036854775808 ≤ uN w := by
      rcases Nat.lt_or_ge (uN w) 9223372036854775808 with z | z
      · exact absurd ((lg_cmp_ge _ _).mpr (Int64.not_lt.mp (fun y => absurd ((uN_neg w).mp y) (by omega)))) c
      · exact z
    by_cases c2 : lg_cmp (v ^^^ (-9223372036854775808)) (w ^^^ (-9223372036854775808)) < 0
    · rw [if_pos c2]
      have z := (uN_xLt _ _).mp ((lg_cmp_lt _ _).mp c2)
      rw [Nat.div_eq_of_lt z]
      rfl
    · rw [if_neg c2]
      have z : uN w ≤ uN v := by
        rcases Nat.lt_or_ge (uN v) (uN w) with y | y
        · exact absurd ((lg_cmp_lt _ _).mpr ((uN_xLt _ _).mpr y)) c2
        · exact y
      have : uN v / uN w = 1 := by
        apply Nat.div_eq_of_lt_le
        · omega
        · omega
      rw [this]
      rfl
/-- the reference's quotient is the class's, but for a divisor 0 -/
theorem r_quot {post : Int64 → Prop} {v w : Int64} {p : Int32} (hw : ¬ w = 0) (h : post (f_S_quotient v w p)) : wp_R_quotient post v w p := by
  by_cases hp : p = 0
  · unfold wp_R_quotient
    refine br_t hp ⟨hw, ?_⟩
    unfold f_S_quotient at h
    rw [if_neg (fun z => hw ((lg_cmp_eq _ _).mp z)), if_pos hp] at h
    exact h
  · refine r_quotU hp hw (fun q hq => ?_)
    have : q = f_S_quotient v w p := uN_inj (hq.trans (cq_u hp hw).symm)
    rw [this]
    exact h
