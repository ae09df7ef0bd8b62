/-! quotients without a sign, by naturals -/
theorem uN_min (x : Int64) : uN (x + (-9223372036854775808)) = (uN x + 9223372036854775808) % 18446744073709551616 := by
  rw [uN_add]
  rfl
theorem uN_minLt (x y : Int64) : (x + (-9223372036854775808)) < (y + (-9223372036854775808)) ↔ uN x < uN y := by
  have hx := uN_lt x
  have hy := uN_lt y
  rw [Int64.lt_iff_toInt_lt, uN_int, uN_int, uN_min, uN_min]
  split <;> split <;> omega
theorem uN_neg (x : Int64) : x < 0 ↔ 9223372036854775808 ≤ uN x := by
  have hx := uN_lt x
  rw [Int64.lt_iff_toInt_lt, uN_int]
  have : (0 : Int64).toInt = 0 := rfl
  rw [this]
  split <;> omega
theorem uN_sub (x y : Int64) : uN (x - y) = (uN x + (18446744073709551616 - uN y)) % 18446744073709551616 := by
  have hx := uN_lt x
  have hy := uN_lt y
  show (x.toUInt64 - y.toUInt64).toNat = _
  rw [UInt64.toNat_sub]
  show (2 ^ 64 - uN y + uN x) % 2 ^ 64 = _
  rw [Nat.add_comm]
theorem uN_0 (x : Int64) : x = 0 ↔ uN x = 0 := ⟨fun h => by rw [h]; rfl, fun h => uN_inj (h.trans rfl)⟩
theorem lN_uN (x : Int64) : lN (uN x) = x := by
  apply uN_inj
  show (Int64.ofNat (uN x)).toUInt64.toNat = uN x
  obtain ⟨m, h1, h2⟩ := wb_of x
  have : uN x = m := by
    rw [h2]
    show (lN m).toBitVec.toNat = m
    exact wb_tn h1
  rw [this]
  show (lN m).toBitVec.toNat = m
  exact wb_tn h1
theorem uN_lN {m : Nat} (h : m < 2 ^ 64) : uN (lN m) = m := by
  show (lN m).toBitVec.toNat = m
  exact wb_tn h
/-- the bit at k -/
theorem uN_bitk (x : Int64) {k : Nat} (hk : k < 64) : uN (((x.toUInt64 >>> ((nI k).toInt64.toUInt64 &&& Int64.toUInt64 63)).toInt64) &&& 1) = uN x / 2 ^ k % 2 := by
  have h := wb_bit (uN_lt x) hk
  rw [lN_uN] at h
  rw [h, uN_lN]
  have : uN x / 2 ^ k % 2 < 2 := Nat.mod_lt _ (by decide)
  omega
theorem uN_orBit (q : Int64) {a k : Nat} (hk : k < 64) (hq : uN q = a * 2 ^ (k + 1)) (hl : a * 2 ^ (k + 1) + 2 ^ k < 2 ^ 64) : uN (q ||| ((1 : Int64) <<< ((nI k).toInt64 &&& 63))) = a * 2 ^ (k + 1) + 2 ^ k := by
  have h1 : (1 : Int64) <<< ((nI k).toInt64 &&& 63) = lN (2 ^ k) := by
    have := wb_shl 1 hk
    rw [Nat.one_mul] at this
    exact this
  have h2 : q = lN (a * 2 ^ (k + 1)) := by rw [← hq, lN_uN]
  rw [h1, h2, g_or (k := k + 1) rfl (by rw [Nat.pow_succ]; have := Nat.two_pow_pos k; omega) hl, uN_lN hl]
theorem r_quotLoop {post : Int64 → Prop} {v w : Int64} (hw : 0 < uN w) (h : ∀ q, uN q = uN v / uN w → post q) : ∀ (k : Nat) (q r : Int64), k ≤ 64 → uN r = uN v / 2 ^ k % uN w → uN q = uN v / 2 ^ k / uN w * 2 ^ k → w_R_quotient_19 post v w (k + 1) q r (nI k - 1) := by
  intro k
  induction k with
  | zero =>
    intro q r hk hr hq
    refine br_t (by decide) (h q ?_)
    rw [hq]
    simp
  | succ k ih =>
    intro q r hk hr hq
    rw [nI_pred]
    have hv := uN_lt v
    have hwl := uN_lt w
    have hrl := uN_lt r
    have hrw : uN r < uN w := by rw [hr]; exact Nat.mod_lt _ hw
    -- the next bit
    have hbit := uN_bitk v (k := k) (by omega)
    have hb2 : uN v / 2 ^ k % 2 < 2 := Nat.mod_lt _ (by decide)
    have hdiv : uN v / 2 ^ (k + 1) = uN v / 2 ^ k / 2 := by rw [Nat.pow_succ, Nat.div_div_eq_div_mul]
    generalize hA : uN v / 2 ^ k = A at *
    have hA2 : A = 2 * (A / 2) + A % 2 := by omega
    generalize hW : uN w = Wn at *
    have hdm := Nat.div_add_mod (A / 2) Wn
    rw [hdiv] at hr hq
    generalize hqa : A / 2 / Wn = qa at *
    have core : ∀ R, R = 2 * uN r + A % 2 → (Wn ≤ R → A / Wn = 2 * qa + 1 ∧ A % Wn = R - Wn) ∧ (R < Wn → A / Wn = 2 * qa ∧ A % Wn = R) := by
      intro R hR
      have e : A = Wn * (2 * qa) + R := by
        rw [hR, hr, Nat.mul_left_comm]
        omega
      refine ⟨fun z => ?_, fun z => ?_⟩
      · have e2 : A = Wn * (2 * qa + 1) + (R - Wn) := by rw [Nat.mul_add, Nat.mul_one]; omega
        have hlt : R - Wn < Wn := by omega
        constructor
        · rw [e2, Nat.mul_add_div hw, Nat.div_eq_of_lt hlt]
          try omega
        · rw [e2, Nat.mul_add_mod, Nat.mod_eq_of_lt hlt]
      · constructor
        · rw [e, Nat.mul_add_div hw, Nat.div_eq_of_lt z]
          try omega
        · rw [e, Nat.mul_add_mod, Nat.mod_eq_of_lt z]
    have hor := uN_or (x := r) (y := (((v.toUInt64 >>> ((nI k).toInt64.toUInt64 &&& Int64.toUInt64 63)).toInt64) &&& 1)) (by rw [hbit]; exact hb2)
    rw [hbit] at hor
    -- with the bit taken
    have hp := Nat.two_pow_pos k
    have hAle : A * 2 ^ k ≤ uN v := by rw [← hA]; exact Nat.div_mul_le_self _ _
    have big : ∀ q', A / Wn = 2 * qa + 1 → q' = qa * 2 ^ (k + 1) + 2 ^ k → q' = A / Wn * 2 ^ k ∧ qa * 2 ^ (k + 1) + 2 ^ k < 2 ^ 64 := by
      intro q' h1 h2
      have e : qa * 2 ^ (k + 1) + 2 ^ k = (2 * qa + 1) * 2 ^ k := by rw [Nat.pow_succ, Nat.add_mul, Nat.one_mul, Nat.mul_comm (2 ^ k) 2, ← Nat.mul_assoc, Nat.mul_comm qa 2]
      refine ⟨by rw [h2, h1, e], ?_⟩
      rw [e, ← h1]
      have : A / Wn * 2 ^ k ≤ A * 2 ^ k := Nat.mul_le_mul_right _ (Nat.div_le_self _ _)
      omega
    have taken : ∀ r2 : Int64, Wn ≤ 2 * uN r + A % 2 → uN r2 = 2 * uN r + A % 2 - Wn → ∀ x : Int32, x = nI k + (-1) → w_R_quotient_19 post v w (k + 1) (q ||| ((1 : Int64) <<< ((nI k).toInt64 &&& 63))) r2 x := by
      intro r2 z hr2
      obtain ⟨c1, c2⟩ := (core _ rfl).1 z
      obtain ⟨b1, b2⟩ := big _ c1 rfl
      refine nm_r (e' := nI k - 1) (Int32.sub_eq_add_neg _ _).symm (ih _ r2 (by omega) (by rw [hr2, c2]) ?_)
      rw [uN_orBit q (by omega) hq b2]
      exact b1
    have left : ∀ r2 : Int64, 2 * uN r + A % 2 < Wn → uN r2 = 2 * uN r + A % 2 → ∀ x : Int32, x = nI k + (-1) → w_R_quotient_19 post v w (k + 1) q r2 x := by
      intro r2 z hr2
      obtain ⟨c1, c2⟩ := (core _ rfl).2 z
      refine nm_r (e' := nI k - 1) (Int32.sub_eq_add_neg _ _).symm (ih q r2 (by omega) (by rw [hr2, c2]) ?_)
      rw [hq, c1, Nat.pow_succ, Nat.mul_comm (2 ^ k) 2, ← Nat.mul_assoc, Nat.mul_comm qa 2]
    refine br_f (nI_pos (by omega)) (br_c (fun c => ?_) (fun c => ?_))
    · have c : uN r < 9223372036854775808 := by
        rcases Nat.lt_or_ge (uN r) 9223372036854775808 with z | z
        · exact z
        · exact absurd ((lg_cmp_ge _ _).mp c) (Int64.not_le.mpr ((uN_neg r).mpr z))
      have e1 : uN ((r <<< ((1 : Int32).toInt64 &&& 63)) ||| (((v.toUInt64 >>> ((nI k).toInt64.toUInt64 &&& Int64.toUInt64 63)).toInt64) &&& 1)) = 2 * uN r + A % 2 := by rw [hor]; omega
      refine nm_e (br_t rfl (br_c (fun c2 => ?_) (fun c2 => ?_)))
      · have z := (uN_minLt _ _).mp ((lg_cmp_lt _ _).mp c2)
        rw [e1, hW] at z
        exact left _ z e1
      · have z : Wn ≤ 2 * uN r + A % 2 := by
          rcases Nat.lt_or_ge (2 * uN r + A % 2) Wn with y | y
          · exact absurd ((lg_cmp_lt _ _).mpr ((uN_minLt _ _).mpr (by rw [e1, hW]; exact y))) c2
          · exact y
        refine nm_e (nm_e (taken _ z ?_))
        rw [uN_sub, e1, hW]
        omega
    · have c : 9223372036854775808 ≤ uN r := by
        rcases Nat.lt_or_ge (uN r) 9223372036854775808 with z | z
        · exact absurd ((lg_cmp_ge _ _).mpr (Int64.not_lt.mp (fun y => absurd ((uN_neg r).mp y) (by omega)))) c
        · exact z
      refine nm_e (br_f (by decide) (nm_e (nm_e (taken _ (by omega) ?_))))
      rw [uN_sub, hor, hW]
      omega
theorem r_quotU {post : Int64 → Prop} {v w : Int64} {p : Int32} (hp : ¬ p = 0) (hw : ¬ w = 0) (h : ∀ q, uN q = uN v / uN w → post q) : wp_R_quotient post v w p := by
  have hw0 : 0 < uN w := Nat.pos_of_ne_zero (fun z => hw ((uN_0 w).mpr z))
  unfold wp_R_quotient
  refine br_f hp ⟨_, r_quotLoop hw0 h 64 0 0 (Nat.le_refl _) ?_ ?_⟩
  · have hv := uN_lt v
    rw [Nat.div_eq_of_lt (by omega)]
    simp
    rfl
  · have hv := uN_lt v
    rw [Nat.div_eq_of_lt (by omega)]
    simp
    rfl
