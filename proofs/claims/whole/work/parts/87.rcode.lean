/-! is(c, q) tells the token's code -/
theorem cod_1 : ∀ q, q < 28 → 4 ≤ q → slen q = 1 → ∃ c, c < 256 ∧ 1 ≤ c ∧ sch q 0 = nI c ∧ cod q = nI c := fun q h1 h2 h3 => by
  have h := (show ∀ q, q < 28 → 4 ≤ q → slen q = 1 → ((sch q 0).toNatClampNeg < 256 ∧ 1 ≤ (sch q 0).toNatClampNeg ∧ sch q 0 = nI (sch q 0).toNatClampNeg ∧ cod q = nI (sch q 0).toNatClampNeg) by decide +kernel) q h1 h2 h3
  exact ⟨_, h⟩
theorem cod_2 : ∀ q, q < 28 → 4 ≤ q → slen q = 2 → ∃ c e, c < 256 ∧ e < 256 ∧ 1 ≤ c ∧ 1 ≤ e ∧ sch q 0 = nI c ∧ sch q 1 = nI e ∧ cod q = nI (c + 256 * e) := fun q h1 h2 h3 => by
  have h := (show ∀ q, q < 28 → 4 ≤ q → slen q = 2 → ((sch q 0).toNatClampNeg < 256 ∧ (sch q 1).toNatClampNeg < 256 ∧ 1 ≤ (sch q 0).toNatClampNeg ∧ 1 ≤ (sch q 1).toNatClampNeg ∧ sch q 0 = nI (sch q 0).toNatClampNeg ∧ sch q 1 = nI (sch q 1).toNatClampNeg ∧ cod q = nI ((sch q 0).toNatClampNeg + 256 * (sch q 1).toNatClampNeg)) by decide +kernel) q h1 h2 h3
  exact ⟨_, _, h⟩
theorem cod_0 : ∀ q, q < 28 → 4 ≤ q → ¬ cod q = 0 := by decide +kernel
theorem cod_3 : ∀ q, q < 28 → 4 ≤ q → ¬ cod q = 3026478 ∧ ¬ cod q = 4013116 ∧ ¬ cod q = 4013630 := by decide +kernel
theorem sgC_1 {b : Nat → Int32} {s v : Nat} (hv : v < 256) (h : b s = nI v) : sgC b s (s + 1) 3 0 0 = nI v := by
  rw [sgC, if_neg (by omega), sgC, if_pos (by omega)]
  show 0 ||| (b s <<< ((8 * nI 0) &&& 31)) = nI v
  rw [h]
  exact pk1 v hv
theorem sgC_2 {b : Nat → Int32} {s v w : Nat} (hv : v < 256) (hw : w < 256) (h : b s = nI v) (h' : b (s + 1) = nI w) : sgC b s (s + 2) 3 0 0 = nI (v + 256 * w) := by
  rw [sgC, if_neg (by omega), sgC, if_neg (by omega), sgC, if_pos (by omega)]
  show (0 ||| (b s <<< ((8 * nI 0) &&& 31))) ||| (b (s + 1) <<< ((8 * nI 1) &&& 31)) = _
  rw [h, h', pk1 v hv]
  exact pk2 v hv w hw
theorem sgC_3 {b : Nat → Int32} {s : Nat} : sgC b s (s + 3) 3 0 0 = ((0 ||| (b s <<< ((8 * nI 0) &&& 31))) ||| (b (s + 1) <<< ((8 * nI 1) &&& 31))) ||| (b (s + 2) <<< ((8 * nI 2) &&& 31)) := by
  rw [sgC, if_neg (by omega), sgC, if_neg (by omega), sgC, if_neg (by omega), sgC]
  rfl
/-- a token whose first byte is that of such a String is a sign -/
theorem sign_of {st : Nat → Int32} {n s q : Nat} (hq : q < 28) (hq4 : 4 ≤ q) (h : tb st n s = sch q 0) : tokE (tb st n) n s = (sgE (tb st n) s, 5) ∧ ¬ sgE (tb st n) s = s := by
  obtain ⟨a1, a2, a3, a4, a5, a6, a7⟩ := sg_first q hq hq4
  rw [← h] at a1 a2 a3 a4 a5 a6 a7
  have hquo : quo (tb st n) n s = none := by
    unfold quo quP
    rw [if_neg a7, if_neg a4, if_neg a5]
  have hnu : nuB (tb st n) s = 0 := by rw [nuB, if_pos a2, if_neg a3]
  have hsg : ¬ sgE (tb st n) s = s := by
    unfold sgE
    rw [if_neg a6]
    split
    · split
      · omega
      · omega
    · omega
  refine ⟨?_, hsg⟩
  rw [tokE_none hquo, if_pos a1, if_pos hnu, if_neg hsg]
theorem is_code {st : Nat → Int32} {n q : Nat} {x : Nat × Nat × Int32} (hq : q < 28) (hq4 : 4 ≤ q) (h1 : x.1 < n) (h2 : x.2 = tokE (tb st n) n x.1) : (x.2.1 - x.1 = slen q ∧ same (tb st n) x.1 q (slen q)) ↔ tkC (tkT (tb st n) x) = cod q := by
  obtain ⟨s, e, k⟩ := x
  dsimp only at h1 h2 ⊢
  obtain ⟨v, hv, ev⟩ := tb_in (row := st) h1
  by_cases hk : k = 5
  · have et : tkC (tkT (tb st n) (s, e, k)) = sgC (tb st n) s e 3 0 0 := by
      unfold tkT
      rw [if_pos hk]
      rfl
    rw [et]
    -- the size of a sign
    have hke : (tokE (tb st n) n s).2 = 5 := by rw [← h2]; exact hk
    have hee : e = (tokE (tb st n) n s).1 := by rw [← h2]
    have hle := tokE_le (st := st) h1
    have hsz : e = sgE (tb st n) s ∧ ¬ sgE (tb st n) s = s := by
      cases hquo : quo (tb st n) n s with
      | some y =>
        exfalso
        rw [tokE, hquo] at hke
        unfold quo at hquo
        split at hquo
        · split at hquo
          · cases hquo; exact absurd (show (3 : Int32) = 5 from hke) (by decide)
          · cases hquo
        · split at hquo
          · split at hquo
            · cases hquo; exact absurd (show (4 : Int32) = 5 from hke) (by decide)
            · cases hquo
          · cases hquo
      | none =>
        rw [tokE_none hquo] at hke hee
        split at hke
        · rename_i z1
          rw [if_pos z1] at hee
          split at hke
          · rename_i z2
            rw [if_pos z2] at hee
            split at hke
            · exact absurd (show (6 : Int32) = 5 from hke) (by decide)
            · rename_i z3
              rw [if_neg z3] at hee
              exact ⟨hee, z3⟩
          · exact absurd (show (2 : Int32) = 5 from hke) (by decide)
        · exact absurd (show (1 : Int32) = 5 from hke) (by decide)
    obtain ⟨he, hns⟩ := hsz
    have t := ch_triple (tb st n s) (tb st n (s + 1)) (tb st n (s + 2))
    have p := ch_pair (st := st) (n := n) (i := s) (b := tb st n (s + 1))
    by_cases c1 : f_W_isTriple (tb st n s) (tb st n (s + 1)) (tb st n (s + 2)) = 0
    · by_cases c2 : f_W_isPair (tb st n s) (tb st n (s + 1)) = 0
      · have e1 : e = s + 1 := by
          rw [he]
          unfold sgE at hns ⊢
          rw [if_pos c1, if_pos c2] at hns ⊢
          split at hns
          · exact absurd rfl hns
          · rename_i z
            rw [if_neg z]
        subst e1
        rw [sgC_1 hv ev]
        rcases sg_len q hq hq4 with hl | hl
        · obtain ⟨c, d1, d2, d3, d4⟩ := cod_1 q hq hq4 hl
          rw [d4, hl, nI_eq (by omega) (by omega)]
          constructor
          · intro z
            have z2 : tb st n (s + 0) = sch q 0 := z.2.2
            rw [Nat.add_zero, ev, d3, nI_eq (by omega) (by omega)] at z2
            exact z2
          · intro z
            refine ⟨by omega, trivial, ?_⟩
            rw [Nat.add_zero, ev, d3, z]
        · obtain ⟨c, d, d1, d2, d3, d4, d5, d6, d7⟩ := cod_2 q hq hq4 hl
          rw [d7, hl, nI_eq (by omega) (by omega)]
          constructor
          · intro z
            omega
          · intro z
            omega
      · have e2 : e = s + 2 := by
          rw [he]
          unfold sgE
          rw [if_pos c1, if_neg c2]
        subst e2
        have hs1 : s + 1 < n := by rw [← hee] at hle; omega
        obtain ⟨w, hw, ew⟩ := tb_in (row := st) hs1
        have p := Decidable.not_not.mp (fun y => c2 (p.mpr y))
        have hv0 : 1 ≤ v := by
          cases v with
          | succ v => omega
          | zero =>
            exfalso
            rw [ev] at p
            revert p
            generalize tb st n (s + 1) = y
            have o1 : oneOf 1 (nI 0) = 0 := by decide +kernel
            have o2 : oneOf 2 (nI 0) = 0 := by decide +kernel
            intro p
            rcases p with ⟨_, p⟩ | ⟨_, p⟩ | ⟨p, _⟩
            · exact p o1
            · exact p o2
            · exact absurd p (by decide)
        have hw0 : 1 ≤ w := by
          cases w with
          | succ w => omega
          | zero =>
            exfalso
            rw [ew, ev] at p
            rcases p with ⟨p, _⟩ | ⟨p, _⟩ | ⟨_, p⟩
            · rw [nI_eq (by omega) (by omega)] at p
              omega
            · exact absurd p (by decide)
            · exact absurd p (by decide)
        rw [sgC_2 hv hw ev ew]
        rcases sg_len q hq hq4 with hl | hl
        · obtain ⟨c, d1, d2, d3, d4⟩ := cod_1 q hq hq4 hl
          rw [d4, hl, nI_eq (by omega) (by omega)]
          constructor
          · intro z
            omega
          · intro z
            omega
        · obtain ⟨c, d, d1, d2, d3, d4, d5, d6, d7⟩ := cod_2 q hq hq4 hl
          rw [d7, hl, nI_eq (by omega) (by omega)]
          constructor
          · intro z
            obtain ⟨z1, ⟨z2, z3⟩, z4⟩ := z
            rw [Nat.add_zero, ev, d5, nI_eq (by omega) (by omega)] at z3
            rw [ew, d6, nI_eq (by omega) (by omega)] at z4
            omega
          · intro z
            refine ⟨by omega, ⟨trivial, ?_⟩, ?_⟩
            · rw [Nat.add_zero, ev, d5, nI_eq (by omega) (by omega)]
              omega
            · rw [ew, d6, nI_eq (by omega) (by omega)]
              omega
    · have e3 : e = s + 3 := by
        rw [he]
        unfold sgE
        rw [if_neg c1]
      subst e3
      have t := Decidable.not_not.mp (fun y => c1 (t.mpr y))
      obtain ⟨n1, n2, n3⟩ := cod_3 q hq hq4
      have hl := sg_len q hq hq4
      rw [sgC_3]
      constructor
      · intro z
        omega
      · intro z
        exfalso
        rcases t with ⟨t1, t2, t3⟩ | ⟨t1, t2, t3⟩
        · rw [t1, t2, t3] at z
          exact n1 (by rw [← z]; decide)
        · rcases t1 with t1 | t1
          · rw [t2, t3, t1] at z
            exact n2 (by rw [← z]; decide)
          · rw [t2, t3, t1] at z
            exact n3 (by rw [← z]; decide)
  · have et : tkC (tkT (tb st n) (s, e, k)) = 0 := by
      unfold tkT
      rw [if_neg hk]
      rfl
    rw [et]
    constructor
    · intro z
      exfalso
      have hl := sg_len q hq hq4
      have z0 : tb st n s = sch q 0 := by
        have z2 := z.2
        rcases hl with hl | hl <;> rw [hl] at z2
        · have := z2.2
          rw [Nat.add_zero] at this
          exact this
        · have := z2.1.2
          rw [Nat.add_zero] at this
          exact this
      have := (sign_of hq hq4 z0).1
      rw [← h2] at this
      cases this
      exact hk rfl
    · intro z
      exact absurd z.symm (cod_0 q hq hq4)
