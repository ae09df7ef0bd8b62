/-! the course, beside the reference: what an operand comes to -/
abbrev Ops := List (Int32 × Int32 × Int32)
/-- nothing of a strength is waiting on top -/
def tpO (O : Ops) : Prop := ∀ o r, O = o :: r → o.2.1 < 1
def Gd (b : Nat → Int32) (n i i' k : Nat) (nd bz : Int32) (tp : Ops → Prop) (v : Int64) (bz' pl : Int32) : Prop := (bz' = 0 → bz = 0) ∧ vz bz' ∧ vz pl ∧ ∀ (O : Ops) (V : List (Int64 × Int32)), cN O = k → (bz = 0 → (¬ nd = 0 ↔ cS O = 0)) → tp O → ∃ vc, (bz' = 0 → ¬ nd = 0 → vc = v) ∧ rn (tsA b n i) 1 O V bz = rn (tsA b n i') 0 O ((vc, pl) :: V) bz'
def Bd (b : Nat → Int32) (n i k : Nat) (nd bz : Int32) (tp : Ops → Prop) : Prop := ∀ (O : Ops) (V : List (Int64 × Int32)), cN O = k → (bz = 0 → (¬ nd = 0 ↔ cS O = 0)) → tp O → rn (tsA b n i) 1 O V bz = none
theorem Bd_end {b : Nat → Int32} {n i k : Nat} {nd bz : Int32} {tp : Ops → Prop} (h : (TK b n).length ≤ i) : Bd b n i k nd bz tp := by
  intro O V _ _ _
  rw [tsA_end h, rn, if_neg (by decide)]
theorem rn_lit {b : Nat → Int32} {n i : Nat} {x : Nat × Nat × Int32} {O : Ops} {V : List (Int64 × Int32)} {bz : Int32} {v : Int64 × Int32} (hx : (TK b n)[i]? = some x) (h5 : ¬ x.2.2 = 5) (hl : liV b x.2.2 x.1 x.2.1 = some v) : rn (tsA b n i) 1 O V bz = rn (tsA b n (i + 1)) 0 O (v :: V) bz := by
  have e : tkT b x = .inr (some v) := by unfold tkT; rw [if_neg h5, hl]
  rw [tsA_at hx, e, rn, if_neg (by decide)]
  rfl
theorem rn_no {b : Nat → Int32} {n i : Nat} {x : Nat × Nat × Int32} {O : Ops} {V : List (Int64 × Int32)} {bz : Int32} (hx : (TK b n)[i]? = some x) (h5 : ¬ x.2.2 = 5) (hl : liV b x.2.2 x.1 x.2.1 = none) : rn (tsA b n i) 1 O V bz = none := by
  have e : tkT b x = .inr none := by unfold tkT; rw [if_neg h5, hl]
  rw [tsA_at hx, e, rn, if_neg (by decide)]
  rfl
theorem Gd_lit {b : Nat → Int32} {n i k : Nat} {x : Nat × Nat × Int32} {nd bz : Int32} {tp : Ops → Prop} {v : Int64 × Int32} (hz : vz bz) (hv : vz v.2) (hx : (TK b n)[i]? = some x) (h5 : ¬ x.2.2 = 5) (hl : liV b x.2.2 x.1 x.2.1 = some v) : Gd b n i (i + 1) k nd bz tp v.1 bz v.2 :=
  ⟨id, hz, hv, fun O V _ _ _ => ⟨v.1, fun _ _ => rfl, rn_lit hx h5 hl⟩⟩
theorem Bd_lit {b : Nat → Int32} {n i k : Nat} {x : Nat × Nat × Int32} {nd bz : Int32} {tp : Ops → Prop} (hx : (TK b n)[i]? = some x) (h5 : ¬ x.2.2 = 5) (hl : liV b x.2.2 x.1 x.2.1 = none) : Bd b n i k nd bz tp := fun _ _ _ _ _ => rn_no hx h5 hl
theorem rn_opn {ts : List Tok} {O : Ops} {V : List (Int64 × Int32)} {bz : Int32} (hk : cN O + 1 ≤ 60) : rn (.inl 40 :: ts) 1 O V bz = rn ts 1 ((40, -1, 0) :: O) V bz := by
  have e : stA (.inl 40) O V bz = some (1, (40, -1, 0) :: O, V, bz) := by
    unfold stA
    dsimp only
    rw [if_neg (by omega), if_pos rfl]
  rw [rn, if_neg (by decide), e]
theorem rn_frt {ts : List Tok} {O : Ops} {V : List (Int64 × Int32)} {bz c : Int32} (hk : cN O + 1 ≤ 60) (hc : c = 43 ∨ c = 45 ∨ c = 126 ∨ c = 33) : rn (.inl c :: ts) 1 O V bz = rn ts 1 ((c, 11, 0) :: O) V bz := by
  have n40 : ¬ c = 40 := by rcases hc with rfl | rfl | rfl | rfl <;> decide
  have e : stA (.inl c) O V bz = some (1, (c, 11, 0) :: O, V, bz) := by
    unfold stA
    dsimp only
    rw [if_neg (by omega), if_neg n40, if_pos hc]
  rw [rn, if_neg (by decide), e]
theorem rn_sgn0 {ts : List Tok} {O : Ops} {V : List (Int64 × Int32)} {bz c : Int32} (h : 60 < cN O + 1 ∨ ¬ (c = 40 ∨ c = 43 ∨ c = 45 ∨ c = 126 ∨ c = 33)) : rn (.inl c :: ts) 1 O V bz = none := by
  have e : stA (.inl c) O V bz = none := by
    unfold stA
    dsimp only
    rcases h with h | h
    · rw [if_pos h]
    · split
      · rfl
      · rw [if_neg (fun z => h (Or.inl z)), if_neg (fun z => h (Or.inr z))]
  rw [rn, if_neg (by decide), e]
theorem rn_clo {ts : List Tok} {O : Ops} {V : List (Int64 × Int32)} {bz : Int32} : rn (.inl 41 :: ts) 0 ((40, -1, 0) :: O) V bz = rn ts 0 O V bz := by
  have e : stB 41 ((40, -1, 0) :: O) V bz = some (0, O, V, bz) := by
    unfold stB
    rw [if_neg (by decide), finD_stop (fun o r z => by cases z; decide)]
    rfl
  rw [rn, if_pos rfl]
  show (match stB 41 ((40, -1, 0) :: O) V bz with | none => none | some x => rn ts x.1 x.2.1 x.2.2.1 x.2.2.2) = _
  rw [e]
