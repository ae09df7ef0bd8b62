/-! a choice that is none, on the course -/
theorem ch_s1 {O : Ops} {nd nda : Int32} {v v' : Int64} (ea : ¬ nda = 0 ↔ (¬ nd = 0 ∧ ¬ v = 0)) (h2 : ¬ nd = 0 ↔ cS O = 0) (d1 : ¬ nd = 0 → v' = v) : ¬ nda = 0 ↔ cS ((63, -1, if v' = 0 then 1 else 0) :: O) = 0 := by
  rw [cS_add, ea, ← h2]
  constructor
  · intro w
    rw [d1 w.1, if_neg w.2]
    exact ⟨rfl, w.1⟩
  · intro w
    refine ⟨w.2, fun u => ?_⟩
    rw [d1 w.2, if_pos u] at w
    exact absurd w.1 (by decide)
theorem ch_s2 {O : Ops} {nd ndb : Int32} {v v' : Int64} (eb : ¬ ndb = 0 ↔ (¬ nd = 0 ∧ v = 0)) (h2 : ¬ nd = 0 ↔ cS O = 0) (d1 : ¬ nd = 0 → v' = v) : ¬ ndb = 0 ↔ cS ((58, 0, if (if v' = 0 then (1 : Int32) else 0) = 0 then 1 else 0) :: O) = 0 := by
  rw [cS_add, eb, ← h2]
  constructor
  · intro w
    rw [d1 w.1, if_pos w.2, if_neg (by decide)]
    exact ⟨rfl, w.1⟩
  · intro w
    refine ⟨w.2, Classical.byContradiction (fun u => ?_)⟩
    rw [d1 w.2, if_neg u, if_pos rfl] at w
    exact absurd w.1 (by decide)
theorem Bd_q60 {b : Nat → Int32} {n i i1 k : Nat} {x : Nat × Nat × Int32} {nd bz bz1 pl1 : Int32} {v : Int64} (hx : (TK b n)[i1]? = some x) (tx : tkT b x = .inl 63) (hk : 60 < k + 1) (g1 : Gd b n i i1 k nd bz tpO v bz1 pl1) : Bd b n i k nd bz tpO := by
  obtain ⟨a1, a2, a3, a4⟩ := g1
  intro O V h1 h2 h3
  obtain ⟨v', d1, d2⟩ := a4 O V h1 h2 h3
  rw [d2, tsA_at hx, tx, rn_qst0 h3 (by omega)]
theorem Bd_qa {b : Nat → Int32} {n i i1 k : Nat} {x : Nat × Nat × Int32} {nd nda bz bz1 pl1 : Int32} {v : Int64} (hx : (TK b n)[i1]? = some x) (tx : tkT b x = .inl 63) (hk : k + 1 ≤ 60) (ea : ¬ nda = 0 ↔ (¬ nd = 0 ∧ ¬ v = 0)) (g1 : Gd b n i i1 k nd bz tpO v bz1 pl1) (B : Bd b n (i1 + 1) (k + 1) nda bz1 tpO) : Bd b n i k nd bz tpO := by
  obtain ⟨a1, a2, a3, a4⟩ := g1
  intro O V h1 h2 h3
  obtain ⟨v', d1, d2⟩ := a4 O V h1 h2 h3
  rw [d2, tsA_at hx, tx, rn_qst h3 (by omega)]
  exact B _ V (cN_1 (Or.inl rfl) h1) (fun z => ch_s1 ea (h2 (a1 z)) (d1 z)) (tpO_c (by decide))
theorem Bd_qNo {b : Nat → Int32} {n i i1 i2 k : Nat} {x : Nat × Nat × Int32} {nd nda bz bz1 bz2 pl1 pl2 : Int32} {v va : Int64} (hx : (TK b n)[i1]? = some x) (tx : tkT b x = .inl 63) (hk : k + 1 ≤ 60) (ea : ¬ nda = 0 ↔ (¬ nd = 0 ∧ ¬ v = 0)) (g1 : Gd b n i i1 k nd bz tpO v bz1 pl1) (g2 : Gd b n (i1 + 1) i2 (k + 1) nda bz1 tpO va bz2 pl2) (hn : f_K_strengthOf (cdA (tsA b n i2)) = 99 ∨ cdA (tsA b n i2) = 41) : Bd b n i k nd bz tpO := by
  obtain ⟨a1, a2, a3, a4⟩ := g1
  obtain ⟨b1, b2, b3, b4⟩ := g2
  intro O V h1 h2 h3
  obtain ⟨v', d1, d2⟩ := a4 O V h1 h2 h3
  obtain ⟨va', e1, e2⟩ := b4 ((63, -1, if v' = 0 then 1 else 0) :: O) V (cN_1 (Or.inl rfl) h1) (fun z => ch_s1 ea (h2 (a1 z)) (d1 z)) (tpO_c (by decide))
  rw [d2, tsA_at hx, tx, rn_qst h3 (by omega), e2, rn_qNo hn]
theorem Bd_qb {b : Nat → Int32} {n i i1 i2 k : Nat} {x y : Nat × Nat × Int32} {nd nda ndb bz bz1 bz2 pl1 pl2 : Int32} {v va : Int64} (hx : (TK b n)[i1]? = some x) (tx : tkT b x = .inl 63) (hy : (TK b n)[i2]? = some y) (ty : tkT b y = .inl 58) (hk : k + 1 ≤ 60) (ea : ¬ nda = 0 ↔ (¬ nd = 0 ∧ ¬ v = 0)) (eb : ¬ ndb = 0 ↔ (¬ nd = 0 ∧ v = 0)) (g1 : Gd b n i i1 k nd bz tpO v bz1 pl1) (g2 : Gd b n (i1 + 1) i2 (k + 1) nda bz1 tpO va bz2 pl2) (B : Bd b n (i2 + 1) (k + 1) ndb bz2 tpO) : Bd b n i k nd bz tpO := by
  obtain ⟨a1, a2, a3, a4⟩ := g1
  obtain ⟨b1, b2, b3, b4⟩ := g2
  intro O V h1 h2 h3
  obtain ⟨v', d1, d2⟩ := a4 O V h1 h2 h3
  obtain ⟨va', e1, e2⟩ := b4 ((63, -1, if v' = 0 then 1 else 0) :: O) V (cN_1 (Or.inl rfl) h1) (fun z => ch_s1 ea (h2 (a1 z)) (d1 z)) (tpO_c (by decide))
  rw [d2, tsA_at hx, tx, rn_qst h3 (by omega), e2, tsA_at hy, ty, rn_col]
  exact B _ _ (cN_1 (Or.inr (Or.inl rfl)) h1) (fun z => ch_s2 eb (h2 (a1 (b1 z))) (d1 (b1 z))) (tpO_c (by decide))
