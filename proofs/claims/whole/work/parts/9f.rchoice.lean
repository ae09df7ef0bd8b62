/-! a whole choice on the course -/
theorem cS_add {a s z : Int32} {O : Ops} : cS ((a, s, z) :: O) = 0 ↔ (z = 0 ∧ cS O = 0) := by
  by_cases c : z = 0
  · rw [cS_out c]
    exact ⟨fun h => ⟨c, h⟩, fun h => h.2⟩
  · rw [cS_in c]
    exact ⟨fun h => absurd h (by omega), fun h => absurd h.1 c⟩
theorem Gd_ch {b : Nat → Int32} {n i i1 i2 i3 k : Nat} {x y : Nat × Nat × Int32} {nd nda ndb bz bz1 bz2 bz3 pl1 pl2 pl3 : Int32} {v va vb : Int64} (hx : (TK b n)[i1]? = some x) (tx : tkT b x = .inl 63) (hy : (TK b n)[i2]? = some y) (ty : tkT b y = .inl 58) (hk : k + 1 ≤ 60) (ea : ¬ nda = 0 ↔ (¬ nd = 0 ∧ ¬ v = 0)) (eb : ¬ ndb = 0 ↔ (¬ nd = 0 ∧ v = 0)) (hn : nxC (cdA (tsA b n i3))) (g1 : Gd b n i i1 k nd bz tpO v bz1 pl1) (g2 : Gd b n (i1 + 1) i2 (k + 1) nda bz1 tpO va bz2 pl2) (g3 : Gd b n (i2 + 1) i3 (k + 1) ndb bz2 tpO vb bz3 pl3) : Gd b n i i3 k nd bz tpO (if v = 0 then vb else va) bz3 (if pl2 = 0 then (if pl3 = 0 then 0 else 1) else 1) := by
  obtain ⟨a1, a2, a3, a4⟩ := g1
  obtain ⟨b1, b2, b3, b4⟩ := g2
  obtain ⟨c1, c2, c3, c4⟩ := g3
  refine ⟨fun z => a1 (b1 (c1 z)), c2, ?_, fun O V h1 h2 h3 => ?_⟩
  · split
    · split
      · exact Or.inl rfl
      · exact Or.inr rfl
    · exact Or.inr rfl
  obtain ⟨v', d1, d2⟩ := a4 O V h1 h2 h3
  have s1 : bz1 = 0 → (¬ nda = 0 ↔ cS ((63, -1, if v' = 0 then 1 else 0) :: O) = 0) := by
    intro z
    have h2 := h2 (a1 z)
    have d1 := d1 z
    rw [cS_add, ea, ← h2]
    constructor
    · intro w
      rw [d1 w.1, if_neg w.2]
      exact ⟨rfl, w.1⟩
    · intro w
      refine ⟨w.2, fun u => ?_⟩
      rw [d1 w.2, if_pos u] at w
      exact absurd w.1 (by decide)
  obtain ⟨va', e1, e2⟩ := b4 ((63, -1, if v' = 0 then 1 else 0) :: O) V (cN_1 (Or.inl rfl) h1) s1 (tpO_c (by decide))
  have s2 : bz2 = 0 → (¬ ndb = 0 ↔ cS ((58, 0, if (if v' = 0 then (1 : Int32) else 0) = 0 then 1 else 0) :: O) = 0) := by
    intro z
    have h2 := h2 (a1 (b1 z))
    have d1 := d1 (b1 z)
    rw [cS_add, eb, ← h2]
    constructor
    · intro w
      rw [d1 w.1, if_pos w.2, if_neg (by decide)]
      exact ⟨rfl, w.1⟩
    · intro w
      refine ⟨w.2, Classical.byContradiction (fun u => ?_)⟩
      rw [d1 w.2, if_neg u, if_pos rfl] at w
      exact absurd w.1 (by decide)
  obtain ⟨vb', f1, f2⟩ := c4 ((58, 0, if (if v' = 0 then (1 : Int32) else 0) = 0 then 1 else 0) :: O) ((va', pl2) :: V) (cN_1 (Or.inr (Or.inl rfl)) h1) s2 (tpO_c (by decide))
  refine ⟨if (if (if v' = 0 then (1 : Int32) else 0) = 0 then (1 : Int32) else 0) = 0 then vb' else va', fun z w => ?_, ?_⟩
  · have dv := d1 (b1 (c1 z)) w
    rw [dv]
    by_cases u : v = 0
    · rw [if_pos u, if_pos u]
      show vb' = vb
      exact f1 z (eb.mpr ⟨w, u⟩)
    · rw [if_neg u, if_neg u]
      show va' = va
      exact e1 (c1 z) (ea.mpr ⟨w, u⟩)
  · rw [d2, tsA_at hx, tx, rn_qst h3 (by omega), e2, tsA_at hy, ty, rn_col, f2, rn_popC hn]
