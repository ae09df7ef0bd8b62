/-! numberOf: what a number stands for -/
theorem ch_dig : ∀ v, v < 257 → f_R_digitOf (nI v - 1) = f_L_digitOf (nI v - 1) := by decide +kernel
theorem ch_u : ∀ v, v < 257 → (((nI v - 1) ||| 32 = 117) ↔ (nI v - 1 = 117 ∨ nI v - 1 = 85)) := by decide +kernel
theorem ch_l : ∀ v, v < 257 → (((nI v - 1) ||| 32 = 108) ↔ (nI v - 1 = 108 ∨ nI v - 1 = 76)) := by decide +kernel
theorem ch_x : ∀ v, v < 257 → (((nI v - 1) ||| 32 = 120) ↔ (nI v - 1 = 120 ∨ nI v - 1 = 88)) := by decide +kernel
theorem r_dig {post : Int32 → Prop} {st : Nat → Int32} {n i : Nat} (h : post (f_L_digitOf (tb st n i))) : wp_R_digitOf post (tb st n i) := by
  refine q_R_digitOf ?_
  obtain ⟨v, h1, h2⟩ := tb_dom (st := st) (n := n) (i := i)
  rw [h2] at h ⊢
  rw [ch_dig v h1]
  exact h
theorem tb_ulx {st : Nat → Int32} {n i : Nat} : ((tb st n i ||| 32 = 117) ↔ (tb st n i = 117 ∨ tb st n i = 85)) ∧ ((tb st n i ||| 32 = 108) ↔ (tb st n i = 108 ∨ tb st n i = 76)) ∧ ((tb st n i ||| 32 = 120) ↔ (tb st n i = 120 ∨ tb st n i = 88)) := by
  obtain ⟨v, h1, h2⟩ := tb_dom (st := st) (n := n) (i := i)
  rw [h2]
  exact ⟨ch_u v h1, ch_l v h1, ch_x v h1⟩
/-- the greatest amount that may take one more digit -/
def mst (base : Int32) : Int64 := f_S_quotient (-1) base.toInt64 1
theorem mst8 : mst 8 = 2305843009213693951 := by decide +kernel
theorem mst10 : mst 10 = 1844674407370955161 := by decide +kernel
theorem mst16 : mst 16 = 1152921504606846975 := by decide +kernel
theorem uN_k1 : uN 2305843009213693951 = 2305843009213693951 := by decide +kernel
theorem uN_k2 : uN 1844674407370955161 = 1844674407370955161 := by decide +kernel
theorem uN_k3 : uN 1152921504606846975 = 1152921504606846975 := by decide +kernel
theorem uN_k0 : uN 0 = 0 := by decide +kernel
/-- the last digit that the greatest amount may take -/
def lst (base : Int32) : Int32 := if base = 10 then 5 else base - 1
theorem sh_0 (a : Int64) {k : Nat} (hk : k < 64) : (lg_cmp ((a.toUInt64 >>> ((nI k).toInt64.toUInt64 &&& Int64.toUInt64 63)).toInt64) 0 = 0) ↔ uN a < 2 ^ k := by
  rw [lg_cmp_eq, uN_0, uN_sk a hk]
  have : 0 < 2 ^ k := Nat.two_pow_pos k
  exact ⟨fun h => (Nat.div_eq_zero_iff.mp h).resolve_left (by omega), fun h => Nat.div_eq_zero_iff.mpr (Or.inr h)⟩
theorem fit_eq {base d : Int32} {a : Int64} (hb : base = 8 ∨ base = 10 ∨ base = 16) (hd : ¬ base ≤ d) : f_L_fits a 0 base d = 0 ↔ (uN (mst base) < uN a ∨ (a = mst base ∧ ¬ d ≤ lst base)) := by
  have la := uN_lt a
  rcases hb with rfl | rfl | rfl
  · rw [mst8, uN_k1]
    have hl : d ≤ lst 8 := by
      have : d < 8 := Int32.not_le.mp hd
      have e : lst 8 = 7 := by decide
      rw [e]
      rw [Int32.lt_iff_toInt_lt] at this
      rw [Int32.le_iff_toInt_le]
      have e8 : (8 : Int32).toInt = 8 := by decide
      have e7 : (7 : Int32).toInt = 7 := by decide
      omega
    unfold f_L_fits
    rw [if_neg (by decide), if_neg (by decide)]
    have s := sh_0 a (k := 61) (by omega)
    have s : (lg_cmp ((a.toUInt64 >>> ((61 : Int32).toInt64.toUInt64 &&& Int64.toUInt64 63)).toInt64) 0 = 0) ↔ uN a < 2 ^ 61 := s
    by_cases c : uN a < 2 ^ 61
    · rw [if_pos (s.mpr c)]
      refine ⟨fun z => absurd z (by decide), fun z => ?_⟩
      rcases z with z | z
      · omega
      · exact absurd hl z.2
    · rw [if_neg (fun z => c (s.mp z))]
      exact ⟨fun _ => Or.inl (by omega), fun _ => rfl⟩
  · rw [mst10, uN_k2]
    unfold f_L_fits
    rw [if_pos rfl]
    have e5 : lst 10 = 5 := by decide
    rw [e5]
    have n0 := uN_neg a
    have i1 := uN_int a
    have ek : (1844674407370955161 : Int64).toInt = 1844674407370955161 := by decide +kernel
    have e0 : (0 : Int64).toInt = 0 := by decide +kernel
    have l1 : a < 1844674407370955161 ↔ a.toInt < 1844674407370955161 := by rw [Int64.lt_iff_toInt_lt, ek]
    have q1 : a = 1844674407370955161 ↔ uN a = 1844674407370955161 := ⟨fun z => by rw [z]; exact uN_k2, fun z => uN_inj (z.trans uN_k2.symm)⟩
    have d5 : (5 < d) ↔ ¬ d ≤ 5 := Int32.not_le.symm
    have m1 := lg_cmp_lt a 0
    have m2 := lg_cmp_lt a 1844674407370955161
    have m3 := lg_cmp_eq a 1844674407370955161
    by_cases c1 : a < 0
    · rw [if_pos (m1.mpr c1)]
      exact ⟨fun _ => Or.inl (by have := n0.mp c1; omega), fun _ => rfl⟩
    · rw [if_neg (fun z => c1 (m1.mp z))]
      have c1' : ¬ 9223372036854775808 ≤ uN a := fun z => c1 (n0.mpr z)
      rw [if_pos (by omega)] at i1
      by_cases c2 : a < 1844674407370955161
      · rw [if_pos (m2.mpr c2)]
        have := l1.mp c2
        refine ⟨fun z => absurd z (by decide), fun z => ?_⟩
        rcases z with z | z
        · omega
        · have := q1.mp z.1
          omega
      · rw [if_neg (fun z => c2 (m2.mp z))]
        have c2' : ¬ a.toInt < 1844674407370955161 := fun z => c2 (l1.mpr z)
        by_cases c3 : a = 1844674407370955161
        · rw [if_pos (m3.mpr c3)]
          have := q1.mp c3
          by_cases c4 : 5 < d
          · rw [if_pos c4]
            exact ⟨fun _ => Or.inr ⟨c3, d5.mp c4⟩, fun _ => rfl⟩
          · rw [if_neg c4]
            refine ⟨fun z => absurd z (by decide), fun z => ?_⟩
            rcases z with z | z
            · omega
            · exact absurd (d5.mpr z.2) c4
        · rw [if_neg (fun z => c3 (m3.mp z))]
          refine ⟨fun _ => Or.inl ?_, fun _ => rfl⟩
          have : ¬ uN a = 1844674407370955161 := fun z => c3 (q1.mpr z)
          omega
  · rw [mst16, uN_k3]
    have hl : d ≤ lst 16 := by
      have : d < 16 := Int32.not_le.mp hd
      have e : lst 16 = 15 := by decide
      rw [e]
      rw [Int32.lt_iff_toInt_lt] at this
      rw [Int32.le_iff_toInt_le]
      have e8 : (16 : Int32).toInt = 16 := by decide
      have e7 : (15 : Int32).toInt = 15 := by decide
      omega
    unfold f_L_fits
    rw [if_neg (by decide), if_pos rfl]
    have s : (lg_cmp ((a.toUInt64 >>> ((60 : Int32).toInt64.toUInt64 &&& Int64.toUInt64 63)).toInt64) 0 = 0) ↔ uN a < 2 ^ 60 := sh_0 a (k := 60) (by omega)
    by_cases c : uN a < 2 ^ 60
    · rw [if_pos (s.mpr c)]
      refine ⟨fun z => absurd z (by decide), fun z => ?_⟩
      rcases z with z | z
      · omega
      · exact absurd hl z.2
    · rw [if_neg (fun z => c (s.mp z))]
      exact ⟨fun _ => Or.inl (by omega), fun _ => rfl⟩
/-- what numberOf does behind the tail -/
theorem r_numFin {post : Int64 → Int32 → Int32 → Prop} {st tA tS : Nat → Int32} {base x9 x10 u g : Int32} {a : Int64} {rs : Int32} {rv : Int64} {ip cn lk bz ir rp hd : Int32} (h0 : (¬ x9 = 0 ∨ ¬ x10 = 0 ∨ g = 0 ∨ (a < 0 ∧ u = 0 ∧ base = 10)) → ∀ z, post a 1 z) (h1 : x9 = 0 → x10 = 0 → ¬ g = 0 → ¬ (a < 0 ∧ u = 0 ∧ base = 10) → post a 0 (if u = 0 then (if a < 0 then 1 else 0) else 1)) : (u = 0 → ((0 ≤ (lg_cmp a 0) → (w_R_numberOf_357 post base a x9 x10 u g 0 rs rv ip cn lk 0 bz ir rp hd st tA tS)) ∧ (¬ 0 ≤ (lg_cmp a 0) → (w_R_numberOf_357 post base a x9 x10 u g 1 rs rv ip cn lk 0 bz ir rp hd st tA tS)))) ∧ (¬ u = 0 → (w_R_numberOf_357 post base a x9 x10 u g 1 rs rv ip cn lk 0 bz ir rp hd st tA tS)) := by
  have e : (0 ≤ lg_cmp a 0) ↔ ¬ a < 0 := (lg_cmp_ge a 0).trans Int64.not_lt.symm
  have core : ∀ z0, vz z0 → (x9 = 0 → x10 = 0 → ¬ g = 0 → ¬ (a < 0 ∧ u = 0 ∧ base = 10) → post a 0 z0) → w_R_numberOf_357 post base a x9 x10 u g z0 rs rv ip cn lk 0 bz ir rp hd st tA tS := by
    intro z0 hz h
    refine ⟨hz, br_t rfl (br_c (fun c1 => br_c (fun c2 => h0 (Or.inr (Or.inr (Or.inl c2))) _) (fun c2 => br_c (fun c3 => br_c (fun c4 => ?_) (fun c4 => br_c (fun c5 => br_c (fun c6 => ?_) (fun c6 => ?_)) (fun c5 => ?_))) (fun c3 => h0 (Or.inl c3) _))) (fun c1 => h0 (Or.inr (Or.inl c1)) _))⟩
    · exact h c3 c1 c2 (fun z => e.mp c4 z.1)
    · exact h0 (Or.inr (Or.inr (Or.inr ⟨Classical.byContradiction (fun z => c4 (e.mpr z)), c5, c6⟩))) _
    · exact h c3 c1 c2 (fun z => c6 z.2.2)
    · exact h c3 c1 c2 (fun z => c5 z.2.1)
  refine br_c (fun c1 => br_c (fun c2 => ?_) (fun c2 => ?_)) (fun c1 => ?_)
  · refine core 0 (Or.inl rfl) ?_
    rw [if_pos c1, if_neg (e.mp c2)] at h1
    exact h1
  · refine core 1 (Or.inr rfl) ?_
    rw [if_pos c1, if_pos (Classical.byContradiction (fun z => c2 (e.mpr z)))] at h1
    exact h1
  · refine core 1 (Or.inr rfl) ?_
    rw [if_neg c1] at h1
    exact h1
theorem r_tail {post : Int64 → Int32 → Int32 → Prop} {st tA tS : Nat → Int32} {n j : Nat} {x : Nat × Nat × Int32} {base x9 x10 : Int32} {a : Int64} {rs : Int32} {rv : Int64} {ip cn lk bz ir rp hd : Int32} (hn : n ≤ 4096) (hR : tkR (TK (tb st n) n) tA tS) (hx : (TK (tb st n) n)[j]? = some x) : ∀ (d k : Nat) (u l isL : Int32), x.2.1 - x.1 - k ≤ d → k ≤ x.2.1 - x.1 → vz u → (l = 0 ↔ isL = 0) → (∀ pl, rdT (tb st n) x.2.1 (x.1 + k) isL u = some pl → x9 = 0 → x10 = 0 → ¬ (a < 0 ∧ pl = 0 ∧ base = 10) → post a 0 (if pl = 0 then (if a < 0 then 1 else 0) else 1)) → ((¬ x9 = 0 ∨ ¬ x10 = 0 ∨ rdT (tb st n) x.2.1 (x.1 + k) isL u = none ∨ ∃ pl, rdT (tb st n) x.2.1 (x.1 + k) isL u = some pl ∧ a < 0 ∧ pl = 0 ∧ base = 10) → ∀ z, post a 1 z) → w_R_numberOf_235 post (nI j) (nI (x.2.1 - x.1)) base a x9 x10 rs rv ip cn lk 0 bz ir rp hd st tA tS (d + 2) (nI k) u l 1 := by
  obtain ⟨g1, g2, g3, g4, g5⟩ := tk_in hx
  have fin : ∀ (k : Nat) (u isL : Int32), rdT (tb st n) x.2.1 (x.1 + k) isL u = some u → (∀ pl, rdT (tb st n) x.2.1 (x.1 + k) isL u = some pl → x9 = 0 → x10 = 0 → ¬ (a < 0 ∧ pl = 0 ∧ base = 10) → post a 0 (if pl = 0 then (if a < 0 then 1 else 0) else 1)) → ((¬ x9 = 0 ∨ ¬ x10 = 0 ∨ rdT (tb st n) x.2.1 (x.1 + k) isL u = none ∨ ∃ pl, rdT (tb st n) x.2.1 (x.1 + k) isL u = some pl ∧ a < 0 ∧ pl = 0 ∧ base = 10) → ∀ z, post a 1 z) → ((u = 0 → ((0 ≤ (lg_cmp a 0) → (w_R_numberOf_357 post base a x9 x10 u 1 0 rs rv ip cn lk 0 bz ir rp hd st tA tS)) ∧ (¬ 0 ≤ (lg_cmp a 0) → (w_R_numberOf_357 post base a x9 x10 u 1 1 rs rv ip cn lk 0 bz ir rp hd st tA tS)))) ∧ (¬ u = 0 → (w_R_numberOf_357 post base a x9 x10 u 1 1 rs rv ip cn lk 0 bz ir rp hd st tA tS))) := by
    intro k u isL e h1 h0
    refine r_numFin (fun z => h0 ?_) (fun z1 z2 _ z4 => h1 u e z1 z2 z4)
    rcases z with z | z | z | z
    · exact Or.inl z
    · exact Or.inr (Or.inl z)
    · exact absurd z (by decide)
    · exact Or.inr (Or.inr (Or.inr ⟨u, e, z⟩))
  intro d
  induction d with
  | zero =>
    intro k u l isL hdd hk hu hl h1 h0
    exact br_t (nI_le (by omega) (by omega)) (fin k u isL (by rw [rdT, dif_neg (by omega)]) h1 h0)
  | succ d ih =>
    intro k u l isL hdd hk hu hl h1 h0
    refine pk_le (x.2.1 - x.1) k (fun c => fin k u isL (by rw [rdT, dif_neg (by omega)]) h1 h0) (fun c => br_f (by decide) ?_) rfl rfl (by omega) (by omega)
    have e0 := rdT.eq_def (tb st n) x.2.1 (x.1 + k) isL u
    rw [dif_pos (show x.1 + k < x.2.1 by omega)] at e0
    obtain ⟨cu, cl, _⟩ := tb_ulx (st := st) (n := n) (i := x.1 + k)
    have step : ∀ (q : Nat) (u' l' isL' : Int32), x.2.1 - x.1 - q ≤ d → q ≤ x.2.1 - x.1 → vz u' → (l' = 0 ↔ isL' = 0) → rdT (tb st n) x.2.1 (x.1 + k) isL u = rdT (tb st n) x.2.1 (x.1 + q) isL' u' → w_R_numberOf_235 post (nI j) (nI (x.2.1 - x.1)) base a x9 x10 rs rv ip cn lk 0 bz ir rp hd st tA tS (d + 2) (nI q) u' l' 1 := by
      intro q u' l' isL' a1 a2 a3 a4 a5
      rw [a5] at h1 h0
      exact ih q u' l' isL' a1 a2 a3 a4 h1 h0
    have bad : rdT (tb st n) x.2.1 (x.1 + k) isL u = none → w_R_numberOf_235 post (nI j) (nI (x.2.1 - x.1)) base a x9 x10 rs rv ip cn lk 0 bz ir rp hd st tA tS (d + 2) (nI k) u l 0 := by
      intro e
      have all := h0 (Or.inr (Or.inr (Or.inl e)))
      have f0 := r_numFin (post := post) (base := base) (x9 := x9) (x10 := x10) (u := u) (g := 0) (a := a) (rs := rs) (rv := rv) (ip := ip) (cn := cn) (lk := lk) (bz := bz) (ir := ir) (rp := rp) (hd := hd) (st := st) (tA := tA) (tS := tS) (fun _ => all) (fun _ _ z => absurd rfl z)
      exact br_c (fun _ => f0) (fun _ => br_t rfl f0)
    have ll : ¬ ((tb st n (x.1 + k) = 117 ∨ tb st n (x.1 + k) = 85) ∧ u = 0) → ((tb st n (x.1 + k) ||| 32) = 108 → ((l = 0 → (((nI (x.2.1 - x.1)) ≤ (nI k + 1) → (∀ x5_38 : Int32, x5_38 = (nI k + 1) → (w_R_numberOf_235 post (nI j) (nI (x.2.1 - x.1)) base a x9 x10 rs rv ip cn lk 0 bz ir rp hd st tA tS (d + 2) x5_38 u 1 1))) ∧ (¬ (nI (x.2.1 - x.1)) ≤ (nI k + 1) → (wp_R_byteOf (fun (r_39 : Int32) => (r_39 = tb st n (x.1 + k) → (∀ x5_42 : Int32, x5_42 = (nI k + 2) → (w_R_numberOf_235 post (nI j) (nI (x.2.1 - x.1)) base a x9 x10 rs rv ip cn lk 0 bz ir rp hd st tA tS (d + 2) x5_42 u 2 1))) ∧ (¬ r_39 = tb st n (x.1 + k) → (∀ x5_41 : Int32, x5_41 = (nI k + 1) → (w_R_numberOf_235 post (nI j) (nI (x.2.1 - x.1)) base a x9 x10 rs rv ip cn lk 0 bz ir rp hd st tA tS (d + 2) x5_41 u 1 1)))) rs rv ip cn lk 0 bz ir rp hd st tA (nI j) (nI k + 1))))) ∧ (¬ l = 0 → (w_R_numberOf_235 post (nI j) (nI (x.2.1 - x.1)) base a x9 x10 rs rv ip cn lk 0 bz ir rp hd st tA tS (d + 2) (nI k) u l 0)))) ∧ (¬ (tb st n (x.1 + k) ||| 32) = 108 → (w_R_numberOf_235 post (nI j) (nI (x.2.1 - x.1)) base a x9 x10 rs rv ip cn lk 0 bz ir rp hd st tA tS (d + 2) (nI k) u l 0)) := by
      intro hu0
      rw [if_neg hu0] at e0
      refine br_c (fun c1 => br_c (fun c2 => ?_) (fun c2 => bad ?_)) (fun c1 => bad ?_)
      · rw [if_pos ⟨cl.mp c1, hl.mp c2⟩] at e0
        refine pk_le (x.2.1 - x.1) (k + 1) (fun c3 => ?_) (fun c3 => r_byteOf (k + 1) hn hR hx (by omega) (nI_1 k) (br_c (fun c4 => ?_) (fun c4 => ?_))) rfl (nI_1 k) (by omega) (by omega)
        · rw [if_neg (fun z => absurd z.1 (by omega))] at e0
          exact nm_r (nI_1 k) (step (k + 1) u 1 1 (by omega) (by omega) hu ⟨fun z => absurd z (by decide), fun z => absurd z (by decide)⟩ e0)
        · rw [if_pos ⟨by omega, c4⟩] at e0
          exact nm_r (nI_add k 2) (step (k + 2) u 2 1 (by omega) (by omega) hu ⟨fun z => absurd z (by decide), fun z => absurd z (by decide)⟩ e0)
        · rw [if_neg (fun z => c4 z.2)] at e0
          exact nm_r (nI_1 k) (step (k + 1) u 1 1 (by omega) (by omega) hu ⟨fun z => absurd z (by decide), fun z => absurd z (by decide)⟩ e0)
      · rw [if_neg (fun z => c2 (hl.mpr z.2))] at e0
        exact e0
      · rw [if_neg (fun z => c1 (cl.mpr z.1))] at e0
        exact e0
    refine r_byteOf k hn hR hx (by omega) rfl (br_c (fun c1 => br_c (fun c2 => ?_) (fun c2 => ?_)) (fun c1 => ?_))
    · rw [if_pos ⟨cu.mp c1, c2⟩] at e0
      exact nm_r (nI_1 k) (step (k + 1) 1 l isL (by omega) (by omega) (Or.inr rfl) hl e0)
    · exact ll (fun z => c2 z.2)
    · exact ll (fun z => c1 (cu.mpr z.1))
