/-! numberOf: the digits -/
theorem r_212 {post : Int64 → Int32 → Int32 → Prop} {st tA tS : Nat → Int32} {n j : Nat} {x : Nat × Nat × Int32} {base x9 : Int32} {a : Int64} {m f : Nat} {rs : Int32} {rv : Int64} {ip cn lk bz ir rp hd : Int32} (hn : n ≤ 4096) (hR : tkR (TK (tb st n) n) tA tS) (hx : (TK (tb st n) n)[j]? = some x) (hm : m ≤ x.2.1 - x.1) (hf : f ≤ 4) (h1 : ∀ pl, x9 = 0 → ¬ m = f → rdT (tb st n) x.2.1 (x.1 + m) 0 0 = some pl → ¬ (a < 0 ∧ pl = 0 ∧ base = 10) → post a 0 (if pl = 0 then (if a < 0 then 1 else 0) else 1)) (h0 : (¬ x9 = 0 ∨ m = f ∨ rdT (tb st n) x.2.1 (x.1 + m) 0 0 = none ∨ ∃ pl, rdT (tb st n) x.2.1 (x.1 + m) 0 0 = some pl ∧ a < 0 ∧ pl = 0 ∧ base = 10) → ∀ z, post a 1 z) : w_R_numberOf_212 post (nI j) (nI (x.2.1 - x.1)) base (nI m) (nI f) a x9 rs rv ip cn lk 0 bz ir rp hd st tA tS := by
  obtain ⟨g1, g2, g3, g4, g5⟩ := tk_in hx
  refine pk_eq m f (fun c => ?_) (fun c => ?_) rfl rfl (by omega) (by omega)
  · refine ⟨_, r_tail hn hR hx (x.2.1 - x.1 - m) m 0 0 0 (Nat.le_refl _) hm (Or.inl rfl) Iff.rfl (fun pl _ _ z => absurd z (by decide)) (fun _ => h0 (Or.inr (Or.inl c)))⟩
  · refine ⟨_, r_tail hn hR hx (x.2.1 - x.1 - m) m 0 0 0 (Nat.le_refl _) hm (Or.inl rfl) Iff.rfl (fun pl z1 z2 _ z4 => h1 pl z2 c z1 z4) (fun z => h0 ?_)⟩
    rcases z with z | z | z | z
    · exact Or.inl z
    · exact absurd rfl z
    · exact Or.inr (Or.inr (Or.inl z))
    · exact Or.inr (Or.inr (Or.inr z))
theorem b_ne0 {base : Int32} (hb : base = 8 ∨ base = 10 ∨ base = 16) : ¬ base.toInt64 = 0 := by
  rcases hb with rfl | rfl | rfl <;> decide
theorem r_digMuch {post : Int64 → Int32 → Int32 → Prop} {st tA tS : Nat → Int32} {n j : Nat} {x : Nat × Nat × Int32} {base f : Int32} {rs : Int32} {rv : Int64} {ip cn lk bz ir rp hd : Int32} (hn : n ≤ 4096) (hR : tkR (TK (tb st n) n) tA tS) (hx : (TK (tb st n) n)[j]? = some x) (hb : base = 8 ∨ base = 10 ∨ base = 16) (h : ∀ m a, m ≤ x.2.1 - x.1 → w_R_numberOf_212 post (nI j) (nI (x.2.1 - x.1)) base (nI m) f a 1 rs rv ip cn lk 0 bz ir rp hd st tA tS) : ∀ (d k : Nat) (a : Int64), x.2.1 - x.1 - k ≤ d → k ≤ x.2.1 - x.1 → w_R_numberOf_93 post (nI j) (nI (x.2.1 - x.1)) base f rs rv ip cn lk 0 bz ir rp hd st tA tS (d + 1) (nI k) a 1 := by
  obtain ⟨g1, g2, g3, g4, g5⟩ := tk_in hx
  intro d
  induction d with
  | zero =>
    intro k a hdd hk
    exact br_t (nI_le (by omega) (by omega)) (h k a hk)
  | succ d ih =>
    intro k a hdd hk
    refine pk_le (x.2.1 - x.1) k (fun c => h k a hk) (fun c => r_byteOf k hn hR hx (by omega) rfl (r_dig (br_c (fun c1 => h k a hk) (fun c1 => r_quot (b_ne0 hb) (r_byteOf k hn hR hx (by omega) rfl (r_dig (br_f (by decide) ?_))))))) rfl rfl (by omega) (by omega)
    exact nm_e (nm_r (nI_1 k) (ih (k + 1) _ (by omega) (by omega)))
theorem r_digits {post : Int64 → Int32 → Int32 → Prop} {st tA tS : Nat → Int32} {n j : Nat} {x : Nat × Nat × Int32} {base f : Int32} {rs : Int32} {rv : Int64} {ip cn lk bz ir rp hd : Int32} (hn : n ≤ 4096) (hR : tkR (TK (tb st n) n) tA tS) (hx : (TK (tb st n) n)[j]? = some x) (hb : base = 8 ∨ base = 10 ∨ base = 16) : ∀ (d k : Nat) (a : Int64), x.2.1 - x.1 - k ≤ d → k ≤ x.2.1 - x.1 → (∀ m a', m ≤ x.2.1 - x.1 → rdN (tb st n) base x.2.1 (x.1 + k) a = some (x.1 + m, a') → w_R_numberOf_212 post (nI j) (nI (x.2.1 - x.1)) base (nI m) f a' 0 rs rv ip cn lk 0 bz ir rp hd st tA tS) → (rdN (tb st n) base x.2.1 (x.1 + k) a = none → ∀ m a', m ≤ x.2.1 - x.1 → w_R_numberOf_212 post (nI j) (nI (x.2.1 - x.1)) base (nI m) f a' 1 rs rv ip cn lk 0 bz ir rp hd st tA tS) → w_R_numberOf_93 post (nI j) (nI (x.2.1 - x.1)) base f rs rv ip cn lk 0 bz ir rp hd st tA tS (d + 1) (nI k) a 0 := by
  obtain ⟨g1, g2, g3, g4, g5⟩ := tk_in hx
  intro d
  induction d with
  | zero =>
    intro k a hdd hk h1 h0
    exact br_t (nI_le (by omega) (by omega)) (h1 k a hk (by rw [rdN, dif_neg (by omega)]))
  | succ d ih =>
    intro k a hdd hk h1 h0
    have e0 := rdN.eq_def (tb st n) base x.2.1 (x.1 + k) a
    refine pk_le (x.2.1 - x.1) k (fun c => h1 k a hk (by rw [rdN, dif_neg (by omega)])) (fun c => r_byteOf k hn hR hx (by omega) rfl (r_dig (br_c (fun c1 => ?_) (fun c1 => r_quot (b_ne0 hb) (r_byteOf k hn hR hx (by omega) rfl (r_dig (br_t rfl ?_))))))) rfl rfl (by omega) (by omega)
    · rw [dif_pos (by omega), if_pos c1] at e0
      exact h1 k a hk e0
    · rw [dif_pos (by omega), if_neg c1] at e0
      have fe := fit_eq (a := a) hb c1
      unfold mst at fe
      have go0 : ¬ f_L_fits a 0 base (f_L_digitOf (tb st n (x.1 + k))) = 0 → ∀ x7 : Int64, x7 = a * base.toInt64 + (f_L_digitOf (tb st n (x.1 + k))).toInt64 → ∀ x5 : Int32, x5 = nI k + 1 → w_R_numberOf_93 post (nI j) (nI (x.2.1 - x.1)) base f rs rv ip cn lk 0 bz ir rp hd st tA tS (d + 1) x5 x7 0 := by
        intro z
        rw [if_neg z] at e0
        refine nm_e (nm_r (nI_1 k) (ih (k + 1) _ (by omega) (by omega) (fun m a' y1 y2 => h1 m a' y1 (e0.trans y2)) (fun y => h0 (e0.trans y))))
      have go1 : f_L_fits a 0 base (f_L_digitOf (tb st n (x.1 + k))) = 0 → ∀ x7 : Int64, x7 = a * base.toInt64 + (f_L_digitOf (tb st n (x.1 + k))).toInt64 → ∀ x5 : Int32, x5 = nI k + 1 → w_R_numberOf_93 post (nI j) (nI (x.2.1 - x.1)) base f rs rv ip cn lk 0 bz ir rp hd st tA tS (d + 1) x5 x7 1 := by
        intro z
        rw [if_pos z] at e0
        exact nm_e (nm_r (nI_1 k) (r_digMuch hn hR hx hb (fun m a' y => h0 e0 m a' y) d (k + 1) _ (by omega) (by omega)))
      have gt := (lg_cmp_gt (a + (-9223372036854775808)) (f_S_quotient (-1) base.toInt64 1 + (-9223372036854775808))).trans (uN_minLt _ _)
      have eq := lg_cmp_eq a (f_S_quotient (-1) base.toInt64 1)
      refine br_c (fun c2 => go1 (fe.mpr (Or.inl (gt.mp c2)))) (fun c2 => br_c (fun c3 => br_c (fun c4 => br_c (fun c5 => go0 (fun z => ?_)) (fun c5 => go1 (fe.mpr (Or.inr ⟨eq.mp c3, ?_⟩)))) (fun c4 => br_c (fun c5 => go0 (fun z => ?_)) (fun c5 => go1 (fe.mpr (Or.inr ⟨eq.mp c3, ?_⟩))))) (fun c3 => go0 (fun z => ?_)))
      · rcases fe.mp z with y | y
        · exact c2 (gt.mpr y)
        · refine y.2 ?_
          unfold lst
          rw [if_pos c4]
          exact c5
      · unfold lst
        rw [if_pos c4]
        exact c5
      · rcases fe.mp z with y | y
        · exact c2 (gt.mpr y)
        · refine y.2 ?_
          unfold lst
          rw [if_neg c4]
          exact c5
      · unfold lst
        rw [if_neg c4]
        exact c5
      · rcases fe.mp z with y | y
        · exact c2 (gt.mpr y)
        · exact c3 (eq.mpr y.1)
theorem r_numAt {post : Int64 → Int32 → Int32 → Prop} {st tA tS : Nat → Int32} {n j : Nat} {x : Nat × Nat × Int32} {base : Int32} {f : Nat} {rs : Int32} {rv : Int64} {ip cn lk bz ir rp hd : Int32} (hn : n ≤ 4096) (hR : tkR (TK (tb st n) n) tA tS) (hx : (TK (tb st n) n)[j]? = some x) (hb : base = 8 ∨ base = 10 ∨ base = 16) (hf : f ≤ 4) (hf2 : f ≤ x.2.1 - x.1) (h1 : ∀ q a pl, rdN (tb st n) base x.2.1 (x.1 + f) 0 = some (q, a) → ¬ q = x.1 + f → rdT (tb st n) x.2.1 q 0 0 = some pl → ¬ (a < 0 ∧ pl = 0 ∧ base = 10) → post a 0 (if pl = 0 then (if a < 0 then 1 else 0) else 1)) (h0 : (rdN (tb st n) base x.2.1 (x.1 + f) 0 = none ∨ ∃ q a, rdN (tb st n) base x.2.1 (x.1 + f) 0 = some (q, a) ∧ (q = x.1 + f ∨ rdT (tb st n) x.2.1 q 0 0 = none ∨ ∃ pl, rdT (tb st n) x.2.1 q 0 0 = some pl ∧ a < 0 ∧ pl = 0 ∧ base = 10)) → ∀ a z, post a 1 z) : ∃ fu, w_R_numberOf_93 post (nI j) (nI (x.2.1 - x.1)) base (nI f) rs rv ip cn lk 0 bz ir rp hd st tA tS fu (nI f) 0 0 := by
  refine ⟨_, r_digits hn hR hx hb (x.2.1 - x.1 - f) f 0 (Nat.le_refl _) hf2 (fun m a y1 y2 => ?_) (fun y m a y1 => ?_)⟩
  · refine r_212 hn hR hx y1 hf (fun pl _ z2 z3 z4 => h1 _ a pl y2 (by omega) z3 z4) (fun z => h0 (Or.inr ⟨_, a, y2, ?_⟩) a)
    rcases z with z | z | z | z
    · exact absurd rfl z
    · exact Or.inl (by rw [z])
    · exact Or.inr (Or.inl z)
    · exact Or.inr (Or.inr z)
  · exact r_212 hn hR hx y1 hf (fun pl z => absurd z (by decide)) (fun _ => h0 (Or.inl y) a)
theorem r_numGo {post : Int64 → Int32 → Int32 → Prop} {st tA tS : Nat → Int32} {n j : Nat} {x : Nat × Nat × Int32} {base : Int32} {f : Nat} {rs : Int32} {rv : Int64} {ip cn lk bz ir rp hd : Int32} (hn : n ≤ 4096) (hR : tkR (TK (tb st n) n) tA tS) (hx : (TK (tb st n) n)[j]? = some x) (hb : base = 8 ∨ base = 10 ∨ base = 16) (hf : f ≤ 4) (hf2 : f ≤ x.2.1 - x.1) (hbs : bsA (tb st n) x.1 = base) (hfs : (if base = 16 then x.1 + 2 else x.1) = x.1 + f) (h1 : ∀ v, nuV (tb st n) x.1 x.2.1 = some v → post v.1 0 v.2) (h0 : nuV (tb st n) x.1 x.2.1 = none → ∀ a z, post a 1 z) : ∃ fu, w_R_numberOf_93 post (nI j) (nI (x.2.1 - x.1)) base (nI f) rs rv ip cn lk 0 bz ir rp hd st tA tS fu (nI f) 0 0 := by
  unfold nuV at h1 h0
  rw [hbs, hfs] at h1 h0
  refine r_numAt hn hR hx hb hf hf2 (fun q a pl y1 y2 y3 y4 => ?_) (fun y => ?_)
  · rw [y1] at h1
    dsimp only at h1
    rw [if_neg y2, y3] at h1
    dsimp only at h1
    have hz := rdT_z _ _ _ _ _ (Nat.le_refl _) (Or.inl rfl) y3
    by_cases c : a < 0
    · rw [if_pos c] at h1 ⊢
      by_cases c2 : pl = 0
      · rw [if_pos c2, if_neg (fun z => y4 ⟨c, c2, z⟩)] at h1
        rw [if_pos c2]
        exact h1 _ rfl
      · rw [if_neg c2] at h1 ⊢
        have := h1 _ rfl
        rcases hz with e | e
        · exact absurd e c2
        · rw [e] at this
          exact this
    · rw [if_neg c] at h1 ⊢
      have := h1 _ rfl
      rcases hz with e | e
      · rw [e] at this
        rw [if_pos e]
        exact this
      · rw [e] at this
        rw [if_neg (by rw [e]; decide)]
        exact this
  · refine h0 ?_
    rcases y with y | ⟨q, a, y1, y2⟩
    · rw [y]
    · rw [y1]
      dsimp only
      by_cases c : q = x.1 + f
      · rw [if_pos c]
      · rw [if_neg c]
        rcases y2 with y | y | ⟨pl, y, z1, z2, z3⟩
        · exact absurd y c
        · rw [y]
        · rw [y]
          dsimp only
          rw [if_pos z1, if_pos z2, if_pos z3]
theorem num2 {st : Nat → Int32} {n s : Nat} (h48 : tb st n s = 48) (hx : tb st n (s + 1) = 120 ∨ tb st n (s + 1) = 88) : s + 2 ≤ (tokE (tb st n) n s).1 := by
  have hq : quP (tb st n) s = s := by unfold quP; rw [if_neg (by rw [h48]; decide)]
  have hs : s + 1 < n := by
    refine Nat.lt_of_not_le (fun z => ?_)
    rw [tb_out z] at hx
    rcases hx with y | y <;> exact absurd y (by decide)
  have hN : ¬ nuB (tb st n) s = 0 := by
    unfold nuB
    rw [h48, if_neg (by decide)]
    decide
  have hG : ¬ f_W_goesOnNumber (tb st n s) (tb st n (s + 1)) = 0 := by
    rw [h48]
    rcases hx with y | y <;> rw [y] <;> decide
  unfold tokE quo
  rw [hq, if_neg (by rw [h48]; decide), if_neg (by rw [h48]; decide)]
  dsimp only
  rw [if_pos (by rw [h48]; decide), if_neg hN]
  dsimp only
  rw [nuE, dif_pos hs]
  have es : s + 1 - 1 = s := by omega
  rw [es, if_neg hG]
  exact (nuE_in _ (s + 1 + 1) (Nat.le_refl _)).1
theorem r_num {post : Int64 → Int32 → Int32 → Prop} {st tA tS : Nat → Int32} {n j : Nat} {x : Nat × Nat × Int32} {rs : Int32} {rv : Int64} {ip cn lk bz ir rp hd : Int32} (hn : n ≤ 4096) (hR : tkR (TK (tb st n) n) tA tS) (hx : (TK (tb st n) n)[j]? = some x) (h1 : ∀ v, nuV (tb st n) x.1 x.2.1 = some v → post v.1 0 v.2) (h0 : nuV (tb st n) x.1 x.2.1 = none → ∀ a z, post a 1 z) : wp_R_numberOf post rs rv ip cn lk 0 bz ir rp hd st tA tS (nI j) := by
  obtain ⟨g1, g2, g3, g4, g5⟩ := tk_in hx
  obtain ⟨e3, e4⟩ := hR j x hx
  obtain ⟨_, _, cx⟩ := tb_ulx (st := st) (n := n) (i := x.1 + 1)
  have b0 : ∀ {q : Int32 → Prop}, q (tb st n x.1) → wp_R_byteOf q rs rv ip cn lk 0 bz ir rp hd st tA (nI j) 0 := fun z => r_byteOf 0 hn hR hx (by omega) rfl z
  have w10 : ¬ tb st n x.1 = 48 → w_R_numberOf_70 post (nI j) (nI (x.2.1 - x.1)) 0 10 rs rv ip cn lk 0 bz ir rp hd st tA tS := by
    intro c
    exact br_t rfl (r_numGo (f := 0) hn hR hx (Or.inr (Or.inl rfl)) (by omega) (by omega) (by unfold bsA; rw [if_neg c]) (by rw [if_neg (by decide)]; rfl) h1 h0)
  have w8 : tb st n x.1 = 48 → ¬ (tb st n (x.1 + 1) = 120 ∨ tb st n (x.1 + 1) = 88) → w_R_numberOf_70 post (nI j) (nI (x.2.1 - x.1)) 0 8 rs rv ip cn lk 0 bz ir rp hd st tA tS := by
    intro c c2
    exact br_t rfl (r_numGo (f := 0) hn hR hx (Or.inl rfl) (by omega) (by omega) (by unfold bsA; rw [if_pos c, if_neg (fun z => c2 (Or.inl z)), if_neg (fun z => c2 (Or.inr z))]) (by rw [if_neg (by decide)]; rfl) h1 h0)
  have x16 : tb st n x.1 = 48 → (tb st n (x.1 + 1) = 120 ∨ tb st n (x.1 + 1) = 88) → bsA (tb st n) x.1 = 16 := by
    intro c c2
    unfold bsA
    rw [if_pos c]
    rcases c2 with z | z
    · rw [if_pos z]
    · by_cases y : tb st n (x.1 + 1) = 120
      · rw [if_pos y]
      · rw [if_neg y, if_pos z]
  unfold wp_R_numberOf
  rw [pk_cl j rfl (by omega), e4]
  refine ⟨pk_in j 4096 (by omega) rfl, nm_e (pk_le (x.2.1 - x.1) 2 (fun c2 => ?_) (fun c2 => b0 (br_c (fun c => r_byteOf 1 hn hR hx (by omega) rfl (br_c (fun c3 => ?_) (fun c3 => ?_))) (fun c => ?_))) rfl rfl (by omega) (by omega))⟩
  · refine br_t rfl (b0 (br_c (fun c => ?_) (fun c => w10 c)))
    by_cases c3 : tb st n (x.1 + 1) = 120 ∨ tb st n (x.1 + 1) = 88
    · have l2 := num2 c c3
      rw [← g2] at l2
      have all : ∀ a z, post a 1 z := by
        refine h0 ?_
        unfold nuV
        rw [x16 c c3, if_pos rfl, rdN, dif_neg (by omega)]
        dsimp only
        rw [if_pos rfl]
      refine br_t rfl (r_numAt (f := 0) hn hR hx (Or.inl rfl) (by omega) (by omega) (fun q a pl y1 y2 y3 _ => ?_) (fun _ => all))
      rw [Nat.add_zero, rdN, dif_pos (by omega), c, if_neg (by decide), if_neg (by decide), rdN, dif_pos (by omega), if_pos (by rcases c3 with z | z <;> rw [z] <;> decide)] at y1
      have eq : x.1 + 1 = q := congrArg Prod.fst (Option.some.inj y1)
      rw [← eq, rdT, dif_pos (by omega), if_neg (by rcases c3 with z | z <;> rw [z] <;> decide), if_neg (by rcases c3 with z | z <;> rw [z] <;> decide)] at y3
      cases y3
    · exact w8 c c3
  · exact br_f (by decide) (br_f (by decide) (r_numGo (f := 2) hn hR hx (Or.inr (Or.inr rfl)) (by omega) (by omega) (x16 c (cx.mp c3)) (by rw [if_pos rfl]) h1 h0))
  · exact br_t rfl (b0 (br_t c (w8 c (fun z => c3 (cx.mpr z)))))
  · exact br_t rfl (b0 (br_f c (w10 c)))
