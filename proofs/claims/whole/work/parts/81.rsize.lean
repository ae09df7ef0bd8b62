/-! the size of a token -/
theorem tb_dom {st : Nat → Int32} {n i : Nat} : ∃ v, v < 257 ∧ tb st n i = nI v - 1 := by
  by_cases h : i < n
  · obtain ⟨w, h1, h2⟩ := tb_in (row := st) h
    exact ⟨w + 1, by omega, by rw [h2, nI_pred]⟩
  · exact ⟨0, by omega, by rw [tb_out (by omega)]; rfl⟩
theorem ch_letter : ∀ v, v < 257 → f_R_isLetter (nI v - 1) = f_W_isLetter (nI v - 1) := by decide +kernel
theorem ch_digit : ∀ v, v < 257 → f_R_isDigit (nI v - 1) = f_W_isDigit (nI v - 1) := by decide +kernel
theorem ch_blank : ∀ v, v < 257 → f_R_isBlank (nI v - 1) = f_W_isBlank (nI v - 1) := by decide +kernel
theorem ch_pow : ∀ v, v < 257 → (oneOf 0 (nI v - 1) = 0 ↔ ¬ (nI v - 1 = 101 ∨ nI v - 1 = 69 ∨ nI v - 1 = 112 ∨ nI v - 1 = 80)) := by decide +kernel
theorem ch_one1 : ∀ v, v < 257 → (oneOf 1 (nI v - 1) = 0 ↔ ¬ (nI v - 1 = 43 ∨ nI v - 1 = 45 ∨ nI v - 1 = 60 ∨ nI v - 1 = 62 ∨ nI v - 1 = 61 ∨ nI v - 1 = 38 ∨ nI v - 1 = 124 ∨ nI v - 1 = 35)) := by decide +kernel
theorem ch_one2 : ∀ v, v < 257 → (oneOf 2 (nI v - 1) = 0 ↔ ¬ (nI v - 1 = 60 ∨ nI v - 1 = 62 ∨ nI v - 1 = 61 ∨ nI v - 1 = 33 ∨ nI v - 1 = 42 ∨ nI v - 1 = 47 ∨ nI v - 1 = 37 ∨ nI v - 1 = 43 ∨ nI v - 1 = 45 ∨ nI v - 1 = 38 ∨ nI v - 1 = 94 ∨ nI v - 1 = 124)) := by decide +kernel
theorem ch_sgl : ∀ v, v < 257 → (sgl (nI v - 1) = 0 ↔ oneOf 3 (nI v - 1) = 0) := by decide +kernel
theorem ch_sign : ∀ v, v < 257 → ((nI v - 1 = 43 ∨ nI v - 1 = 45) → f_W_isDigit (nI v - 1) = 0 ∧ f_W_isLetter (nI v - 1) = 0 ∧ ¬ nI v - 1 = 46) := by decide +kernel
theorem r_isL {post : Int32 → Prop} {st : Nat → Int32} {n i : Nat} (h : post (f_W_isLetter (tb st n i))) : wp_R_isLetter post (tb st n i) := by
  refine q_R_isLetter ?_
  obtain ⟨v, h1, h2⟩ := tb_dom (st := st) (n := n) (i := i)
  rw [h2] at h ⊢
  rw [ch_letter v h1]
  exact h
theorem r_isD {post : Int32 → Prop} {st : Nat → Int32} {n i : Nat} (h : post (f_W_isDigit (tb st n i))) : wp_R_isDigit post (tb st n i) := by
  refine q_R_isDigit ?_
  obtain ⟨v, h1, h2⟩ := tb_dom (st := st) (n := n) (i := i)
  rw [h2] at h ⊢
  rw [ch_digit v h1]
  exact h
theorem r_nameLoop {post : Int32 → Prop} {st : Nat → Int32} {n : Nat} {x1 rs : Int32} {rv : Int64} {ip cn lk bd bz ir rp hd : Int32} (hn : n ≤ 4096) : ∀ (d p : Nat), n - p ≤ d → p ≤ 4096 → post (nI (nmE (tb st n) n p) - x1) → w_R_tokenSizeAt_107 post x1 (nI n) rs rv ip cn lk bd bz ir rp hd st (d + 1) (nI p) := by
  intro d
  induction d with
  | zero =>
    intro p hp hp2 h
    unfold w_R_tokenSizeAt_107
    rw [nmE, dif_neg (by omega)] at h
    refine r_at p hn (by omega) rfl (r_isL ?_)
    rw [tb_out (by omega)]
    refine br_t (by decide) (r_at p hn (by omega) rfl (r_isD ?_))
    rw [tb_out (by omega)]
    exact br_t (by decide) h
  | succ d ih =>
    intro p hp hp2 h
    unfold w_R_tokenSizeAt_107
    refine r_at p hn (by omega) rfl (r_isL (br_c (fun c1 => r_at p hn (by omega) rfl (r_isD (br_c (fun c2 => ?_) (fun c2 => ?_)))) (fun c1 => ?_)))
    · have e : nmE (tb st n) n p = p := by
        rw [nmE, if_pos c1, if_pos c2]
        split <;> rfl
      rw [e] at h
      exact h
    · have c : p < n := by
        rcases Nat.lt_or_ge p n with q | q
        · exact q
        · rw [tb_out q] at c2
          exact absurd (by decide) c2
      rw [nmE, dif_pos c, if_pos c1, if_neg c2] at h
      exact nm_r (nI_1 p) (ih (p + 1) (by omega) (by omega) h)
    · have c : p < n := by
        rcases Nat.lt_or_ge p n with q | q
        · exact q
        · rw [tb_out q] at c1
          exact absurd (by decide) c1
      rw [nmE, dif_pos c, if_neg c1] at h
      exact nm_r (nI_1 p) (ih (p + 1) (by omega) (by omega) h)
theorem ch_goes {st : Nat → Int32} {n i j : Nat} : f_W_goesOnNumber (tb st n i) (tb st n j) = 0 ↔ (f_W_isDigit (tb st n j) = 0 ∧ f_W_isLetter (tb st n j) = 0 ∧ ¬ tb st n j = 46 ∧ ((tb st n j = 43 ∨ tb st n j = 45) → oneOf 0 (tb st n i) = 0)) := by
  obtain ⟨v, h1, h2⟩ := tb_dom (st := st) (n := n) (i := i)
  obtain ⟨w, h3, h4⟩ := tb_dom (st := st) (n := n) (i := j)
  have e1 := ch_pow v h1
  have e2 := ch_sign w h3
  rw [← h2] at e1
  rw [← h4] at e2
  rw [e1]
  generalize tb st n i = a at *
  generalize tb st n j = b at *
  clear h2 h4
  unfold f_W_goesOnNumber
  generalize f_W_isDigit b = x at *
  generalize f_W_isLetter b = y at *
  grind
theorem r_nuLoop {post : Int32 → Prop} {st : Nat → Int32} {n : Nat} {x1 rs : Int32} {rv : Int64} {ip cn lk bd bz ir rp hd : Int32} (hn : n ≤ 4096) : ∀ (d p : Nat), n - p ≤ d → p ≤ 4096 → 0 < p → post (nI (nuE (tb st n) n p) - x1) → w_R_tokenSizeAt_174 post x1 (nI n) rs rv ip cn lk bd bz ir rp hd st (d + 2) (nI p) 1 := by
  intro d
  induction d with
  | zero =>
    intro p hp hp2 hp0 h
    rw [nuE, dif_neg (by omega)] at h
    have stop : w_R_tokenSizeAt_174 post x1 (nI n) rs rv ip cn lk bd bz ir rp hd st (0 + 1) (nI p) 0 := br_t rfl h
    unfold w_R_tokenSizeAt_174
    generalize w_R_tokenSizeAt_174 post x1 (nI n) rs rv ip cn lk bd bz ir rp hd st (0 + 1) = Wn at stop ⊢
    refine br_f (by decide) (r_at p hn (by omega) rfl ?_)
    have hg := (ch_goes (st := st) (n := n) (i := p - 1) (j := p)).mp (by rw [tb_out (show n ≤ p by omega)]; unfold f_W_goesOnNumber; rfl)
    obtain ⟨g1, g2, g3, g4⟩ := hg
    have m1 : nI p - 1 = nI (p - 1) := pk_sub (a := p) (b := 1) hp0
    repeat' first | with_reducible refine r_at (p - 1) hn (by omega) m1 ?_ | with_reducible refine r_one (by decide) ?_ | with_reducible refine r_isD ?_ | with_reducible refine r_isL ?_ | with_reducible refine br_c (fun _ => ?_) (fun _ => ?_)
    all_goals first
      | exact stop
      | (exfalso; rename_i z; exact absurd z (by decide))
      | (exfalso; grind)
  | succ d ih =>
    intro p hp hp2 hp0 h
    have ih := ih (p + 1) (by omega)
    unfold w_R_tokenSizeAt_174
    have m1 : nI p - 1 = nI (p - 1) := pk_sub (a := p) (b := 1) hp0
    by_cases hg : f_W_goesOnNumber (tb st n (p - 1)) (tb st n p) = 0
    · have e : nuE (tb st n) n p = p := by
        rw [nuE, if_pos hg]
        split <;> rfl
      rw [e] at h
      have stop : w_R_tokenSizeAt_174 post x1 (nI n) rs rv ip cn lk bd bz ir rp hd st (d + 1 + 1) (nI p) 0 := br_t rfl h
      clear ih
      generalize w_R_tokenSizeAt_174 post x1 (nI n) rs rv ip cn lk bd bz ir rp hd st (d + 1 + 1) = Wn at stop ⊢
      obtain ⟨g1, g2, g3, g4⟩ := ch_goes.mp hg
      refine br_f (by decide) (r_at p hn (by omega) rfl ?_)
      repeat' first | with_reducible refine r_at (p - 1) hn (by omega) m1 ?_ | with_reducible refine r_one (by decide) ?_ | with_reducible refine r_isD ?_ | with_reducible refine r_isL ?_ | with_reducible refine br_c (fun _ => ?_) (fun _ => ?_)
      all_goals first
        | exact stop
        | (exfalso; rename_i z; exact absurd z (by decide))
        | (exfalso; grind)
    · have c : p < n := by
        rcases Nat.lt_or_ge p n with q | q
        · exact q
        · exfalso
          apply hg
          rw [tb_out q]
          unfold f_W_goesOnNumber
          rfl
      rw [nuE, dif_pos c, if_neg hg] at h
      have step : ∀ x : Int32, x = nI p + 1 → w_R_tokenSizeAt_174 post x1 (nI n) rs rv ip cn lk bd bz ir rp hd st (d + 1 + 1) x 1 := nm_r (nI_1 p) (ih (by omega) (by omega) h)
      clear ih
      generalize w_R_tokenSizeAt_174 post x1 (nI n) rs rv ip cn lk bd bz ir rp hd st (d + 1 + 1) = Wn at step ⊢
      refine br_f (by decide) (r_at p hn (by omega) rfl ?_)
      have g := fun z => hg (ch_goes.mpr z)
      repeat' first | with_reducible refine r_at (p - 1) hn (by omega) m1 ?_ | with_reducible refine r_one (by decide) ?_ | with_reducible refine r_isD ?_ | with_reducible refine r_isL ?_ | with_reducible refine br_c (fun _ => ?_) (fun _ => ?_)
      all_goals first
        | exact step
        | (exfalso; rename_i z; exact absurd z (by decide))
        | (exfalso; grind)
