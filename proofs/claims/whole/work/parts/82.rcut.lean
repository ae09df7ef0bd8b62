/-! the reference's tokens are the class's -/
theorem ch_triple (a b c : Int32) : f_W_isTriple a b c = 0 ↔ ¬ ((a = 46 ∧ b = 46 ∧ c = 46) ∨ ((a = 60 ∨ a = 62) ∧ b = a ∧ c = 61)) := by
  unfold f_W_isTriple
  grind
theorem ch_pair {st : Nat → Int32} {n i : Nat} {b : Int32} : f_W_isPair (tb st n i) b = 0 ↔ ¬ ((tb st n i = b ∧ ¬ oneOf 1 (tb st n i) = 0) ∨ (b = 61 ∧ ¬ oneOf 2 (tb st n i) = 0) ∨ (tb st n i = 45 ∧ b = 62)) := by
  obtain ⟨v, h1, h2⟩ := tb_dom (st := st) (n := n) (i := i)
  have e1 := ch_one1 v h1
  have e2 := ch_one2 v h1
  rw [← h2] at e1 e2
  generalize tb st n i = a at *
  generalize oneOf 1 a = x at *
  generalize oneOf 2 a = y at *
  clear h2
  unfold f_W_isPair
  grind (splits := 60)
/-- the end of a sign or of any other byte -/
def soE (b : Nat → Int32) (s : Nat) : Nat := if sgE b s = s then s + 1 else sgE b s
theorem sg_eq {st : Nat → Int32} {n s : Nat} (hs : s ≤ 4100) : nI (soE (tb st n) s) - nI s = sgS (tb st n s) (tb st n (s + 1)) (tb st n (s + 2)) := by
  have h3 : nI (s + 3) - nI s = 3 := by rw [pk_sub (by omega), show s + 3 - s = 3 by omega]; rfl
  have h2 : nI (s + 2) - nI s = 2 := by rw [pk_sub (by omega), show s + 2 - s = 2 by omega]; rfl
  have h1 : nI (s + 1) - nI s = 1 := by rw [pk_sub (by omega), show s + 1 - s = 1 by omega]; rfl
  have t := ch_triple (tb st n s) (tb st n (s + 1)) (tb st n (s + 2))
  have p := ch_pair (st := st) (n := n) (i := s) (b := tb st n (s + 1))
  unfold soE sgE sgS
  by_cases c1 : f_W_isTriple (tb st n s) (tb st n (s + 1)) (tb st n (s + 2)) = 0
  · rw [if_pos c1]
    have t := t.mp c1
    rw [if_neg (fun z => t (Or.inl z)), if_neg (fun z => t (Or.inr z))]
    by_cases c2 : f_W_isPair (tb st n s) (tb st n (s + 1)) = 0
    · rw [if_pos c2, if_neg (p.mp c2)]
      by_cases c3 : sgl (tb st n s) = 0
      · rw [if_pos c3, if_pos rfl]
        exact h1
      · rw [if_neg c3, if_neg (by omega)]
        exact h1
    · have p : ((tb st n s = tb st n (s + 1) ∧ ¬ oneOf 1 (tb st n s) = 0) ∨ (tb st n (s + 1) = 61 ∧ ¬ oneOf 2 (tb st n s) = 0) ∨ (tb st n s = 45 ∧ tb st n (s + 1) = 62)) := Decidable.not_not.mp (fun z => c2 (p.mpr z))
      rw [if_neg c2, if_pos p, if_neg (by omega)]
      exact h2
  · have t := Decidable.not_not.mp (fun z => c1 (t.mpr z))
    rw [if_neg c1, if_neg (by omega), h3]
    rcases t with t | t
    · rw [if_pos t]
    · by_cases c4 : tb st n s = 46 ∧ tb st n (s + 1) = 46 ∧ tb st n (s + 2) = 46
      · rw [if_pos c4]
      · rw [if_neg c4, if_pos t]
theorem tb_lt {st : Nat → Int32} {n i : Nat} (h : ¬ tb st n i = -1) : i < n := by
  rcases Nat.lt_or_ge i n with q | q
  · exact q
  · exact absurd (tb_out q) h
theorem tb_ne {st : Nat → Int32} {n i : Nat} (h : i < n) : ¬ tb st n i = -1 := by
  obtain ⟨v, h1, h2⟩ := tb_in (row := st) h
  rw [h2]
  exact nI_m1 (by omega)
theorem soE_le {st : Nat → Int32} {n s : Nat} (hs : s < n) : s < soE (tb st n) s ∧ soE (tb st n) s ≤ n := by
  have t := ch_triple (tb st n s) (tb st n (s + 1)) (tb st n (s + 2))
  have p := ch_pair (st := st) (n := n) (i := s) (b := tb st n (s + 1))
  have a := tb_ne (st := st) hs
  have b1 := tb_lt (st := st) (n := n) (i := s + 1)
  have b2 := tb_lt (st := st) (n := n) (i := s + 2)
  unfold soE sgE
  by_cases c1 : f_W_isTriple (tb st n s) (tb st n (s + 1)) (tb st n (s + 2)) = 0
  · rw [if_pos c1]
    by_cases c2 : f_W_isPair (tb st n s) (tb st n (s + 1)) = 0
    · rw [if_pos c2]
      split <;> split <;> omega
    · have p := Decidable.not_not.mp (fun z => c2 (p.mpr z))
      have b1 : s + 1 < n := by
        apply b1
        intro z
        rw [z] at p
        rcases p with ⟨p, _⟩ | ⟨p, _⟩ | ⟨_, p⟩
        · exact a p
        · exact absurd p (by decide)
        · exact absurd p (by decide)
      rw [if_neg c2]
      split <;> omega
  · have t := Decidable.not_not.mp (fun z => c1 (t.mpr z))
    have b2 : s + 2 < n := by
      apply b2
      intro z
      rw [z] at t
      rcases t with ⟨_, _, t⟩ | ⟨_, _, t⟩
      · exact absurd t (by decide)
      · exact absurd t (by decide)
    rw [if_neg c1]
    split <;> omega
theorem tokE_none {b : Nat → Int32} {n s : Nat} (h : quo b n s = none) : tokE b n s = if f_W_isLetter (b s) = 0 then (if nuB b s = 0 then (if sgE b s = s then (s + 1, 6) else (sgE b s, 5)) else (nuE b n (s + 1), 2)) else (nmE b n (s + 1), 1) := by
  rw [tokE, h]
theorem tokE_sg {b : Nat → Int32} {n s : Nat} (h : quo b n s = none) (h1 : f_W_isLetter (b s) = 0) (h2 : nuB b s = 0) : (tokE b n s).1 = soE b s := by
  rw [tokE_none h, if_pos h1, if_pos h2, soE]
  split <;> rfl
theorem r_size95 {post : Int32 → Prop} {st : Nat → Int32} {n s : Nat} {rs : Int32} {rv : Int64} {ip cn lk bd bz ir rp hd : Int32} (hn : n ≤ 4096) (hs : s < n) (hq : quo (tb st n) n s = none) (h : post (nI (tokE (tb st n) n s).1 - nI s)) : w_R_tokenSizeAt_95 post (nI s) (nI n) (tb st n s) (tb st n (s + 1)) rs rv ip cn lk bd bz ir rp hd st := by
  unfold w_R_tokenSizeAt_95
  refine nm_r (nI_1 s) (r_isL (br_c (fun c1 => r_isD (br_c (fun c2 => br_c (fun c3 => r_isD (br_c (fun c4 => ?_) (fun c4 => ?_))) (fun c3 => ?_)) (fun c2 => ?_))) (fun c1 => ?_)))
  · have e : nuB (tb st n) s = 0 := by rw [nuB, if_pos c2, if_pos c3, if_pos c4]
    rw [tokE_sg hq c1 e, sg_eq (by omega)] at h
    exact r_signSize hn (by omega) rfl h
  · have e : ¬ nuB (tb st n) s = 0 := by rw [nuB, if_pos c2, if_pos c3, if_neg c4]; decide
    rw [tokE_none hq, if_pos c1, if_neg e] at h
    exact ⟨_, r_nuLoop hn (n - (s + 1)) (s + 1) (Nat.le_refl _) (by omega) (by omega) h⟩
  · have e : nuB (tb st n) s = 0 := by rw [nuB, if_pos c2, if_neg c3]
    rw [tokE_sg hq c1 e, sg_eq (by omega)] at h
    exact r_signSize hn (by omega) rfl h
  · have e : ¬ nuB (tb st n) s = 0 := by rw [nuB, if_neg c2]; decide
    rw [tokE_none hq, if_pos c1, if_neg e] at h
    exact ⟨_, r_nuLoop hn (n - (s + 1)) (s + 1) (Nat.le_refl _) (by omega) (by omega) h⟩
  · rw [tokE_none hq, if_neg c1] at h
    exact ⟨_, r_nameLoop hn (n - (s + 1)) (s + 1) (Nat.le_refl _) (by omega) h⟩
theorem r_size {post : Int32 → Prop} {st : Nat → Int32} {n s : Nat} {rs : Int32} {rv : Int64} {ip cn lk bd bz ir rp hd : Int32} (hn : n ≤ 4096) (hb : bys st) (hs : s < n) (h : post (nI (tokE (tb st n) n s).1 - nI s)) : wp_R_tokenSizeAt post rs rv ip cn lk bd bz ir rp hd st (nI s) (nI n) := by
  have c95 : quo (tb st n) n s = none → w_R_tokenSizeAt_95 post (nI s) (nI n) (tb st n s) (tb st n (s + 1)) rs rv ip cn lk bd bz ir rp hd st := fun hq => r_size95 hn hs hq h
  have qq : ∀ (i : Nat) (m k : Int32) (P : Prop), i ≤ s + 1 → s ≤ i → i < n → tb st n i = m → ¬ m = 10 → (clo (tb st n) m n (i + 1) = none → P) → (∀ e, clo (tb st n) m n (i + 1) = some e → (tokE (tb st n) n s).1 = e + 1) → ∀ x, x = nI i → wp_R_quotedEnd (fun r : Int32 => (r ≤ 0 → P) ∧ (¬ r ≤ 0 → wp_R_quotedEnd (fun r2 : Int32 => post (r2 - nI s)) rs rv ip cn lk bd bz ir rp hd st x (nI n))) rs rv ip cn lk bd bz ir rp hd st x (nI n) := by
    intro i m k P i1 i2 i3 hm hm10 h0 h1 x hx
    subst hm
    refine r_quoted hn hb i3 hm10 hx ?_
    cases hc : clo (tb st n) (tb st n i) n (i + 1) with
    | none =>
      unfold qeE
      rw [hc]
      exact br_t (by decide) (h0 hc)
    | some e =>
      have hl := clo_lt _ _ _ (Nat.le_refl _) hc
      have hq : qeE (tb st n) n i = nI (e + 1) := by unfold qeE; rw [hc]
      rw [hq]
      refine br_f (nI_nle (by omega) (by omega)) (r_quoted hn hb i3 hm10 hx ?_)
      rw [hq]
      rw [h1 e hc] at h
      exact h
  have c65 : (quo (tb st n) n s = none ∨ ¬ tb st n s = 76) → w_R_tokenSizeAt_65 post (nI s) (nI n) (tb st n s) (tb st n (s + 1)) rs rv ip cn lk bd bz ir rp hd st := by
    intro hq
    unfold w_R_tokenSizeAt_65
    refine br_c (fun c1 => ?_) (fun c1 => br_c (fun c2 => ?_) (fun c2 => c95 ?_))
    · have c76 : ¬ tb st n s = 76 := by rw [c1]; decide
      have eq : quo (tb st n) n s = (match clo (tb st n) 34 n (s + 1) with | some e => some (e + 1, 3) | none => none) := by
        unfold quo quP
        rw [if_neg c76, if_pos c1]
        rfl
      refine qq s 34 0 _ (by omega) (by omega) hs c1 (by decide) (fun hc => c95 (by rw [eq, hc])) (fun e hc => ?_) _ rfl
      rw [tokE, eq, hc]
    · have c76 : ¬ tb st n s = 76 := by rw [c2]; decide
      have eq : quo (tb st n) n s = (match clo (tb st n) 39 n (s + 1) with | some e => some (e + 1, 4) | none => none) := by
        unfold quo quP
        rw [if_neg c76, if_neg c1, if_pos c2]
        rfl
      refine qq s 39 0 _ (by omega) (by omega) hs c2 (by decide) (fun hc => c95 (by rw [eq, hc])) (fun e hc => ?_) _ rfl
      rw [tokE, eq, hc]
    · rcases hq with hq | hq
      · exact hq
      · unfold quo quP
        rw [if_neg hq, if_neg c1, if_neg c2]
  unfold wp_R_tokenSizeAt
  refine r_at s hn (by omega) rfl (r_at (s + 1) hn (by omega) (nI_1 s) (br_c (fun c => br_c (fun c1 => ?_) (fun c1 => br_c (fun c2 => ?_) (fun c2 => c65 (Or.inl ?_)))) (fun c => c65 (Or.inr c))))
  · have hs1 : s + 1 < n := tb_lt (by rw [c1]; decide)
    have eq : quo (tb st n) n s = (match clo (tb st n) 34 n (s + 1 + 1) with | some e => some (e + 1, 3) | none => none) := by
      unfold quo quP
      rw [if_pos c, if_pos c1]
      rfl
    unfold w_R_tokenSizeAt_43
    refine qq (s + 1) 34 0 _ (by omega) (by omega) hs1 c1 (by decide) (fun hc => c65 (Or.inl (by rw [eq, hc]))) (fun e hc => ?_) _ (nI_1 s)
    rw [tokE, eq, hc]
  · have hs1 : s + 1 < n := tb_lt (by rw [c2]; decide)
    have eq : quo (tb st n) n s = (match clo (tb st n) 39 n (s + 1 + 1) with | some e => some (e + 1, 4) | none => none) := by
      unfold quo quP
      rw [if_pos c, if_neg c1, if_pos c2]
      rfl
    unfold w_R_tokenSizeAt_43
    refine qq (s + 1) 39 0 _ (by omega) (by omega) hs1 c2 (by decide) (fun hc => c65 (Or.inl (by rw [eq, hc]))) (fun e hc => ?_) _ (nI_1 s)
    rw [tokE, eq, hc]
  · unfold quo quP
    rw [if_pos c, if_neg c1, if_neg c2]
/-- a token's end: behind its begin, within the text -/
theorem tokE_le {st : Nat → Int32} {n s : Nat} (hs : s < n) : s < (tokE (tb st n) n s).1 ∧ (tokE (tb st n) n s).1 ≤ n := by
  cases hq : quo (tb st n) n s with
  | some x =>
    rw [tokE, hq]
    unfold quo at hq
    have hp : s ≤ quP (tb st n) s := by unfold quP; split <;> omega
    split at hq
    · split at hq
      · rename_i e he
        have := clo_lt _ _ _ (Nat.le_refl _) he
        cases hq
        show s < e + 1 ∧ e + 1 ≤ n
        omega
      · cases hq
    · split at hq
      · split at hq
        · rename_i e he
          have := clo_lt _ _ _ (Nat.le_refl _) he
          cases hq
          show s < e + 1 ∧ e + 1 ≤ n
          omega
        · cases hq
      · cases hq
  | none =>
    by_cases c1 : f_W_isLetter (tb st n s) = 0
    · by_cases c2 : nuB (tb st n) s = 0
      · rw [tokE_sg hq c1 c2]
        exact soE_le hs
      · have := nuE_in (b := tb st n) (n := n) _ (s + 1) (Nat.le_refl _)
        rw [tokE_none hq, if_pos c1, if_neg c2]
        show s < nuE _ _ _ ∧ nuE _ _ _ ≤ n
        omega
    · have := nmE_in (b := tb st n) (n := n) _ (s + 1) (Nat.le_refl _)
      rw [tokE_none hq, if_neg c1]
      show s < nmE _ _ _ ∧ nmE _ _ _ ≤ n
      omega
