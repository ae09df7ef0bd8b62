/-! the text, and the walk from token to token, by naturals -/
/-- the byte at a place, or -1 -/
def tb (row : Nat → Int32) (n i : Nat) : Int32 := if i < n then row i &&& 255 else -1
theorem tb_out {row : Nat → Int32} {n i : Nat} (h : n ≤ i) : tb row n i = -1 := by
  unfold tb
  rw [if_neg (by omega)]
theorem k_at {post : Int32 → Prop} {row : Nat → Int32} {n : Nat} (i : Nat) {x : Int32} (hn : n ≤ 4096) (hi : i < 2 ^ 31) (hx : x = nI i) (h : post (tb row n i)) : wp_T_at post (nI n) row x := by
  subst hx
  unfold wp_T_at
  refine br_f (nI_pos hi) (pk_le n i (fun c => ?_) (fun c => ?_) rfl rfl (by omega) hi)
  · rw [tb_out c] at h
    exact h
  · refine pk_lt i 4096 (fun _ => ⟨pk_in i 4096 (by omega), ?_⟩) (fun z => absurd z (by omega)) rfl rfl hi (by omega)
    rw [pk_cl i rfl hi]
    unfold tb at h
    rw [if_pos c] at h
    exact h
/-- the end of a name -/
def nmE (b : Nat → Int32) (n p : Nat) : Nat :=
  if h : p < n then (if f_W_isLetter (b p) = 0 then (if f_W_isDigit (b p) = 0 then p else nmE b n (p + 1)) else nmE b n (p + 1)) else p
termination_by n - p
theorem k_nameLoop {post : Int32 → Int32 → Int32 → Prop} {row : Nat → Int32} {n : Nat} {start fin kind oT oC : Int32} (hn : n ≤ 4096) : ∀ (d p : Nat), n - p ≤ d → p ≤ 4096 → post 1 (nI (nmE (tb row n) n p)) 1 → w_W_takeName_26 post start fin kind oT oC (nI n) row (d + 1) (nI p) := by
  intro d
  induction d with
  | zero =>
    intro p hp hp2 h
    rw [nmE, dif_neg (by omega)] at h
    exact br_t (nI_le (by omega) (by omega)) h
  | succ d ih =>
    intro p hp hp2 h
    refine pk_le n p (fun c => ?_) (fun c => ?_) rfl rfl (by omega) (by omega)
    · rw [nmE, dif_neg (by omega)] at h
      exact h
    · rw [nmE, dif_pos c] at h
      refine k_at p hn (by omega) rfl (q_W_isLetter (br_c (fun c1 => ?_) (fun c1 => ?_)))
      · rw [if_pos c1] at h
        refine k_at p hn (by omega) rfl (q_W_isDigit (br_c (fun c2 => ?_) (fun c2 => ?_)))
        · rw [if_pos c2] at h
          exact h
        · rw [if_neg c2] at h
          exact nm_r (nI_1 p) (ih (p + 1) (by omega) (by omega) h)
      · rw [if_neg c1] at h
        exact nm_r (nI_1 p) (ih (p + 1) (by omega) (by omega) h)
/-- takeName: (its answer, the end, the kind) -/
theorem k_takeName {post : Int32 → Int32 → Int32 → Prop} {row : Nat → Int32} {n s : Nat} {fin kind oT oC : Int32} (hn : n ≤ 4096) (hs : s < n) (h0 : f_W_isLetter (tb row n s) = 0 → post 0 fin kind) (h1 : ¬ f_W_isLetter (tb row n s) = 0 → post 1 (nI (nmE (tb row n) n (s + 1))) 1) : wp_W_takeName post (nI s) fin kind oT oC (nI n) row := by
  unfold wp_W_takeName
  refine k_at s hn (by omega) rfl (q_W_isLetter (br_c h0 (fun c => ?_)))
  exact nm_r (nI_1 s) ⟨_, k_nameLoop hn (n - (s + 1)) (s + 1) (Nat.le_refl _) (by omega) (h1 c)⟩
/-- the end of a number -/
def nuE (b : Nat → Int32) (n p : Nat) : Nat :=
  if h : p < n then (if f_W_goesOnNumber (b (p - 1)) (b p) = 0 then p else nuE b n (p + 1)) else p
termination_by n - p
theorem k_numLoop {post : Int32 → Int32 → Int32 → Prop} {row : Nat → Int32} {n : Nat} {start fin kind oT oC : Int32} (hn : n ≤ 4096) : ∀ (d p : Nat), n - p ≤ d → p ≤ 4096 → 0 < p → post 1 (nI (nuE (tb row n) n p)) 2 → w_W_takeNumber_53 post start fin kind oT oC (nI n) row (d + 1) (nI p) := by
  intro d
  induction d with
  | zero =>
    intro p hp hp2 hp0 h
    rw [nuE, dif_neg (by omega)] at h
    exact br_t (nI_le (by omega) (by omega)) h
  | succ d ih =>
    intro p hp hp2 hp0 h
    refine pk_le n p (fun c => ?_) (fun c => ?_) rfl rfl (by omega) (by omega)
    · rw [nuE, dif_neg (by omega)] at h
      exact h
    · rw [nuE, dif_pos c] at h
      refine k_at (p - 1) hn (by omega) (pk_sub (a := p) (b := 1) hp0) (k_at p hn (by omega) rfl (q_W_goesOnNumber (br_c (fun c1 => ?_) (fun c1 => ?_))))
      · rw [if_pos c1] at h
        exact h
      · rw [if_neg c1] at h
        exact nm_r (nI_1 p) (ih (p + 1) (by omega) (by omega) (by omega) h)
/-- whether a number begins -/
def nuB (b : Nat → Int32) (s : Nat) : Int32 := if f_W_isDigit (b s) = 0 then (if b s = 46 then (if f_W_isDigit (b (s + 1)) = 0 then 0 else 1) else 0) else 1
theorem k_takeNumber {post : Int32 → Int32 → Int32 → Prop} {row : Nat → Int32} {n s : Nat} {fin kind oT oC : Int32} (hn : n ≤ 4096) (hs : s < n) (h0 : nuB (tb row n) s = 0 → post 0 fin kind) (h1 : ¬ nuB (tb row n) s = 0 → post 1 (nI (nuE (tb row n) n (s + 1))) 2) : wp_W_takeNumber post (nI s) fin kind oT oC (nI n) row := by
  unfold wp_W_takeNumber
  refine k_at s hn (by omega) rfl (q_W_isDigit (br_c (fun c => br_c (fun c1 => ?_) (fun c1 => ?_)) (fun c => ?_)))
  · refine k_at (s + 1) hn (by omega) (nI_1 s) (q_W_isDigit (br_c (fun c2 => ?_) (fun c2 => ?_)))
    · exact h0 (by rw [nuB, if_pos c, if_pos c1, if_pos c2])
    · exact nm_r (nI_1 s) ⟨_, k_numLoop hn (n - (s + 1)) (s + 1) (Nat.le_refl _) (by omega) (by omega) (h1 (by rw [nuB, if_pos c, if_pos c1, if_neg c2]; decide))⟩
  · exact h0 (by rw [nuB, if_pos c, if_neg c1])
  · exact nm_r (nI_1 s) ⟨_, k_numLoop hn (n - (s + 1)) (s + 1) (Nat.le_refl _) (by omega) (by omega) (h1 (by rw [nuB, if_neg c]; decide))⟩
/-- the mark that closes a quote, looked for from p on -/
def clo (b : Nat → Int32) (m : Int32) (n p : Nat) : Option Nat :=
  if h : p < n then (if b p = m then some p else (if b p = 10 then none else (if b p = 92 then (if b (p + 1) = 10 then clo b m n (p + 1) else clo b m n (p + 2)) else clo b m n (p + 1)))) else none
termination_by n - p
/-- where the look ends in vain: marks before it are never closed -/
def vain (b : Nat → Int32) (m : Int32) (n p e : Nat) : Prop := ∀ q, p ≤ q → q < e → b q = m → clo b m n (q + 1) = none
theorem k_closeLoop {post : Int32 → Int32 → Int32 → Prop} {row : Nat → Int32} {n : Nat} {m start fin kind oT oC : Int32} (hn : n ≤ 4096) (hm : m = 34 ∨ m = 39) : ∀ (d p : Nat), n - p ≤ d → p ≤ 4098 → (∀ e, clo (tb row n) m n p = some e → post (nI e) oT oC) → (clo (tb row n) m n p = none → ∀ e, e ≤ 4098 → vain (tb row n) m n p e → post (-1) (if m = 34 then nI e else oT) (if m = 34 then oC else nI e)) → w_W_closeOf_27 post m start fin kind oT oC (nI n) row (d + 1) (nI p) := by
  intro d
  have fin0 : ∀ p, p ≤ 4098 → clo (tb row n) m n p = none → (clo (tb row n) m n p = none → ∀ e, e ≤ 4098 → vain (tb row n) m n p e → post (-1) (if m = 34 then nI e else oT) (if m = 34 then oC else nI e)) → ((m = 34 → post (-1) (nI p) oC) ∧ (¬ m = 34 → post (-1) oT (nI p))) := by
    intro p hp e h
    have h := h e p hp (fun q h1 h2 => absurd h2 (by omega))
    refine ⟨fun c => ?_, fun c => ?_⟩
    · rw [if_pos c, if_pos c] at h
      exact h
    · rw [if_neg c, if_neg c] at h
      exact h
  induction d with
  | zero =>
    intro p hp hp2 hs hf
    exact br_t (nI_le (by omega) (by omega)) (fin0 p hp2 (by rw [clo, dif_neg (by omega)]) hf)
  | succ d ih =>
    intro p hp hp2 hs hf
    refine pk_le n p (fun c => ?_) (fun c => ?_) rfl rfl (by omega) (by omega)
    · exact fin0 p hp2 (by rw [clo, dif_neg (by omega)]) hf
    · have e0 := clo.eq_def (tb row n) m n p
      rw [dif_pos c] at e0
      refine k_at p hn (by omega) rfl (br_c (fun c1 => ?_) (fun c1 => br_c (fun c2 => ?_) (fun c2 => br_c (fun c3 => ?_) (fun c3 => ?_))))
      · rw [if_pos c1] at e0
        exact hs p e0
      · rw [if_neg c1, if_pos c2] at e0
        exact fin0 p hp2 e0 hf
      · rw [if_neg c1, if_neg c2, if_pos c3] at e0
        refine k_at (p + 1) hn (by omega) (nI_1 p) (br_c (fun c4 => ?_) (fun c4 => ?_))
        · rw [if_pos c4] at e0
          refine nm_r (nI_1 p) (ih (p + 1) (by omega) (by omega) (fun e h => hs e (by rw [e0]; exact h)) (fun h e he hv => hf (by rw [e0]; exact h) e he ?_))
          intro q h1 h2 h3
          by_cases hq : q = p
          · exact absurd (hq ▸ h3) c1
          · exact hv q (by omega) h2 h3
        · rw [if_neg c4] at e0
          refine nm_r (nI_add p 2) (ih (p + 2) (by omega) (by omega) (fun e h => hs e (by rw [e0]; exact h)) (fun h e he hv => hf (by rw [e0]; exact h) e he ?_))
          intro q h1 h2 h3
          by_cases hq : q = p
          · exact absurd (hq ▸ h3) c1
          · by_cases hq2 : q = p + 1
            · rw [hq2]
              exact h
            · exact hv q (by omega) h2 h3
      · rw [if_neg c1, if_neg c2, if_neg c3] at e0
        refine nm_r (nI_1 p) (ih (p + 1) (by omega) (by omega) (fun e h => hs e (by rw [e0]; exact h)) (fun h e he hv => hf (by rw [e0]; exact h) e he ?_))
        intro q h1 h2 h3
        by_cases hq : q = p
        · exact absurd (hq ▸ h3) c1
        · exact hv q (by omega) h2 h3
/-- what the two notes say: marks from p on that lie before them are never closed -/
def noted (b : Nat → Int32) (n p : Nat) (oT oC : Int32) : Prop := (∃ e, e ≤ 4098 ∧ oT = nI e ∧ vain b 34 n p e) ∧ (∃ e, e ≤ 4098 ∧ oC = nI e ∧ vain b 39 n p e)
theorem noted_up {b : Nat → Int32} {n p p' : Nat} {oT oC : Int32} (h : noted b n p oT oC) (hp : p ≤ p') : noted b n p' oT oC := by
  obtain ⟨⟨e, h1, h2, h3⟩, ⟨e', h4, h5, h6⟩⟩ := h
  exact ⟨⟨e, h1, h2, fun q a b c => h3 q (by omega) b c⟩, ⟨e', h4, h5, fun q a b c => h6 q (by omega) b c⟩⟩
theorem noted_0 {b : Nat → Int32} {n p : Nat} : noted b n p 0 0 := ⟨⟨0, by omega, rfl, fun q _ h => absurd h (by omega)⟩, ⟨0, by omega, rfl, fun q _ h => absurd h (by omega)⟩⟩
theorem k_closeOf {post : Int32 → Int32 → Int32 → Prop} {row : Nat → Int32} {n q : Nat} {m start fin kind oT oC : Int32} (hn : n ≤ 4096) (hm : m = 34 ∨ m = 39) (hq : q ≤ 4096) (hb : tb row n q = m) (hN : noted (tb row n) n q oT oC) (h1 : ∀ e, clo (tb row n) m n (q + 1) = some e → post (nI e) oT oC) (h2 : clo (tb row n) m n (q + 1) = none → ∀ oT' oC', noted (tb row n) n q oT' oC' → post (-1) oT' oC') : wp_W_closeOf post start fin kind oT oC (nI n) row (nI q) m := by
  obtain ⟨⟨e1, a1, a2, a3⟩, ⟨e2, b1, b2, b3⟩⟩ := hN
  have go : ∃ fu : Nat, w_W_closeOf_27 post m start fin kind oT oC (nI n) row fu (nI (q + 1)) := by
    refine ⟨_, k_closeLoop hn hm (n - (q + 1)) (q + 1) (Nat.le_refl _) (by omega) h1 (fun h e he hv => h2 h _ _ ?_)⟩
    have hv' : vain (tb row n) m n q e := by
      intro r r1 r2 r3
      by_cases hr : r = q
      · rw [hr]
        exact h
      · exact hv r (by omega) r2 r3
    rcases hm with hm | hm
    · subst hm
      rw [if_pos rfl, if_pos rfl]
      exact ⟨⟨e, he, rfl, hv'⟩, ⟨e2, b1, b2, b3⟩⟩
    · subst hm
      rw [if_neg (by decide), if_neg (by decide)]
      exact ⟨⟨e1, a1, a2, a3⟩, ⟨e, he, rfl, hv'⟩⟩
  unfold wp_W_closeOf
  refine br_c (fun c => ?_) (fun c => ?_)
  · refine pk_le e1 q (fun _ => ?_) (fun z => ?_) a2 rfl (by omega) (by omega)
    · exact nm_r (nI_1 q) go
    · exact h2 (by have := a3 q (Nat.le_refl _) z (by rw [hb, c]); rw [c]; exact this) _ _ ⟨⟨e1, a1, a2, a3⟩, ⟨e2, b1, b2, b3⟩⟩
  · have hm : m = 39 := hm.resolve_left c
    refine pk_le e2 q (fun _ => ?_) (fun z => ?_) b2 rfl (by omega) (by omega)
    · exact nm_r (nI_1 q) go
    · exact h2 (by have := b3 q (Nat.le_refl _) z (by rw [hb, hm]); rw [hm]; exact this) _ _ ⟨⟨e1, a1, a2, a3⟩, ⟨e2, b1, b2, b3⟩⟩
theorem clo_lt {b : Nat → Int32} {m : Int32} {n : Nat} : ∀ (d p e : Nat), n - p ≤ d → clo b m n p = some e → p ≤ e ∧ e < n := by
  intro d
  induction d with
  | zero =>
    intro p e hp h
    rw [clo, dif_neg (by omega)] at h
    cases h
  | succ d ih =>
    intro p e hp h
    by_cases c : p < n
    · rw [clo, dif_pos c] at h
      by_cases c1 : b p = m
      · rw [if_pos c1] at h
        cases h
        omega
      · rw [if_neg c1] at h
        by_cases c2 : b p = 10
        · rw [if_pos c2] at h
          cases h
        · rw [if_neg c2] at h
          by_cases c3 : b p = 92
          · rw [if_pos c3] at h
            by_cases c4 : b (p + 1) = 10
            · rw [if_pos c4] at h
              have := ih (p + 1) e (by omega) h
              omega
            · rw [if_neg c4] at h
              have := ih (p + 2) e (by omega) h
              omega
          · rw [if_neg c3] at h
            have := ih (p + 1) e (by omega) h
            omega
    · rw [clo, dif_neg c] at h
      cases h
theorem nI_m1 {e : Nat} (h : e < 2 ^ 31) : ¬ nI e = -1 := by
  intro z
  have := nI_pos h
  rw [z] at this
  exact this (by decide)
/-- the place of a quote's mark -/
def quP (b : Nat → Int32) (s : Nat) : Nat := if b s = 76 then s + 1 else s
/-- a text or a character at s: its end, its kind -/
def quo (b : Nat → Int32) (n s : Nat) : Option (Nat × Int32) := if b (quP b s) = 34 then (match clo b 34 n (quP b s + 1) with | some e => some (e + 1, 3) | none => none) else (if b (quP b s) = 39 then (match clo b 39 n (quP b s + 1) with | some e => some (e + 1, 4) | none => none) else none)
theorem k_takeQuoted {post : Int32 → Int32 → Int32 → Int32 → Int32 → Prop} {row : Nat → Int32} {n s : Nat} {fin kind oT oC : Int32} (hn : n ≤ 4096) (hs : s < n) (hN : noted (tb row n) n s oT oC) (h1 : ∀ e k, e ≤ n → s < e → quo (tb row n) n s = some (e, k) → post 1 (nI e) k oT oC) (h0 : quo (tb row n) n s = none → ∀ oT' oC', noted (tb row n) n (s + 1) oT' oC' → post 0 fin kind oT' oC') : wp_W_takeQuoted post (nI s) fin kind oT oC (nI n) row := by
  have hq1 : quP (tb row n) s ≤ s + 1 := by unfold quP; split <;> omega
  have hq2 : s ≤ quP (tb row n) s := by unfold quP; split <;> omega
  have core : w_W_takeQuoted_29 post (nI (quP (tb row n) s)) (nI s) fin kind oT oC (nI n) row := by
    unfold w_W_takeQuoted_29
    refine k_at (quP (tb row n) s) hn (by omega) rfl (br_c (fun c => ?_) (fun c => br_c (fun c2 => ?_) (fun c2 => ?_)))
    · unfold w_W_takeQuoted_53
      rw [quo, if_pos c] at h0
      refine k_closeOf hn (Or.inl c) (by omega) rfl (noted_up hN hq2) (fun e he => ?_) (fun he oT' oC' hN' => ?_)
      · rw [c] at he
        have hb := clo_lt _ _ _ (Nat.le_refl _) he
        refine br_f (nI_m1 (by omega)) (br_t c ?_)
        have h1 := h1 (e + 1) 3 (by omega) (by omega) (by rw [quo, if_pos c, he])
        rw [← nI_1 e] at h1
        exact h1
      · rw [c] at he
        rw [he] at h0
        exact br_t rfl (h0 rfl _ _ (noted_up hN' hq1))
    · unfold w_W_takeQuoted_53
      rw [quo, if_neg c, if_pos c2] at h0
      refine k_closeOf hn (Or.inr c2) (by omega) rfl (noted_up hN hq2) (fun e he => ?_) (fun he oT' oC' hN' => ?_)
      · rw [c2] at he
        have hb := clo_lt _ _ _ (Nat.le_refl _) he
        refine br_f (nI_m1 (by omega)) (br_f c ?_)
        have h1 := h1 (e + 1) 4 (by omega) (by omega) (by rw [quo, if_neg c, if_pos c2, he])
        rw [← nI_1 e] at h1
        exact h1
      · rw [c2] at he
        rw [he] at h0
        exact br_t rfl (h0 rfl _ _ (noted_up hN' hq1))
    · exact h0 (by rw [quo, if_neg c, if_neg c2]) _ _ (noted_up hN (by omega))
  unfold wp_W_takeQuoted
  refine k_at s hn (by omega) rfl (br_c (fun c => ?_) (fun c => ?_))
  · rw [quP, if_pos c, ← nI_1 s] at core
    exact core
  · rw [quP, if_neg c] at core
    exact core
/-- the signs of one byte -/
theorem q_sbc : ∀ v, v < 256 → ∀ j, j < 25 → (strB j = (nI v).toInt8.toInt32 ↔ strB j = nI v) := by decide +kernel
theorem q_sce : ∀ v, v < 256 → f_JL_canEncode (nI v) = 1 := by decide +kernel
theorem k_ixLoop {post : Int32 → Prop} {v : Nat} (hv : v < 256) : ∀ (d p : Nat), 25 - p ≤ d → p ≤ 25 → (∀ j, p ≤ j → j < 25 → strB j = nI v → post (nI j)) → ((∀ j, p ≤ j → j < 25 → ¬ strB j = nI v) → post (-1)) → w_JL_indexOfChar_7 post 25 (nI v).toInt8.toInt32 (d + 1) (nI p) := by
  intro d
  induction d with
  | zero =>
    intro p hp hp2 h1 h0
    exact br_t (nI_le (a := 25) (by omega) (by omega)) (h0 (fun j _ _ => absurd hp (by omega)))
  | succ d ih =>
    intro p hp hp2 h1 h0
    refine pk_le 25 p (fun c => ?_) (fun c => ?_) rfl rfl (by omega) (by omega)
    · exact h0 (fun j _ _ => absurd c (by omega))
    · refine ⟨pk_in p 25 c, ?_⟩
      rw [pk_cl p rfl (by omega)]
      refine br_c (fun c1 => ?_) (fun c1 => ?_)
      · exact h1 p (Nat.le_refl _) c ((q_sbc v hv p c).mp c1)
      · refine nm_r (nI_1 p) (ih (p + 1) (by omega) (by omega) (fun j a b => h1 j (by omega) b) (fun hh => h0 (fun j a b => ?_)))
        by_cases hj : j = p
        · rw [hj]
          exact fun z => c1 ((q_sbc v hv p c).mpr z)
        · exact hh j (by omega) b
/-- whether a byte is a sign by itself -/
def sgl (c : Int32) : Int32 := if (List.range 25).any (fun j => decide (strB j = c)) then 1 else 0
theorem k_indexOf {post : Int32 → Prop} {v : Nat} (hv : v < 256) (h1 : ¬ sgl (nI v) = 0 → ∀ r : Int32, ¬ r < 0 → post r) (h0 : sgl (nI v) = 0 → post (-1)) : wp_JS_indexOf2 post (nI v) := by
  have go : ∃ fu : Nat, w_JL_indexOfChar_7 post 25 (nI v).toInt8.toInt32 fu (nI 0) := by
    refine ⟨_, k_ixLoop hv 25 0 (by omega) (by omega) (fun j _ hj e => h1 ?_ _ (nI_pos (by omega))) (fun hh => h0 ?_)⟩
    · unfold sgl
      rw [if_pos (List.any_eq_true.mpr ⟨j, List.mem_range.mpr hj, decide_eq_true e⟩)]
      decide
    · unfold sgl
      rw [if_neg]
      intro z
      obtain ⟨j, hj, e⟩ := List.any_eq_true.mp z
      exact hh j (Nat.zero_le _) (List.mem_range.mp hj) (of_decide_eq_true e)
  unfold wp_JS_indexOf2 wp_JS_indexOf wp_JS_isLatin1 wp_JS_length wp_JS_coder wp_JL_indexOf
  refine br_f (by decide) (br_t rfl (br_f (by decide) (br_f (by decide) (q_JL_canEncode ?_))))
  rw [q_sce v hv]
  refine br_f (by decide) (nm_r (e' := 0) (by decide) (nm_r (e' := 25) (by decide) (br_t (by decide) ?_)))
  unfold wp_JL_indexOfChar
  exact nm_e go
/-- the end of a sign -/
def sgE (b : Nat → Int32) (s : Nat) : Nat := if f_W_isTriple (b s) (b (s + 1)) (b (s + 2)) = 0 then (if f_W_isPair (b s) (b (s + 1)) = 0 then (if sgl (b s) = 0 then s else s + 1) else s + 2) else s + 3
theorem tb_in {row : Nat → Int32} {n i : Nat} (h : i < n) : ∃ v, v < 256 ∧ tb row n i = nI v := by
  unfold tb
  rw [if_pos h]
  obtain ⟨j, h1, h2⟩ := pk_andE (row i) (m := 255) 8 (by decide)
  exact ⟨j, h1, h2⟩
theorem nI_ch : ∀ v, v < 256 → ((nI v).toUInt32 % 65536).toInt32 = nI v := by decide +kernel
theorem k_takeSign {post : Int32 → Int32 → Int32 → Prop} {row : Nat → Int32} {n s : Nat} {fin kind oT oC : Int32} (hn : n ≤ 4096) (hs : s < n) (h0 : sgE (tb row n) s = s → post 0 fin kind) (h1 : s < sgE (tb row n) s → post 1 (nI (sgE (tb row n) s)) 5) : wp_W_takeSign post (nI s) fin kind oT oC (nI n) row := by
  obtain ⟨v, hv, ev⟩ := tb_in (row := row) hs
  unfold wp_W_takeSign
  refine k_at s hn (by omega) rfl (k_at (s + 1) hn (by omega) (nI_1 s) (k_at (s + 2) hn (by omega) (nI_add s 2) (q_W_isTriple (br_c (fun c => q_W_isPair (br_c (fun c1 => ?_) (fun c1 => ?_))) (fun c => ?_)))))
  · rw [ev, nI_ch v hv]
    rw [sgE, if_pos c, if_pos c1] at h0 h1
    refine k_indexOf hv (fun c2 r hr => br_f hr ?_) (fun c2 => br_t (by decide) ?_)
    · rw [ev, if_neg c2] at h1
      have h1 := h1 (by omega)
      rw [show nI (s + 1) = nI s + 1 from (nI_1 s).symm] at h1
      exact h1
    · rw [ev, if_pos c2] at h0
      exact h0 rfl
  · rw [sgE, if_pos c, if_neg c1] at h1
    have h1 := h1 (by omega)
    rw [show nI (s + 2) = nI s + 2 from (nI_add s 2).symm] at h1
    exact h1
  · rw [sgE, if_neg c] at h1
    have h1 := h1 (by omega)
    rw [show nI (s + 3) = nI s + 3 from (nI_add s 3).symm] at h1
    exact h1
/-- behind blanks -/
def blE (b : Nat → Int32) (n p : Nat) : Nat := if h : p < n then (if f_W_isBlank (b p) = 0 then p else blE b n (p + 1)) else p
termination_by n - p
/-- the token at s: its end, its kind -/
def tokE (b : Nat → Int32) (n s : Nat) : Nat × Int32 := match quo b n s with
  | some x => x
  | none => if f_W_isLetter (b s) = 0 then (if nuB b s = 0 then (if sgE b s = s then (s + 1, 6) else (sgE b s, 5)) else (nuE b n (s + 1), 2)) else (nmE b n (s + 1), 1)
theorem nmE_in {b : Nat → Int32} {n : Nat} : ∀ (d p : Nat), n - p ≤ d → p ≤ nmE b n p ∧ nmE b n p ≤ max n p := by
  intro d
  induction d with
  | zero =>
    intro p hp
    rw [nmE, dif_neg (by omega)]
    omega
  | succ d ih =>
    intro p hp
    have := ih (p + 1) (by omega)
    rw [nmE]
    split
    · split
      · split <;> omega
      · omega
    · omega
theorem nuE_in {b : Nat → Int32} {n : Nat} : ∀ (d p : Nat), n - p ≤ d → p ≤ nuE b n p ∧ nuE b n p ≤ max n p := by
  intro d
  induction d with
  | zero =>
    intro p hp
    rw [nuE, dif_neg (by omega)]
    omega
  | succ d ih =>
    intro p hp
    have := ih (p + 1) (by omega)
    rw [nuE]
    split
    · split <;> omega
    · omega
theorem blE_in {b : Nat → Int32} {n : Nat} : ∀ (d p : Nat), n - p ≤ d → p ≤ blE b n p ∧ blE b n p ≤ max n p := by
  intro d
  induction d with
  | zero =>
    intro p hp
    rw [blE, dif_neg (by omega)]
    omega
  | succ d ih =>
    intro p hp
    have := ih (p + 1) (by omega)
    rw [blE]
    split
    · split <;> omega
    · omega
theorem sgE_in (b : Nat → Int32) (s : Nat) : s ≤ sgE b s ∧ sgE b s ≤ s + 3 := by
  unfold sgE
  split
  · split
    · split <;> omega
    · omega
  · omega
theorem k_step36 {post : Int32 → Int32 → Int32 → Int32 → Int32 → Int32 → Prop} {row : Nat → Int32} {n s : Nat} {start fin kind oT oC : Int32} (hn : n ≤ 4096) (hs4 : s ≤ 4100) (hN : noted (tb row n) n s oT oC) (h0 : n ≤ s → post 0 (nI s) (nI s) kind oT oC) (h1 : s < n → ∀ oT' oC', noted (tb row n) n (tokE (tb row n) n s).1 oT' oC' → s < (tokE (tb row n) n s).1 → (tokE (tb row n) n s).1 ≤ n + 2 → post 1 (nI s) (nI (tokE (tb row n) n s).1) (tokE (tb row n) n s).2 oT' oC') : w_W_step_36 post (nI s) start fin kind oT oC (nI n) row := by
  unfold w_W_step_36
  refine pk_lt s n (fun hs => ?_) (fun c => h0 c) rfl rfl (by omega) (by omega)
  have h1 := h1 hs
  refine k_takeQuoted hn hs hN (fun e k he1 he2 e0 => br_f (by decide) ?_) (fun e0 oT' oC' hN' => br_t rfl ?_)
  · have et : tokE (tb row n) n s = (e, k) := by rw [tokE, e0]
    rw [et] at h1
    exact h1 _ _ (noted_up hN (by omega)) he2 (by show e ≤ n + 2; omega)
  · refine k_takeName hn hs (fun c1 => br_t rfl ?_) (fun c1 => br_f (by decide) ?_)
    · refine k_takeNumber hn hs (fun c2 => br_t rfl ?_) (fun c2 => br_f (by decide) ?_)
      · refine k_takeSign hn hs (fun c3 => br_t rfl ?_) (fun c3 => br_f (by decide) ?_)
        · have et : tokE (tb row n) n s = (s + 1, 6) := by rw [tokE, e0]; show (if _ then _ else _) = _; rw [if_pos c1, if_pos c2, if_pos c3]
          rw [et] at h1
          have h1 := h1 _ _ hN' (by show s < s + 1; omega) (by show s + 1 ≤ n + 2; omega)
          rw [show (nI (s + 1, (6 : Int32)).1) = nI s + 1 from (nI_1 s).symm] at h1
          exact h1
        · have et : tokE (tb row n) n s = (sgE (tb row n) s, 5) := by rw [tokE, e0]; show (if _ then _ else _) = _; rw [if_pos c1, if_pos c2, if_neg (by omega)]
          rw [et] at h1
          have hb := sgE_in (tb row n) s
          exact h1 _ _ (noted_up hN' (by show s + 1 ≤ sgE _ s; omega)) c3 (by show sgE _ s ≤ n + 2; omega)
      · have et : tokE (tb row n) n s = (nuE (tb row n) n (s + 1), 2) := by rw [tokE, e0]; show (if _ then _ else _) = _; rw [if_pos c1, if_neg c2]
        rw [et] at h1
        have hb := nuE_in (b := tb row n) (n := n) _ (s + 1) (Nat.le_refl _)
        exact h1 _ _ (noted_up hN' hb.1) (by show s < nuE _ n (s + 1); omega) (by show nuE _ n (s + 1) ≤ n + 2; omega)
    · have et : tokE (tb row n) n s = (nmE (tb row n) n (s + 1), 1) := by rw [tokE, e0]; show (if _ then _ else _) = _; rw [if_neg c1]
      rw [et] at h1
      have hb := nmE_in (b := tb row n) (n := n) _ (s + 1) (Nat.le_refl _)
      exact h1 _ _ (noted_up hN' hb.1) (by show s < nmE _ n (s + 1); omega) (by show nmE _ n (s + 1) ≤ n + 2; omega)
theorem k_stepLoop {post : Int32 → Int32 → Int32 → Int32 → Int32 → Int32 → Prop} {row : Nat → Int32} {n : Nat} {start fin kind oT oC : Int32} (hn : n ≤ 4096) : ∀ (d p : Nat), n - p ≤ d → p ≤ 4100 → w_W_step_36 post (nI (blE (tb row n) n p)) start fin kind oT oC (nI n) row → w_W_step_5 post start fin kind oT oC (nI n) row (d + 1) (nI p) := by
  intro d
  induction d with
  | zero =>
    intro p hp hp2 h
    rw [blE, dif_neg (by omega)] at h
    exact br_t (nI_le (by omega) (by omega)) h
  | succ d ih =>
    intro p hp hp2 h
    refine pk_le n p (fun c => ?_) (fun c => ?_) rfl rfl (by omega) (by omega)
    · rw [blE, dif_neg (by omega)] at h
      exact h
    · rw [blE, dif_pos c] at h
      refine k_at p hn (by omega) rfl (q_W_isBlank (br_c (fun c1 => ?_) (fun c1 => ?_)))
      · rw [if_pos c1] at h
        exact h
      · rw [if_neg c1] at h
        exact nm_r (nI_1 p) (ih (p + 1) (by omega) (by omega) h)
/-- a step -/
theorem k_step {post : Int32 → Int32 → Int32 → Int32 → Int32 → Int32 → Prop} {row : Nat → Int32} {n p : Nat} {start kind oT oC : Int32} (hn : n ≤ 4096) (hp : p ≤ 4100) (hN : noted (tb row n) n p oT oC) (h0 : n ≤ blE (tb row n) n p → post 0 (nI (blE (tb row n) n p)) (nI (blE (tb row n) n p)) kind oT oC) (h1 : blE (tb row n) n p < n → ∀ oT' oC', noted (tb row n) n (tokE (tb row n) n (blE (tb row n) n p)).1 oT' oC' → blE (tb row n) n p < (tokE (tb row n) n (blE (tb row n) n p)).1 → (tokE (tb row n) n (blE (tb row n) n p)).1 ≤ n + 2 → post 1 (nI (blE (tb row n) n p)) (nI (tokE (tb row n) n (blE (tb row n) n p)).1) (tokE (tb row n) n (blE (tb row n) n p)).2 oT' oC') : wp_W_step post start (nI p) kind oT oC (nI n) row := by
  have hb := blE_in (b := tb row n) (n := n) _ p (Nat.le_refl _)
  exact ⟨_, k_stepLoop hn (n - p) p (Nat.le_refl _) hp (k_step36 hn (by omega) (noted_up hN hb.1) h0 h1)⟩
/-- the tokens from p on, no more than k: begin, end, kind -/
def tkl (b : Nat → Int32) (n : Nat) : Nat → Nat → List (Nat × Nat × Int32)
  | 0, _ => []
  | k + 1, p => if blE b n p < n then (blE b n p, tokE b n (blE b n p)) :: tkl b n k (tokE b n (blE b n p)).1 else []
theorem k_tokensLoop {post : Int32 → Int32 → Int32 → Int32 → Int32 → Int32 → Prop} {row : Nat → Int32} {n : Nat} {lA : Int64} {lP : Int32} (hn : n ≤ 4096) : ∀ (d i p : Nat) (start kind oT oC : Int32), i + d = 4096 → p ≤ 4100 → noted (tb row n) n p oT oC → (∀ s f k t c, post (nI (i + (tkl (tb row n) n d p).length)) s f k t c) → w_M_tokens_9 post lA lP (nI n) row (d + 1) (nI i) start (nI p) kind oT oC := by
  intro d
  induction d with
  | zero =>
    intro i p start kind oT oC hi hp hN h
    exact br_t (nI_le (a := 4096) (by omega) (by omega)) (h _ _ _ _ _)
  | succ d ih =>
    intro i p start kind oT oC hi hp hN h
    refine pk_le 4096 i (fun c => absurd c (by omega)) (fun c => ?_) rfl rfl (by omega) (by omega)
    refine k_step hn hp hN (fun c1 => br_t rfl ?_) (fun c1 oT' oC' hN' a1 a2 => br_f (by decide) ?_)
    · rw [tkl, if_neg (by omega)] at h
      exact h _ _ _ _ _
    · rw [tkl, if_pos c1] at h
      refine nm_r (nI_1 i) (ih (i + 1) _ _ _ _ _ (by omega) (by omega) hN' (fun s f k t c => ?_))
      have h := h s f k t c
      rw [List.length_cons] at h
      rw [show i + 1 + (tkl (tb row n) n d (tokE (tb row n) n (blE (tb row n) n p)).1).length = i + ((tkl (tb row n) n d (tokE (tb row n) n (blE (tb row n) n p)).1).length + 1) from by omega]
      exact h
/-- tokens(): how many -/
theorem k_tokens {post : Int32 → Int32 → Int32 → Int32 → Int32 → Int32 → Prop} {row : Nat → Int32} {n : Nat} {lA : Int64} {lP start fin kind oT oC : Int32} (hn : n ≤ 4096) (h : ∀ s f k t c, post (nI (tkl (tb row n) n 4096 0).length) s f k t c) : wp_M_tokens post lA lP (nI n) row start fin kind oT oC := by
  unfold wp_M_tokens wp_W_restart
  exact ⟨_, k_tokensLoop hn 4096 0 0 _ _ _ _ rfl (by omega) noted_0 (fun s f k t c => by rw [Nat.zero_add]; exact h s f k t c)⟩
/-- what token(i, what) answers of a token -/
def tkW (x : Nat × Nat × Int32) (w : Int32) : Int32 := if w = 0 then nI x.1 else (if w = 1 then nI x.2.1 - nI x.1 else x.2.2)
theorem k_tokenLoop {post : Int32 → Int32 → Int32 → Int32 → Int32 → Int32 → Prop} {row : Nat → Int32} {n i : Nat} {w : Int32} {lA : Int64} {lP : Int32} (hn : n ≤ 4096) (hi : i < 4096) : ∀ (d j p : Nat) (start kind oT oC : Int32) (x : Nat × Nat × Int32), j + d = i + 1 → p ≤ 4100 → noted (tb row n) n p oT oC → (d = 0 → start = nI x.1 ∧ p = x.2.1 ∧ kind = x.2.2) → (∀ y s f k t c, (d = 0 → y = x) → (∀ e, d = e + 1 → (tkl (tb row n) n d p)[e]? = some y) → post (tkW y w) s f k t c) → (∀ s f k t c, (∀ e, d = e + 1 → (tkl (tb row n) n d p)[e]? = none) → ¬ d = 0 → post (-1) s f k t c) → w_M_token_31 post (nI i) w lA lP (nI n) row (d + 1) (nI j) start (nI p) kind oT oC := by
  intro d
  induction d with
  | zero =>
    intro j p start kind oT oC x hj hp hN hx h h9
    obtain ⟨x1, x2, x3⟩ := hx rfl
    have h := h x (nI x.1) (nI x.2.1) x.2.2 oT oC (fun _ => rfl) (fun e he => absurd he (by omega))
    refine br_t (nI_lt (by omega) (by omega)) ?_
    rw [x1, x2, x3]
    refine br_c (fun c => ?_) (fun c => br_c (fun c1 => ?_) (fun c1 => ?_))
    · rw [tkW, if_pos c] at h
      exact h
    · rw [tkW, if_neg c, if_pos c1] at h
      exact h
    · rw [tkW, if_neg c, if_neg c1] at h
      exact h
  | succ d ih =>
    intro j p start kind oT oC x hj hp hN hx h h9
    refine pk_lt i j (fun c => absurd c (by omega)) (fun c => ?_) rfl rfl (by omega) (by omega)
    refine k_step hn hp hN (fun c1 => br_t rfl ?_) (fun c1 oT' oC' hN' a1 a2 => br_f (by decide) ?_)
    · refine h9 _ _ _ _ _ (fun e he => ?_) (by omega)
      rw [tkl, if_neg (by omega)]
      rfl
    · refine nm_r (nI_1 j) (ih (j + 1) _ _ _ _ _ (blE (tb row n) n p, tokE (tb row n) n (blE (tb row n) n p)) (by omega) (by omega) hN' (fun _ => ⟨rfl, rfl, rfl⟩) (fun y s f k t c y1 y2 => ?_) (fun s f k t c y2 y1 => ?_))
      · refine h y s f k t c (fun z => absurd z (by omega)) (fun e he => ?_)
        cases he
        rw [tkl, if_pos c1]
        cases d with
        | zero => rw [y1 rfl]; rfl
        | succ e => exact y2 e rfl
      · refine h9 s f k t c (fun e he => ?_) (by omega)
        cases he
        rw [tkl, if_pos c1]
        cases d with
        | zero => exact absurd rfl y1
        | succ e => exact y2 e rfl
