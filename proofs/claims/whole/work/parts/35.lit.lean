/-! what a token stands for -/
/-- the code of a sign from s to e -/
def sgC (b : Nat → Int32) (s e : Nat) : Nat → Nat → Int32 → Int32
  | 0, _, x => x
  | k + 1, i, x => if e ≤ s + i then x else sgC b s e k (i + 1) (x ||| (b (s + i) <<< ((8 * nI i) &&& 31)))
theorem k_signLoop {post : Int32 → Prop} {row : Nat → Int32} {n s e : Nat} {kind oT oC : Int32} (hn : n ≤ 4096) (hs : s ≤ 4100) (he : e ≤ 4110) : ∀ (k i : Nat) (x : Int32), i + k = 3 → post (sgC (tb row n) s e k i x) → w_W_signCode_4 post (nI s) (nI e) kind oT oC (nI n) row (k + 1) x (nI i) := by
  intro k
  induction k with
  | zero =>
    intro i x hi h
    exact br_t (nI_le (a := 3) (by omega) (by omega)) h
  | succ k ih =>
    intro i x hi h
    refine pk_le 3 i (fun c => absurd c (by omega)) (fun _ => ?_) rfl rfl (by omega) (by omega)
    refine pk_le e (s + i) (fun c => ?_) (fun c => ?_) rfl (nI_add s i) (by omega) (by omega)
    · rw [sgC, if_pos c] at h
      exact h
    · rw [sgC, if_neg (by omega)] at h
      exact k_at (s + i) hn (by omega) (nI_add s i) (nm_e (nm_r (nI_1 i) (ih (i + 1) _ (by omega) h)))
theorem k_signCode {post : Int32 → Prop} {row : Nat → Int32} {n s e : Nat} {kind oT oC : Int32} (hn : n ≤ 4096) (hs : s ≤ 4100) (he : e ≤ 4110) (h : post (sgC (tb row n) s e 3 0 0)) : wp_W_signCode post (nI s) (nI e) kind oT oC (nI n) row := ⟨_, k_signLoop hn hs he 3 0 0 rfl h⟩
/-- the base of a number -/
def bsA (b : Nat → Int32) (s : Nat) : Int32 := if b s = 48 then (if b (s + 1) = 120 then 16 else (if b (s + 1) = 88 then 16 else 8)) else 10
theorem k_baseAt {post : Int32 → Prop} {row : Nat → Int32} {n s : Nat} {a : Int64} {pl : Int32} (hn : n ≤ 4096) (hs : s ≤ 4100) (h : post (bsA (tb row n) s)) : wp_L_baseAt post a pl (nI n) row (nI s) := by
  unfold wp_L_baseAt
  refine k_at s hn (by omega) rfl (br_c (fun c => ?_) (fun c => ?_))
  · refine k_at (s + 1) hn (by omega) (nI_1 s) (br_c (fun c1 => ?_) (fun c1 => br_c (fun c2 => ?_) (fun c2 => ?_)))
    · rw [bsA, if_pos c, if_pos c1] at h
      exact h
    · rw [bsA, if_pos c, if_neg c1, if_pos c2] at h
      exact h
    · rw [bsA, if_pos c, if_neg c1, if_neg c2] at h
      exact h
  · rw [bsA, if_neg c] at h
    exact h
/-- the digits from p on: where they end, the amount; none: too many -/
def rdN (b : Nat → Int32) (base : Int32) (e p : Nat) (a : Int64) : Option (Nat × Int64) :=
  if h : p < e then (if base ≤ f_L_digitOf (b p) then some (p, a) else (if f_L_fits a 0 base (f_L_digitOf (b p)) = 0 then none else rdN b base e (p + 1) (a * base.toInt64 + (f_L_digitOf (b p)).toInt64))) else some (p, a)
termination_by e - p
/-- what stands behind the digits: whether without a sign; none: anything else -/
def rdT (b : Nat → Int32) (e p : Nat) (isL pl : Int32) : Option Int32 :=
  if h : p < e then (if (b p = 117 ∨ b p = 85) ∧ pl = 0 then rdT b e (p + 1) isL 1 else (if (b p = 108 ∨ b p = 76) ∧ isL = 0 then (if p + 1 < e ∧ b (p + 1) = b p then rdT b e (p + 2) 1 pl else rdT b e (p + 1) 1 pl) else none)) else some pl
termination_by e - p
theorem rdT_z {b : Nat → Int32} {e : Nat} : ∀ (d p : Nat) (isL pl x : Int32), e - p ≤ d → vz pl → rdT b e p isL pl = some x → vz x := by
  intro d
  induction d with
  | zero =>
    intro p isL pl x hp hz h
    rw [rdT, dif_neg (by omega)] at h
    cases h
    exact hz
  | succ d ih =>
    intro p isL pl x hp hz h
    rw [rdT] at h
    split at h
    · split at h
      · exact ih (p + 1) isL 1 x (by omega) (Or.inr rfl) h
      · split at h
        · split at h
          · exact ih (p + 2) 1 pl x (by omega) hz h
          · exact ih (p + 1) 1 pl x (by omega) hz h
        · cases h
    · cases h
      exact hz
theorem k_tailLoop {post : Int32 → Int32 → Prop} {row : Nat → Int32} {n e : Nat} {a : Int64} (hn : n ≤ 4096) (he : e ≤ 4100) : ∀ (d p : Nat) (isL pl : Int32), e - p ≤ d → p ≤ 4110 → (∀ x, rdT (tb row n) e p isL pl = some x → post 1 x) → (rdT (tb row n) e p isL pl = none → ∀ x, post 0 x) → w_L_readTail_5 post (nI e) a (nI n) row (d + 1) isL (nI p) pl := by
  intro d
  induction d with
  | zero =>
    intro p isL pl hp hp2 h1 h0
    exact br_t (nI_le (by omega) (by omega)) (h1 pl (by rw [rdT, dif_neg (by omega)]))
  | succ d ih =>
    intro p isL pl hp hp2 h1 h0
    refine pk_le e p (fun c => ?_) (fun c => ?_) rfl rfl (by omega) (by omega)
    · exact h1 pl (by rw [rdT, dif_neg (by omega)])
    have e0 := rdT.eq_def (tb row n) e p isL pl
    rw [dif_pos c] at e0
    have step : ∀ q isL' pl', q ≤ 4110 → e - q ≤ d → rdT (tb row n) e p isL pl = rdT (tb row n) e q isL' pl' → w_L_readTail_5 post (nI e) a (nI n) row (d + 1) isL' (nI q) pl' := by
      intro q isL' pl' a1 a2 a3
      exact ih q isL' pl' a2 a1 (fun x hx => h1 x (by rw [a3]; exact hx)) (fun hx => h0 (by rw [a3]; exact hx))
    have ll : (tb row n p = 108 ∨ tb row n p = 76) → ¬ ((tb row n p = 117 ∨ tb row n p = 85) ∧ pl = 0) → (isL = 0 → ((nI e ≤ nI p + 1 → (∀ x4 : Int32, x4 = nI p + 1 → w_L_readTail_5 post (nI e) a (nI n) row (d + 1) 1 x4 pl)) ∧ (¬ nI e ≤ nI p + 1 → wp_T_at (fun r : Int32 => (r = tb row n p → (∀ x4 : Int32, x4 = nI p + 2 → w_L_readTail_5 post (nI e) a (nI n) row (d + 1) 1 x4 pl)) ∧ (¬ r = tb row n p → (∀ x4 : Int32, x4 = nI p + 1 → w_L_readTail_5 post (nI e) a (nI n) row (d + 1) 1 x4 pl))) (nI n) row (nI p + 1)))) ∧ (¬ isL = 0 → post 0 pl) := by
      intro hl hu
      rw [if_neg hu] at e0
      refine br_c (fun c5 => ?_) (fun c5 => ?_)
      · rw [if_pos ⟨hl, c5⟩] at e0
        refine pk_le e (p + 1) (fun c6 => ?_) (fun c6 => ?_) rfl (nI_1 p) (by omega) (by omega)
        · rw [if_neg (fun z => absurd z.1 (by omega))] at e0
          exact nm_r (nI_1 p) (step (p + 1) 1 pl (by omega) (by omega) e0)
        · refine k_at (p + 1) hn (by omega) (nI_1 p) (br_c (fun c7 => ?_) (fun c7 => ?_))
          · rw [if_pos ⟨c6, c7⟩] at e0
            exact nm_r (nI_add p 2) (step (p + 2) 1 pl (by omega) (by omega) e0)
          · rw [if_neg (fun z => c7 z.2)] at e0
            exact nm_r (nI_1 p) (step (p + 1) 1 pl (by omega) (by omega) e0)
      · rw [if_neg (fun z => c5 z.2)] at e0
        exact h0 e0 pl
    have no : ¬ (tb row n p = 108 ∨ tb row n p = 76) → ¬ ((tb row n p = 117 ∨ tb row n p = 85) ∧ pl = 0) → post 0 pl := by
      intro hl hu
      rw [if_neg hu, if_neg (fun z => hl z.1)] at e0
      exact h0 e0 pl
    have uu : (tb row n p = 117 ∨ tb row n p = 85) → pl = 0 → ∀ x4 : Int32, x4 = nI p + 1 → w_L_readTail_5 post (nI e) a (nI n) row (d + 1) isL x4 1 := by
      intro hu hz
      rw [if_pos ⟨hu, hz⟩] at e0
      exact nm_r (nI_1 p) (step (p + 1) isL 1 (by omega) (by omega) e0)
    refine k_at p hn (by omega) rfl (br_c (fun c1 => br_c (fun c2 => uu (Or.inl c1) c2) (fun c2 => ?_)) (fun c1 => br_c (fun c3 => br_c (fun c2 => uu (Or.inr c3) c2) (fun c2 => ?_)) (fun c3 => ?_)))
    · exact br_c (fun c4 => ll (Or.inl c4) (fun z => c2 z.2)) (fun c4 => br_c (fun c5 => ll (Or.inr c5) (fun z => c2 z.2)) (fun c5 => no (fun z => z.elim c4 c5) (fun z => c2 z.2)))
    · exact br_c (fun c4 => ll (Or.inl c4) (fun z => c2 z.2)) (fun c4 => br_c (fun c5 => ll (Or.inr c5) (fun z => c2 z.2)) (fun c5 => no (fun z => z.elim c4 c5) (fun z => c2 z.2)))
    · exact br_c (fun c4 => ll (Or.inl c4) (fun z => z.1.elim c1 c3)) (fun c4 => br_c (fun c5 => ll (Or.inr c5) (fun z => z.1.elim c1 c3)) (fun c5 => no (fun z => z.elim c4 c5) (fun z => z.1.elim c1 c3)))
/-- a number: its amount and whether without a sign; none: no number of a condition -/
def nuV (b : Nat → Int32) (s e : Nat) : Option (Int64 × Int32) := match rdN b (bsA b s) e (if bsA b s = 16 then s + 2 else s) 0 with
  | none => none
  | some (p, a) => if p = (if bsA b s = 16 then s + 2 else s) then none else (match rdT b e p 0 0 with
    | none => none
    | some pl => if a < 0 then (if pl = 0 then (if bsA b s = 10 then none else some (a, 1)) else some (a, pl)) else some (a, pl))
theorem k_num94 {post : Int32 → Int64 → Int32 → Prop} {row : Nat → Int32} {n e f p : Nat} {a : Int64} {base : Int32} (hn : n ≤ 4096) (he : e ≤ 4100) (hf : f ≤ 4110) (hp : p ≤ 4110) (h1 : ∀ pl, ¬ p = f → rdT (tb row n) e p 0 0 = some pl → (a < 0 → pl = 0 → ¬ base = 10 → post 1 a 1) ∧ (¬ (a < 0 ∧ pl = 0) → post 1 a pl)) (h0 : (∀ pl, ¬ p = f → rdT (tb row n) e p 0 0 = some pl → a < 0 ∧ pl = 0 ∧ base = 10) → ∀ pl, post 0 a pl) : w_L_readNumber_94 post (nI e) base (nI f) (nI p) a 0 (nI n) row := by
  unfold w_L_readNumber_94
  refine pk_eq p f (fun c => ?_) (fun c => ?_) rfl rfl (by omega) (by omega)
  · exact h0 (fun pl hc => absurd c hc) 0
  refine ⟨_, k_tailLoop hn he (e - p) p 0 0 (Nat.le_refl _) hp (fun pl hpl => br_f (by decide) ?_) (fun hx pl => br_t rfl ?_)⟩
  · obtain ⟨g1, g2⟩ := h1 pl c hpl
    refine br_c (fun c1 => ?_) (fun c1 => br_c (fun c2 => br_c (fun c3 => ?_) (fun c3 => ?_)) (fun c2 => ?_))
    · exact g2 (fun z => absurd ((lg_cmp_ge _ _).mp c1) (Int64.not_le.mpr z.1))
    · exact h0 (fun pl' _ hpl' => by rw [hpl] at hpl'; cases hpl'; exact ⟨Int64.not_le.mp (fun z => c1 ((lg_cmp_ge _ _).mpr z)), c2, c3⟩) 1
    · exact g1 (Int64.not_le.mp (fun z => c1 ((lg_cmp_ge _ _).mpr z))) c2 c3
    · exact g2 (fun z => c2 z.2)
  · exact h0 (fun pl' _ hpl' => by rw [hx] at hpl'; cases hpl') pl
theorem k_numLoop2 {post : Int32 → Int64 → Int32 → Prop} {row : Nat → Int32} {n e f : Nat} {base : Int32} (hn : n ≤ 4096) (he : e ≤ 4100) (hf : f ≤ 4110) : ∀ (d p : Nat) (a : Int64), e - p ≤ d → p ≤ 4110 → (∀ q a', q ≤ 4110 → rdN (tb row n) base e p a = some (q, a') → w_L_readNumber_94 post (nI e) base (nI f) (nI q) a' 0 (nI n) row) → (rdN (tb row n) base e p a = none → ∀ a', post 0 a' 0) → w_L_readNumber_25 post (nI e) base (nI f) 0 (nI n) row (d + 1) (nI p) a := by
  intro d
  induction d with
  | zero =>
    intro p a hp hp2 h1 h0
    exact br_t (nI_le (by omega) (by omega)) (h1 p a hp2 (by rw [rdN, dif_neg (by omega)]))
  | succ d ih =>
    intro p a hp hp2 h1 h0
    refine pk_le e p (fun c => ?_) (fun c => ?_) rfl rfl (by omega) (by omega)
    · exact h1 p a hp2 (by rw [rdN, dif_neg (by omega)])
    have e0 := rdN.eq_def (tb row n) base e p a
    rw [dif_pos c] at e0
    refine k_at p hn (by omega) rfl (q_L_digitOf (br_c (fun c1 => ?_) (fun c1 => ?_)))
    · rw [if_pos c1] at e0
      exact h1 p a hp2 e0
    · rw [if_neg c1] at e0
      refine k_at p hn (by omega) rfl (q_L_digitOf (q_L_fits (br_c (fun c2 => ?_) (fun c2 => ?_))))
      · rw [if_pos c2] at e0
        exact h0 e0 a
      · rw [if_neg c2] at e0
        exact nm_e (nm_r (nI_1 p) (ih (p + 1) _ (by omega) (by omega) (fun q a' hq hx => h1 q a' hq (by rw [e0]; exact hx)) (fun hx => h0 (by rw [e0]; exact hx))))
theorem k_readNumber {post : Int32 → Int64 → Int32 → Prop} {row : Nat → Int32} {n s e : Nat} (hn : n ≤ 4096) (hs : s ≤ 4100) (he : e ≤ 4100) (h1 : ∀ v, nuV (tb row n) s e = some v → post 1 v.1 v.2) (h0 : nuV (tb row n) s e = none → ∀ a pl, post 0 a pl) : wp_L_readNumber post 0 0 (nI n) row (nI s) (nI e) := by
  have go : ∀ f, f = (if bsA (tb row n) s = 16 then s + 2 else s) → w_L_readNumber_25 post (nI e) (bsA (tb row n) s) (nI f) 0 (nI n) row (e - f + 1) (nI f) 0 := by
    intro f hf
    have hf2 : f ≤ 4110 := by rw [hf]; split <;> omega
    unfold nuV at h1 h0
    rw [← hf] at h1 h0
    refine k_numLoop2 hn he hf2 (e - f) f 0 (Nat.le_refl _) hf2 (fun p a hp hx => ?_) (fun hx a' => ?_)
    · rw [hx] at h1 h0
      refine k_num94 hn he hf2 hp (fun pl hpf hpl => ?_) (fun hh pl => ?_)
      · dsimp only at h1
        rw [if_neg hpf, hpl] at h1
        dsimp only at h1
        refine ⟨fun g1 g2 g3 => ?_, fun g => ?_⟩
        · rw [if_pos g1, if_pos g2, if_neg g3] at h1
          exact h1 (a, 1) rfl
        · by_cases g1 : a < 0
          · rw [if_pos g1, if_neg (fun z => g ⟨g1, z⟩)] at h1
            exact h1 (a, pl) rfl
          · rw [if_neg g1] at h1
            exact h1 (a, pl) rfl
      · refine h0 ?_ a pl
        dsimp only
        by_cases hpf : p = f
        · rw [if_pos hpf]
        · rw [if_neg hpf]
          cases hq : rdT (tb row n) e p 0 0 with
          | none => rfl
          | some pl' =>
            obtain ⟨g1, g2, g3⟩ := hh pl' hpf hq
            dsimp only
            rw [if_pos g1, if_pos g2, if_pos g3]
    · rw [hx] at h0
      exact h0 rfl a' 0
  unfold wp_L_readNumber
  refine k_baseAt hn hs (br_c (fun c => ?_) (fun c => ?_))
  · exact nm_r (nI_add s 2) ⟨_, go (s + 2) (by rw [if_pos c])⟩
  · exact ⟨_, go s (by rw [if_neg c])⟩
/-- a character -/
def chV (b : Nat → Int32) (s e : Nat) : Option (Int64 × Int32) := if b s = 39 then (if nI e - nI s = 3 then some ((b (s + 1)).toInt64, 0) else (if nI e - nI s = 4 then (if b (s + 1) = 92 then (if (f_L_escaped (b (s + 2))).toInt64 = -1 then none else some ((f_L_escaped (b (s + 2))).toInt64, 0)) else none) else none)) else none
theorem k_readCharacter {post : Int32 → Int64 → Prop} {row : Nat → Int32} {n s e : Nat} {a : Int64} {pl : Int32} (hn : n ≤ 4096) (hs : s ≤ 4100) (h1 : ∀ v, chV (tb row n) s e = some v → v.2 = 0 → post 1 v.1) (h0 : chV (tb row n) s e = none → ∀ a, post 0 a) : wp_L_readCharacter post a pl (nI n) row (nI s) (nI e) := by
  unfold wp_L_readCharacter
  unfold chV at h1 h0
  refine k_at s hn (by omega) rfl (br_c (fun c => br_c (fun c1 => ?_) (fun c1 => br_c (fun c2 => ?_) (fun c2 => ?_))) (fun c => ?_))
  · rw [if_pos c, if_pos c1] at h1
    exact k_at (s + 1) hn (by omega) (nI_1 s) (nm_e (h1 _ rfl rfl))
  · rw [if_pos c, if_neg c1, if_pos c2] at h1 h0
    refine k_at (s + 1) hn (by omega) (nI_1 s) (br_c (fun c3 => ?_) (fun c3 => ?_))
    · rw [if_pos c3] at h1 h0
      refine k_at (s + 2) hn (by omega) (nI_add s 2) (q_L_escaped (nm_e (br_c (fun c4 => ?_) (fun c4 => ?_))))
      · rw [if_pos ((lg_cmp_eq _ _).mp c4)] at h0
        exact h0 rfl _
      · rw [if_neg (fun z => c4 ((lg_cmp_eq _ _).mpr z))] at h1
        exact h1 _ rfl rfl
    · rw [if_neg c3] at h0
      exact h0 rfl _
  · rw [if_pos c, if_neg c1, if_neg c2] at h0
    exact h0 rfl _
  · rw [if_neg c] at h0
    exact h0 rfl _
/-- what a token of kind k stands for -/
def liV (b : Nat → Int32) (k : Int32) (s e : Nat) : Option (Int64 × Int32) := if k = 1 then some (0, 0) else (if k = 2 then nuV b s e else (if k = 4 then chV b s e else none))
theorem k_read {post : Int32 → Int64 → Int32 → Prop} {row : Nat → Int32} {n s e : Nat} {k : Int32} {a : Int64} {pl : Int32} (hn : n ≤ 4096) (hs : s ≤ 4100) (he : e ≤ 4100) (h1 : ∀ v, liV (tb row n) k s e = some v → post 1 v.1 v.2) (h0 : liV (tb row n) k s e = none → ∀ a pl, post 0 a pl) : wp_L_read post a pl (nI n) row k (nI s) (nI e) := by
  unfold wp_L_read
  refine br_c (fun c => ?_) (fun c => br_c (fun c1 => ?_) (fun c1 => br_c (fun c2 => ?_) (fun c2 => br_c (fun c3 => ?_) (fun c3 => ?_))))
  · rw [liV, if_pos c] at h1
    exact h1 _ rfl
  · rw [liV, if_neg c, if_pos c1] at h1 h0
    exact k_readNumber hn hs he (fun v hv => ⟨Or.inr rfl, h1 v hv⟩) (fun hv a pl => ⟨Or.inl rfl, h0 hv a pl⟩)
  · rw [liV, if_neg c, if_neg c1, if_neg (by rw [c2]; decide)] at h0
    exact h0 rfl _ _
  · rw [liV, if_neg c, if_neg c1, if_pos c3] at h1 h0
    refine k_readCharacter hn hs (fun v hv hz => ⟨Or.inr rfl, ?_⟩) (fun hv a => ⟨Or.inl rfl, h0 hv a 0⟩)
    have := h1 v hv
    rw [hz] at this
    exact this
  · rw [liV, if_neg c, if_neg c1, if_neg c3] at h0
    exact h0 rfl _ _
