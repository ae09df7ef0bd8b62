/-! either on the course: what is held between two operands -/
def Iv (b : Nat → Int32) (n i i' k : Nat) (nd bz : Int32) (H : Hel) (v : Int64) (bz' pl : Int32) : Prop := (bz' = 0 → bz = 0) ∧ vz bz' ∧ vz pl ∧ ∀ (O : Ops) (V : List (Int64 × Int32)), cN O = k → (bz = 0 → (¬ nd = 0 ↔ cS O = 0)) → tpO O → ∃ vs vc, agr (bz' = 0) nd H vs ∧ (bz' = 0 → needH nd H → vc = v) ∧ rn (tsA b n i) 1 O V bz = rn (tsA b n i') 0 (exO H vs O) ((vc, pl) :: exV H vs V) bz'
theorem Iv_0 {b : Nat → Int32} {n i i' k : Nat} {nd bz bz' pl : Int32} {v : Int64} (g : Gd b n i i' k nd bz (fun _ => True) v bz' pl) : Iv b n i i' k nd bz [] v bz' pl := by
  obtain ⟨g1, g2, g3, g4⟩ := g
  refine ⟨g1, g2, g3, fun O V h1 h2 _ => ?_⟩
  obtain ⟨vc, a, e⟩ := g4 O V h1 h2 trivial
  exact ⟨[], vc, trivial, a, e⟩
theorem Iv_end {b : Nat → Int32} {n i i' k : Nat} {nd bz bz' pl : Int32} {v : Int64} (g : Iv b n i i' k nd bz [] v bz' pl) : Gd b n i i' k nd bz tpO v bz' pl := by
  obtain ⟨g1, g2, g3, g4⟩ := g
  refine ⟨g1, g2, g3, fun O V h1 h2 h3 => ?_⟩
  obtain ⟨vs, vc, a, e, r⟩ := g4 O V h1 h2 h3
  cases vs with
  | nil => exact ⟨vc, e, r⟩
  | cons c vs => exact a.elim
theorem Iv_set {b : Nat → Int32} {n i i' k k1 base h : Nat} {nd bz bz' p q x : Int32} {v1 w r : Int64} {H : Hel} {sg hp : Nat → Int32} {hv : Nat → Int64} (hr : rep sg hv hp base ((k1, v1, p) :: H) h) (hx : ¬ x = 0 ↔ needH nd H) (hq : (cod (sgn k1) = 37 ∧ w = 0) ∨ r = f_S_pair (cod (sgn k1)) v1 w (plP (cod (sgn k1)) p q)) (hts : ∀ t r, tsA b n i' = t :: r → f_K_strengthOf (tkC t) = 99 ∨ ¬ nI (stN k1) < f_K_strengthOf (tkC t)) (g : Iv b n i i' k nd bz ((k1, v1, p) :: H) w bz' q) : Iv b n i i' k nd bz H r (if (cod (sgn k1) = 47 ∨ cod (sgn k1) = 37) ∧ w = 0 ∧ ¬ x = 0 then 1 else bz') (if plP (cod (sgn k1)) p q = 0 then 0 else (if f_S_isTruth (cod (sgn k1)) = 0 then 1 else 0)) := by
  obtain ⟨g1, g2, g3, g4⟩ := g
  have hk1 : k1 < 18 := by
    obtain ⟨_, _, _, _, _, r5, _⟩ := hr
    exact r5
  refine ⟨fun z => ?_, ?_, ?_, fun O V h1 h2 h3 => ?_⟩
  · split at z
    · exact absurd z (by decide)
    · exact g1 z
  · split
    · exact Or.inr rfl
    · exact g2
  · split
    · exact Or.inl rfl
    · split
      · exact Or.inr rfl
      · exact Or.inl rfl
  obtain ⟨vs, vc, a, e, rr⟩ := g4 O V h1 h2 h3
  cases vs with
  | nil => exact a.elim
  | cons c vs =>
    obtain ⟨s1, s2⟩ := set_step (O := O) (wc := vc) g2 (fun z => h2 (g1 z)) hr a e hx hq
    refine ⟨vs, f_S_pair (cod (sgn k1)) c vc (plP (cod (sgn k1)) p q), agr_mono (fun z => (s2 z).1) H vs a.1, fun z y => (s2 z).2 y, ?_⟩
    rw [rr, rn_set hk1 hts, s1]
theorem rn_psh {ts : List Tok} {O : Ops} {V : List (Int64 × Int32)} {bz p : Int32} {v : Int64} {k1 : Nat} (hk : k1 < 18) (hO : ∀ o r, O = o :: r → o.2.1 < nI (stN k1)) : rn (.inl (cod (sgn k1)) :: ts) 0 O ((v, p) :: V) bz = rn ts 1 ((cod (sgn k1), nI (stN k1), skR (cod (sgn k1)) v) :: O) ((v, p) :: V) bz := by
  obtain ⟨s0, s1, s2, s41, s58, s63⟩ := st_class k1 hk
  have n99 : ¬ nI (stN k1) = 99 := by
    intro z
    have := (nI_eq (b := 99) (by omega) (by omega)).mp z
    omega
  have e : stB (cod (sgn k1)) O ((v, p) :: V) bz = some (1, (cod (sgn k1), nI (stN k1), skR (cod (sgn k1)) v) :: O, (v, p) :: V, bz) := by
    unfold stB
    rw [s0, if_neg n99, finD_stop hO]
    dsimp only
    rw [if_neg s41, if_neg s58, if_neg s63]
  rw [rn, if_pos rfl]
  show (match stB (cod (sgn k1)) O ((v, p) :: V) bz with | none => none | some x => rn ts x.1 x.2.1 x.2.2.1 x.2.2.2) = _
  rw [e]
theorem lt_1 {a : Int32} {s : Nat} (h : a < 1) (h1 : 1 ≤ s) (h2 : s ≤ 10) : a < nI s := by
  have e : (1 : Int32) ≤ nI s := nI_le (a := 1) h1 (by omega)
  exact Int32.lt_of_lt_of_le h e
theorem exO_top {O : Ops} {H : Hel} {vs : List Int64} {h k1 base : Nat} {sg hp : Nat → Int32} {hv : Nat → Int64} {z : Prop} {nd : Int32} (hO : tpO O) (hr : rep sg hv hp base H h) (ha : agr z nd H vs) (hk : k1 < 18) (ht : tpH H < stN k1) : ∀ o r, exO H vs O = o :: r → o.2.1 < nI (stN k1) := by
  obtain ⟨_, s1, s2, _⟩ := st_class k1 hk
  cases H with
  | nil =>
    cases vs with
    | nil =>
      intro o r e
      exact lt_1 (hO o r e) s1 s2
    | cons c vs => exact ha.elim
  | cons p H =>
    cases vs with
    | nil => exact ha.elim
    | cons c vs =>
      intro o r e
      rw [exO] at e
      cases e
      exact (show nI (stN p.1) < nI (stN k1) from nI_lt ht (by omega))
theorem Iv_push {b : Nat → Int32} {n i i' i2 k k1 base h : Nat} {nd bz bz' pl x bz2 pl2 : Int32} {v v2 : Int64} {H : Hel} {sg hp : Nat → Int32} {hv : Nat → Int64} {y : Nat × Nat × Int32} (hr : rep sg hv hp base H h) (hk1 : k1 < 18) (ht : tpH H < stN k1) (hy : (TK b n)[i']? = some y) (ty : tkT b y = .inl (cod (sgn k1))) (hx : ¬ x = 0 ↔ needH nd ((k1, v, pl) :: H)) (g : Iv b n i i' k nd bz H v bz' pl) (g2 : Gd b n (i' + 1) i2 k x bz' (fun _ => True) v2 bz2 pl2) : Iv b n i i2 k nd bz ((k1, v, pl) :: H) v2 bz2 pl2 := by
  obtain ⟨a1, a2, a3, a4⟩ := g
  obtain ⟨b1, b2, b3, b4⟩ := g2
  refine ⟨fun z => a1 (b1 z), b2, b3, fun O V h1 h2 h3 => ?_⟩
  obtain ⟨vs, vc, c1, c2, c3⟩ := a4 O V h1 h2 h3
  have hr' := rep_push (v := v) hr hk1 a3 ht
  have ag : agr (bz' = 0) nd ((k1, v, pl) :: H) (vc :: vs) := ⟨c1, c2⟩
  obtain ⟨vc2, d1, d2⟩ := b4 (exO ((k1, v, pl) :: H) (vc :: vs) O) (exV ((k1, v, pl) :: H) (vc :: vs) V) ((cN_exO _ _ _ hr').trans h1) (fun u => hx.trans (cS_exO u (h2 (a1 u)) _ _ _ hr' ag)) trivial
  refine ⟨vc :: vs, vc2, agr_mono b1 _ _ ag, fun z u => d1 z (hx.mpr u), ?_⟩
  rw [c3, tsA_at hy, ty, rn_psh hk1 (exO_top h3 hr c1 hk1 ht)]
  exact d2
theorem Bd_push {b : Nat → Int32} {n i i' k k1 base h : Nat} {nd bz bz' pl x : Int32} {v : Int64} {H : Hel} {sg hp : Nat → Int32} {hv : Nat → Int64} {y : Nat × Nat × Int32} (hr : rep sg hv hp base H h) (hk1 : k1 < 18) (ht : tpH H < stN k1) (hy : (TK b n)[i']? = some y) (ty : tkT b y = .inl (cod (sgn k1))) (hx : ¬ x = 0 ↔ needH nd ((k1, v, pl) :: H)) (g : Iv b n i i' k nd bz H v bz' pl) (B : Bd b n (i' + 1) k x bz' (fun _ => True)) : Bd b n i k nd bz tpO := by
  obtain ⟨a1, a2, a3, a4⟩ := g
  intro O V h1 h2 h3
  obtain ⟨vs, vc, c1, c2, c3⟩ := a4 O V h1 h2 h3
  have hr' := rep_push (v := v) hr hk1 a3 ht
  have ag : agr (bz' = 0) nd ((k1, v, pl) :: H) (vc :: vs) := ⟨c1, c2⟩
  rw [c3, tsA_at hy, ty, rn_psh hk1 (exO_top h3 hr c1 hk1 ht)]
  exact B (exO ((k1, v, pl) :: H) (vc :: vs) O) (exV ((k1, v, pl) :: H) (vc :: vs) V) ((cN_exO _ _ _ hr').trans h1) (fun u => hx.trans (cS_exO u (h2 (a1 u)) _ _ _ hr' ag)) trivial
theorem opF_neg {c : Int32} : ∀ k, k ≤ 18 → opF c k < 0 → ∀ j, j < k → ¬ c = cod (sgn j) := by
  intro k
  induction k with
  | zero => intro _ _ j hj; exact absurd hj (by omega)
  | succ k ih =>
    intro hk h j hj
    rw [opF] at h
    by_cases e : c = cod (sgn k)
    · rw [if_pos e] at h
      exact absurd h (nI_pos (by omega))
    · rw [if_neg e] at h
      by_cases ej : j = k
      · rw [ej]
        exact e
      · exact ih (by omega) h j (by omega)
theorem opF_pos {c : Int32} : ∀ k, ¬ opF c k < 0 → ∃ j, j < k ∧ c = cod (sgn j) ∧ opF c k = nI j := by
  intro k
  induction k with
  | zero => intro h; exact absurd (show (-1 : Int32) < 0 by decide) h
  | succ k ih =>
    intro h
    rw [opF] at h ⊢
    by_cases e : c = cod (sgn k)
    · rw [if_pos e]
      exact ⟨k, by omega, e, rfl⟩
    · rw [if_neg e] at h ⊢
      obtain ⟨j, a, b, d⟩ := ih h
      exact ⟨j, by omega, b, d⟩
theorem opN {c : Int32} (h : ∀ j, j < 18 → ¬ c = cod (sgn j)) : ¬ c = 37 ∧ ¬ c = 38 ∧ ¬ c = 42 ∧ ¬ c = 43 ∧ ¬ c = 45 ∧ ¬ c = 47 ∧ ¬ c = 60 ∧ ¬ c = 62 ∧ ¬ c = 94 ∧ ¬ c = 124 ∧ ¬ c = 9766 ∧ ¬ c = 15420 ∧ ¬ c = 15649 ∧ ¬ c = 15676 ∧ ¬ c = 15677 ∧ ¬ c = 15678 ∧ ¬ c = 15934 ∧ ¬ c = 31868 := by
  have e : cod (sgn 17) = 37 ∧ cod (sgn 4) = 38 ∧ cod (sgn 15) = 42 ∧ cod (sgn 13) = 43 ∧ cod (sgn 14) = 45 ∧ cod (sgn 16) = 47 ∧ cod (sgn 7) = 60 ∧ cod (sgn 8) = 62 ∧ cod (sgn 3) = 94 ∧ cod (sgn 2) = 124 ∧ cod (sgn 1) = 9766 ∧ cod (sgn 11) = 15420 ∧ cod (sgn 6) = 15649 ∧ cod (sgn 9) = 15676 ∧ cod (sgn 5) = 15677 ∧ cod (sgn 10) = 15678 ∧ cod (sgn 12) = 15934 ∧ cod (sgn 0) = 31868 := by decide +kernel
  obtain ⟨e37, e38, e42, e43, e45, e47, e60, e62, e94, e124, e9766, e15420, e15649, e15676, e15677, e15678, e15934, e31868⟩ := e
  exact ⟨fun z => h 17 (by decide) (z.trans e37.symm), fun z => h 4 (by decide) (z.trans e38.symm), fun z => h 15 (by decide) (z.trans e42.symm), fun z => h 13 (by decide) (z.trans e43.symm), fun z => h 14 (by decide) (z.trans e45.symm), fun z => h 16 (by decide) (z.trans e47.symm), fun z => h 7 (by decide) (z.trans e60.symm), fun z => h 8 (by decide) (z.trans e62.symm), fun z => h 3 (by decide) (z.trans e94.symm), fun z => h 2 (by decide) (z.trans e124.symm), fun z => h 1 (by decide) (z.trans e9766.symm), fun z => h 11 (by decide) (z.trans e15420.symm), fun z => h 6 (by decide) (z.trans e15649.symm), fun z => h 9 (by decide) (z.trans e15676.symm), fun z => h 5 (by decide) (z.trans e15677.symm), fun z => h 10 (by decide) (z.trans e15678.symm), fun z => h 12 (by decide) (z.trans e15934.symm), fun z => h 0 (by decide) (z.trans e31868.symm)⟩
theorem nxE_of {c : Int32} (h : opF c 18 < 0) : nxE c := by
  obtain ⟨n37, n38, n42, n43, n45, n47, n60, n62, n94, n124, n9766, n15420, n15649, n15676, n15677, n15678, n15934, n31868⟩ := opN (opF_neg 18 (by omega) h)
  by_cases n41 : c = 41
  · exact Or.inl (Or.inr (Or.inl n41))
  by_cases n58 : c = 58
  · exact Or.inl (Or.inr (Or.inr n58))
  by_cases n63 : c = 63
  · exact Or.inr n63
  refine Or.inl (Or.inl ?_)
  unfold f_K_strengthOf
  rw [if_neg n37, if_neg n38, if_neg n41, if_neg n42, if_neg n43, if_neg n45, if_neg n47, if_neg n58, if_neg n60, if_neg n62, if_neg n63, if_neg n94, if_neg n124, if_neg n9766, if_neg n15420, if_neg n15649, if_neg n15676, if_neg n15677, if_neg n15678, if_neg n15934, if_neg n31868]
theorem nxE_hts {ts : List Tok} {s : Nat} (h1 : 1 ≤ s) (h2 : s ≤ 10) (h : nxE (cdA ts)) : ∀ t r, ts = t :: r → f_K_strengthOf (tkC t) = 99 ∨ ¬ nI s < f_K_strengthOf (tkC t) := by
  intro t r e
  rw [e] at h
  have h : nxE (tkC t) := h
  rcases h with (h | h | h) | h
  · exact Or.inl h
  · rw [h]
    exact Or.inr (fun z => nI_pos (n := s) (by omega) z)
  · rw [h]
    exact Or.inr (fun z => nI_pos (n := s) (by omega) z)
  · rw [h]
    refine Or.inr (fun z => ?_)
    have := (nI_ltI (a := s) (b := 1) (by omega) (by omega)).mp z
    omega
theorem op_hts {ts : List Tok} {k1 k2 : Nat} (hk1 : k1 < 18) (hk2 : k2 < 18) (hc : cdA ts = cod (sgn k1)) (h : stN k1 ≤ stN k2) : ∀ t r, ts = t :: r → f_K_strengthOf (tkC t) = 99 ∨ ¬ nI (stN k2) < f_K_strengthOf (tkC t) := by
  intro t r e
  rw [e] at hc
  have hc : tkC t = cod (sgn k1) := hc
  obtain ⟨s0, s1, s2, _⟩ := st_class k1 hk1
  obtain ⟨_, r1, r2, _⟩ := st_class k2 hk2
  rw [hc, s0]
  refine Or.inr (fun z => ?_)
  have := (nI_ltI (by omega) (by omega)).mp z
  omega
