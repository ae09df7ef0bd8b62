/-! one held operator is reckoned, in the class and in the reference -/
theorem rn_setG {ts : List Tok} {O : List (Int32 × Int32 × Int32)} {V : List (Int64 × Int32)} {a s z q p bz : Int32} {w c : Int64} (h1 : ¬ s = 11) (h2 : ¬ s = 0) (h0 : ¬ s < 0) (hts : ∀ t r, ts = t :: r → f_K_strengthOf (tkC t) = 99 ∨ ¬ s < f_K_strengthOf (tkC t)) : rn ts 0 ((a, s, z) :: O) ((w, q) :: (c, p) :: V) bz = rn ts 0 O ((f_S_pair a c w (plP a p q), if plP a p q = 0 then 0 else (if f_S_isTruth a = 0 then 1 else 0)) :: V) (if (a = 47 ∨ a = 37) ∧ w = 0 ∧ cS ((a, s, z) :: O) = 0 then 1 else bz) := by
  rw [rn_pop (o := (a, s, z)) hts h0, fV_pair (o := (a, s, z)) h1 h2, fD_pair (o := (a, s, z)) h1 h2]
theorem rn_set {ts : List Tok} {O : List (Int32 × Int32 × Int32)} {V : List (Int64 × Int32)} {k : Nat} {H : Hel} {v c w : Int64} {p q bz : Int32} {vs : List Int64} (hk : k < 18) (hts : ∀ t r, ts = t :: r → f_K_strengthOf (tkC t) = 99 ∨ ¬ nI (stN k) < f_K_strengthOf (tkC t)) : rn ts 0 (exO ((k, v, p) :: H) (c :: vs) O) ((w, q) :: exV ((k, v, p) :: H) (c :: vs) V) bz = rn ts 0 (exO H vs O) ((f_S_pair (cod (sgn k)) c w (plP (cod (sgn k)) p q), if plP (cod (sgn k)) p q = 0 then 0 else (if f_S_isTruth (cod (sgn k)) = 0 then 1 else 0)) :: exV H vs V) (if (cod (sgn k) = 47 ∨ cod (sgn k) = 37) ∧ w = 0 ∧ cS (exO ((k, v, p) :: H) (c :: vs) O) = 0 then 1 else bz) := by
  obtain ⟨_, s1, s2, _⟩ := st_class k hk
  obtain ⟨n1, n2, n3, n4⟩ := nI_11 s1 s2
  have h1 : exO ((k, v, p) :: H) (c :: vs) O = (cod (sgn k), nI (stN k), skR (cod (sgn k)) c) :: exO H vs O := rfl
  have h2 : exV ((k, v, p) :: H) (c :: vs) V = (c, p) :: exV H vs V := rfl
  rw [h1, h2]
  exact rn_setG (a := cod (sgn k)) (s := nI (stN k)) (z := skR (cod (sgn k)) c) n3 n2 n4 hts
theorem set_step {O : List (Int32 × Int32 × Int32)} {k h base : Nat} {H : Hel} {sg : Nat → Int32} {hv : Nat → Int64} {hp : Nat → Int32} {v c w wc r : Int64} {p q bz nd x : Int32} {vs : List Int64} (hz : vz bz) (hO : bz = 0 → (¬ nd = 0 ↔ cS O = 0)) (hr : rep sg hv hp base ((k, v, p) :: H) h) (ha : agr (bz = 0) nd ((k, v, p) :: H) (c :: vs)) (hw : bz = 0 → needH nd ((k, v, p) :: H) → wc = w) (hx : ¬ x = 0 ↔ needH nd H) (hq : (cod (sgn k) = 37 ∧ w = 0) ∨ r = f_S_pair (cod (sgn k)) v w (plP (cod (sgn k)) p q)) : ((if (cod (sgn k) = 47 ∨ cod (sgn k) = 37) ∧ wc = 0 ∧ cS (exO ((k, v, p) :: H) (c :: vs) O) = 0 then (1 : Int32) else bz) = (if (cod (sgn k) = 47 ∨ cod (sgn k) = 37) ∧ w = 0 ∧ ¬ x = 0 then 1 else bz)) ∧ ((if (cod (sgn k) = 47 ∨ cod (sgn k) = 37) ∧ w = 0 ∧ ¬ x = 0 then (1 : Int32) else bz) = 0 → bz = 0 ∧ (needH nd H → f_S_pair (cod (sgn k)) c wc (plP (cod (sgn k)) p q) = r)) := by
  have hk : k < 18 := by
    obtain ⟨_, _, _, _, _, r5, _⟩ := hr
    exact r5
  obtain ⟨sa, sb⟩ := skJ_class k hk
  have nsk : ∀ y, (cod (sgn k) = 47 ∨ cod (sgn k) = 37) → ¬ skJ (nI k) y := by
    intro y d z
    rcases z with z | z
    · have e := sa.mpr z.1
      rcases d with d | d <;> (rw [d] at e; exact absurd e (by decide))
    · have e := sb.mpr z.1
      rcases d with d | d <;> (rw [d] at e; exact absurd e (by decide))
  by_cases hb : bz = 0
  · have cs := cS_exO hb (hO hb) _ _ h hr ha
    have iff1 : ((cod (sgn k) = 47 ∨ cod (sgn k) = 37) ∧ wc = 0 ∧ cS (exO ((k, v, p) :: H) (c :: vs) O) = 0) ↔ ((cod (sgn k) = 47 ∨ cod (sgn k) = 37) ∧ w = 0 ∧ ¬ x = 0) := by
      constructor
      · intro z
        have y := cs.mpr z.2.2
        have e := hw hb y
        exact ⟨z.1, e ▸ z.2.1, hx.mpr y.1⟩
      · intro z
        have y : needH nd ((k, v, p) :: H) := ⟨hx.mp z.2.2, nsk _ z.1⟩
        have e := hw hb y
        exact ⟨z.1, e.trans z.2.1, cs.mp y⟩
    refine ⟨?_, fun z => ⟨hb, fun y => ?_⟩⟩
    · by_cases d : (cod (sgn k) = 47 ∨ cod (sgn k) = 37) ∧ w = 0 ∧ ¬ x = 0
      · rw [if_pos d, if_pos (iff1.mpr d)]
      · rw [if_neg d, if_neg (fun z => d (iff1.mp z))]
    · have e : c = v := ha.2 hb y
      rw [e]
      by_cases s : skJ (nI k) v
      · rw [pair_sk hk (w' := w) s]
        rcases hq with g | g
        · exact absurd s (nsk _ (Or.inr g.1))
        · exact g.symm
      · rw [hw hb ⟨y, s⟩]
        rcases hq with g | g
        · rw [if_pos ⟨Or.inr g.1, g.2, hx.mpr y⟩] at z
          exact absurd z (by decide)
        · exact g.symm
  · have e : bz = 1 := hz.resolve_left hb
    rw [e]
    refine ⟨?_, fun z => ?_⟩
    · split <;> split <;> rfl
    · split at z <;> exact absurd z (by decide)
