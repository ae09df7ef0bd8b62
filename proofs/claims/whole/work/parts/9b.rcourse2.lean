/-! brackets and front signs on the course -/
theorem cN_1 {a z : Int32} {s : Int32} {O : Ops} {k : Nat} (hs : s = -1 ∨ s = 0 ∨ s = 11) (h : cN O = k) : cN ((a, s, z) :: O) = k + 1 := by
  rw [cN]
  show (if s = -1 ∨ s = 0 ∨ s = 11 then 1 else 0) + cN O = k + 1
  rw [if_pos hs, h]
  omega
theorem tpO_c {a s z : Int32} {O : Ops} (h : s < 1) : tpO ((a, s, z) :: O) := by
  intro o r e
  cases e
  exact h
theorem Gd_opn {b : Nat → Int32} {n i i' k : Nat} {x y : Nat × Nat × Int32} {nd bz bz' pl : Int32} {v : Int64} {tp : Ops → Prop} (hx : (TK b n)[i]? = some x) (ht : tkT b x = .inl 40) (hk : k + 1 ≤ 60) (hy : (TK b n)[i']? = some y) (hty : tkT b y = .inl 41) (g : Gd b n (i + 1) i' (k + 1) nd bz tpO v bz' pl) : Gd b n i (i' + 1) k nd bz tp v bz' pl := by
  obtain ⟨g1, g2, g3, g4⟩ := g
  refine ⟨g1, g2, g3, fun O V h1 h2 _ => ?_⟩
  obtain ⟨vc, a, e⟩ := g4 ((40, -1, 0) :: O) V (cN_1 (Or.inl rfl) h1) (by rw [cS_out rfl]; exact h2) (tpO_c (by decide))
  refine ⟨vc, a, ?_⟩
  rw [tsA_at hx, ht, rn_opn (by omega), e, tsA_at hy, hty, rn_clo]
theorem Bd_opn {b : Nat → Int32} {n i k : Nat} {x : Nat × Nat × Int32} {nd bz : Int32} {tp : Ops → Prop} (hx : (TK b n)[i]? = some x) (ht : tkT b x = .inl 40) (hk : k + 1 ≤ 60) (g : Bd b n (i + 1) (k + 1) nd bz tpO) : Bd b n i k nd bz tp := by
  intro O V h1 h2 _
  rw [tsA_at hx, ht, rn_opn (by omega)]
  exact g _ V (cN_1 (Or.inl rfl) h1) (by rw [cS_out rfl]; exact h2) (tpO_c (by decide))
theorem ite11 {p : Prop} [Decidable p] {a r : Int32} (ha : a = 99 ∨ ¬ 11 < a) (hr : r = 99 ∨ ¬ 11 < r) : (if p then a else r) = 99 ∨ ¬ 11 < (if p then a else r) := by
  by_cases c : p
  · rw [if_pos c]
    exact ha
  · rw [if_neg c]
    exact hr
theorem st11 (c : Int32) : f_K_strengthOf c = 99 ∨ ¬ 11 < f_K_strengthOf c := by
  unfold f_K_strengthOf
  iterate 21 refine ite11 (Or.inr (by decide)) ?_
  exact Or.inl rfl
theorem rn_popF {ts : List Tok} {O : Ops} {V : List (Int64 × Int32)} {bz c p : Int32} {w : Int64} : rn ts 0 ((c, 11, 0) :: O) ((w, p) :: V) bz = rn ts 0 O ((f_S_front c w, if p = 0 then 0 else (if c = 33 then 0 else 1)) :: V) bz := by
  rw [rn_pop (o := (c, 11, 0)) (fun t _ _ => st11 (tkC t)) (show ¬ (11 : Int32) < 0 by decide)]
  have e1 : fV (c, 11, 0) ((w, p) :: V) = (f_S_front c w, if p = 0 then 0 else (if c = 33 then 0 else 1)) :: V := by
    unfold fV
    exact if_pos rfl
  have e2 : fD (c, 11, 0) (cS ((c, 11, 0) :: O)) ((w, p) :: V) bz = bz := by
    unfold fD
    exact if_pos (Or.inl rfl)
  rw [e1, e2]
theorem Gd_frt {b : Nat → Int32} {n i i' k : Nat} {x : Nat × Nat × Int32} {nd bz bz' pl c : Int32} {v : Int64} {tp : Ops → Prop} (hc : c = 43 ∨ c = 45 ∨ c = 126 ∨ c = 33) (hx : (TK b n)[i]? = some x) (ht : tkT b x = .inl c) (hk : k + 1 ≤ 60) (g : Gd b n (i + 1) i' (k + 1) nd bz (fun _ => True) v bz' pl) : Gd b n i i' k nd bz tp (f_S_front c v) bz' (if pl = 0 then 0 else (if c = 33 then 0 else 1)) := by
  obtain ⟨g1, g2, g3, g4⟩ := g
  refine ⟨g1, g2, ?_, fun O V h1 h2 _ => ?_⟩
  · split
    · exact Or.inl rfl
    · split
      · exact Or.inl rfl
      · exact Or.inr rfl
  obtain ⟨vc, a, e⟩ := g4 ((c, 11, 0) :: O) V (cN_1 (Or.inr (Or.inr rfl)) h1) (by rw [cS_out rfl]; exact h2) trivial
  refine ⟨f_S_front c vc, fun z1 z2 => by rw [a z1 z2], ?_⟩
  rw [tsA_at hx, ht, rn_frt (by omega) hc, e, rn_popF]
theorem Bd_frt {b : Nat → Int32} {n i k : Nat} {x : Nat × Nat × Int32} {nd bz c : Int32} {tp : Ops → Prop} (hc : c = 43 ∨ c = 45 ∨ c = 126 ∨ c = 33) (hx : (TK b n)[i]? = some x) (ht : tkT b x = .inl c) (hk : k + 1 ≤ 60) (g : Bd b n (i + 1) (k + 1) nd bz (fun _ => True)) : Bd b n i k nd bz tp := by
  intro O V h1 h2 _
  rw [tsA_at hx, ht, rn_frt (by omega) hc]
  exact g _ V (cN_1 (Or.inr (Or.inr rfl)) h1) (by rw [cS_out rfl]; exact h2) trivial
theorem Bd_sgn {b : Nat → Int32} {n i k : Nat} {x : Nat × Nat × Int32} {nd bz c : Int32} {tp : Ops → Prop} (hx : (TK b n)[i]? = some x) (ht : tkT b x = .inl c) (h : 60 < k + 1 ∨ ¬ (c = 40 ∨ c = 43 ∨ c = 45 ∨ c = 126 ∨ c = 33)) : Bd b n i k nd bz tp := by
  intro O V h1 _ _
  rw [tsA_at hx, ht]
  exact rn_sgn0 (h.elim (fun z => Or.inl (by omega)) Or.inr)
theorem rn_opnNo {ts : List Tok} {O : Ops} {V : List (Int64 × Int32)} {d : Int32} (h : f_K_strengthOf (cdA ts) = 99 ∨ cdA ts = 58) : rn ts 0 ((40, -1, 0) :: O) V d = none := by
  cases ts with
  | nil =>
    rw [rn, if_pos rfl, finD_stop (fun o r z => by cases z; decide)]
  | cons t r =>
    have h : f_K_strengthOf (tkC t) = 99 ∨ tkC t = 58 := h
    have e : stB (tkC t) ((40, -1, 0) :: O) V d = none := by
      unfold stB
      rcases h with h | h
      · rw [if_pos h]
      · rw [h, if_neg (by decide), finD_stop (fun o r z => by cases z; decide)]
        rfl
    rw [rn, if_pos rfl, e]
theorem Bd_opnNo {b : Nat → Int32} {n i i' k : Nat} {x : Nat × Nat × Int32} {nd bz bz' pl : Int32} {v : Int64} {tp : Ops → Prop} (hx : (TK b n)[i]? = some x) (ht : tkT b x = .inl 40) (hk : k + 1 ≤ 60) (hn : f_K_strengthOf (cdA (tsA b n i')) = 99 ∨ cdA (tsA b n i') = 58) (g : Gd b n (i + 1) i' (k + 1) nd bz tpO v bz' pl) : Bd b n i k nd bz tp := by
  obtain ⟨g1, g2, g3, g4⟩ := g
  intro O V h1 h2 _
  obtain ⟨vc, a, e⟩ := g4 ((40, -1, 0) :: O) V (cN_1 (Or.inl rfl) h1) (by rw [cS_out rfl]; exact h2) (tpO_c (by decide))
  rw [tsA_at hx, ht, rn_opn (by omega), e, rn_opnNo hn]
