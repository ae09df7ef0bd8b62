/-! feed, cut, token -/
def byB (x : Int64) (i : Nat) : Int32 := vp_nar .byte ((((x.toUInt64 >>> ((8 * nI i).toInt64.toUInt64 &&& Int64.toUInt64 63)).toInt64).toInt32).toInt8.toInt32)
theorem k_appLoop {post : Int32 → (Nat → Int32) → Prop} {x : Int64} {row0 : Nat → Int32} {n c : Nat} (hc : c ≤ 8) (hn : n + c ≤ 4096) (h : ∀ row', (∀ j, j < n → row' j = row0 j) → (∀ j, j < c → row' (n + j) = byB x j) → post (nI (n + c)) row') : ∀ (d i : Nat) (row : Nat → Int32), i + d = c → (∀ j, j < n → row j = row0 j) → (∀ j, j < i → row (n + j) = byB x j) → w_T_append_3 post x (nI c) (d + 1) (nI i) (nI (n + i)) row := by
  intro d
  induction d with
  | zero =>
    intro i row hi h1 h2
    have hi : i = c := hi
    subst hi
    exact br_t (nI_le (Nat.le_refl _) (by omega)) (h row h1 h2)
  | succ d ih =>
    intro i row hi h1 h2
    refine pk_le c i (fun z => absurd z (by omega)) (fun _ => pk_le 4096 (n + i) (fun z => absurd z (by omega)) (fun _ => ?_) rfl rfl (by omega) (by omega)) rfl rfl (by omega) (by omega)
    rw [pk_cl (n + i) rfl (by omega)]
    refine ⟨pk_in (n + i) 4096 (by omega), nm_e (nm_r (nI_1 (n + i)) (nm_r (nI_1 i) ?_))⟩
    refine ih (i + 1) _ (by omega) (fun j hj => ?_) (fun j hj => ?_)
    · rw [pk_un (by omega)]
      exact h1 j hj
    · by_cases hj2 : j = i
      · subst hj2
        rw [pk_us]
        rfl
      · rw [pk_un (by omega)]
        exact h2 j (by omega)
theorem k_feed {post : Int32 → Int32 → (Nat → Int32) → Prop} {lA : Int64} {lP : Int32} {row : Nat → Int32} {n : Nat} {x : Int64} {c : Int32} (hn : n ≤ 4096) (hb : (c < 1 ∨ ¬ c ≤ 8) → post (-1) (nI n) row) (hf : ∀ k, 1 ≤ k → k ≤ 8 → c = nI k → 4096 < n + k → post (-2) (nI n) row) (hk : ∀ k, 1 ≤ k → k ≤ 8 → c = nI k → n + k ≤ 4096 → ∀ row', (∀ j, j < n → row' j = row j) → (∀ j, j < k → row' (n + j) = byB x j) → post (nI (n + k)) (nI (n + k)) row') : wp_M_feed post lA lP (nI n) row x c := by
  unfold wp_M_feed
  refine br_c (fun c1 => hb (Or.inl c1)) (fun c1 => br_c (fun c2 => ?_) (fun c2 => hb (Or.inr c2)))
  obtain ⟨k, k1, k2⟩ := nI_of2 (M := 8) (n := 8) rfl (fun z => c1 (Int32.lt_of_lt_of_le z (by decide))) c2
  subst k2
  have k3 : 1 ≤ k := by
    cases k with
    | zero => exact absurd (by decide) c1
    | succ k => omega
  refine pk_le k (4096 - n) (fun c3 => ?_) (fun c3 => ?_) rfl (pk_sub (a := 4096) hn) (by omega) (by omega)
  · exact ⟨_, k_appLoop (post := fun a r => post a a r) k1 (by omega) (hk k k3 k1 rfl (by omega)) k 0 row (by omega) (fun _ _ => rfl) (fun j hj => absurd hj (by omega))⟩
  · exact hf k k3 k1 rfl (by omega)
theorem k_cut {post : Int32 → Int32 → Prop} {lA : Int64} {lP : Int32} {n : Nat} {c : Int32} (hn : n ≤ 4096) (hb : (c < 0 ∨ ¬ c ≤ nI n) → post (-1) (nI n)) (hk : ∀ k, k ≤ n → c = nI k → post (nI (n - k)) (nI k)) : wp_M_cut post lA lP (nI n) c := by
  unfold wp_M_cut
  refine br_c (fun c1 => hb (Or.inl c1)) (fun c1 => br_c (fun c2 => ?_) (fun c2 => hb (Or.inr c2)))
  obtain ⟨k, k1, k2⟩ := nI_of2 (M := nI n) (n := n) (nI_toInt (by omega)) c1 c2
  subst k2
  exact nm_r (pk_sub k1) (hk k k1 rfl)
theorem tkl_ix {b : Nat → Int32} {n : Nat} : ∀ (e k k' p : Nat), e < k → e < k' → (tkl b n k p)[e]? = (tkl b n k' p)[e]? := by
  intro e
  induction e with
  | zero =>
    intro k k' p h1 h2
    cases k with
    | zero => omega
    | succ k =>
      cases k' with
      | zero => omega
      | succ k' =>
        rw [tkl, tkl]
        split <;> rfl
  | succ e ih =>
    intro k k' p h1 h2
    cases k with
    | zero => omega
    | succ k =>
      cases k' with
      | zero => omega
      | succ k' =>
        rw [tkl, tkl]
        split
        · exact ih k k' _ (by omega) (by omega)
        · rfl
/-- token(i, what) -/
def tkA (b : Nat → Int32) (n : Nat) (i w : Int32) : Int32 := if w < 0 then -1 else (if 2 < w then -1 else (if i < 0 then -1 else (if i < 4096 then (match (tkl b n 4096 0)[i.toNatClampNeg]? with
  | some x => tkW x w
  | none => -1) else -1)))
theorem k_token {post : Int32 → Int32 → Int32 → Int32 → Int32 → Int32 → Prop} {row : Nat → Int32} {n : Nat} {lA : Int64} {lP start fin kind oT oC i w : Int32} (hn : n ≤ 4096) (h : ∀ s f k t c, post (tkA (tb row n) n i w) s f k t c) : wp_M_token post lA lP (nI n) row start fin kind oT oC i w := by
  unfold wp_M_token wp_W_restart
  unfold tkA at h
  refine br_c (fun c1 => ?_) (fun c1 => br_c (fun c2 => ?_) (fun c2 => br_c (fun c3 => ?_) (fun c3 => br_c (fun c4 => ?_) (fun c4 => ?_))))
  · rw [if_pos c1] at h
    exact h _ _ _ _ _
  · rw [if_neg c1, if_pos c2] at h
    exact h _ _ _ _ _
  · rw [if_neg c1, if_neg c2, if_pos c3] at h
    exact h _ _ _ _ _
  · rw [if_neg c1, if_neg c2, if_neg c3, if_pos c4] at h
    obtain ⟨j, j1, j2⟩ := nI_of c3
    subst j2
    have j3 : j < 4096 := (nI_ltI (b := 4096) j1 (by omega)).mp c4
    rw [nI_clamp j1] at h
    refine ⟨_, k_tokenLoop hn j3 (j + 1) 0 0 _ _ _ _ (0, 0, 0) (by omega) (by omega) noted_0 (fun z => absurd z (by omega)) (fun y s f k t c _ hy => ?_) (fun s f k t c hy _ => ?_)⟩
    · have hy := hy j rfl
      rw [tkl_ix j (j + 1) 4096 0 (by omega) j3] at hy
      rw [hy] at h
      exact h s f k t c
    · have hy := hy j rfl
      rw [tkl_ix j (j + 1) 4096 0 (by omega) j3] at hy
      rw [hy] at h
      exact h s f k t c
  · rw [if_neg c1, if_neg c2, if_neg c3, if_neg c4] at h
    exact h _ _ _ _ _
