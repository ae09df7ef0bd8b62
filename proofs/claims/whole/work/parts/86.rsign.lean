/-! signs: the reference's is(..) and the class's codes -/
/-- the bytes of a String constant, packed as the class packs a sign -/
def cod (q : Nat) : Int32 := sgC (fun j => sch q j) 0 (slen q) 3 0 0
/-- whether the bytes from s on are those of String q -/
def same (b : Nat → Int32) (s q : Nat) : Nat → Prop
  | 0 => True
  | k + 1 => same b s q k ∧ b (s + k) = sch q k
theorem r_isLoop {post : Int32 → Prop} {st tA tS : Nat → Int32} {n q j s : Nat} {rs : Int32} {rv : Int64} {ip cn lk bd bz ir rp hd : Int32} (hq : q < NS) (hn : n ≤ 4096) (hj : j < 4096) (hA : tA j = nI s) (hs : s + slen q ≤ n) (h1 : same (tb st n) s q (slen q) → post 1) (h0 : ¬ same (tb st n) s q (slen q) → post 0) : ∀ (d k : Nat), slen q - k ≤ d → k ≤ slen q → same (tb st n) s q k → w_R_is_26 post q (nI j) rs rv ip cn lk bd bz ir rp hd st tA tS (d + 2) 1 (nI k) := by
  have hl := slen_le q hq
  have mono : ∀ e k, k + e = slen q → ¬ same (tb st n) s q (k + 1) → ¬ (k + 1 ≤ slen q ∧ same (tb st n) s q (slen q)) := by
    intro e
    have aux : ∀ m k, k ≤ m → same (tb st n) s q m → same (tb st n) s q k := by
      intro m
      induction m with
      | zero => intro k hk h; rw [Nat.le_zero.mp hk]; trivial
      | succ m ih =>
        intro k hk h
        by_cases e : k = m + 1
        · rw [e]; exact h
        · exact ih k (by omega) h.1
    intro k _ hn' z
    exact hn' (aux _ _ z.1 z.2)
  intro d
  induction d with
  | zero =>
    intro k hk hk2 hsm
    have e : k = slen q := by omega
    rw [e] at hsm
    refine br_f (by decide) (r_length hq (br_t (nI_le (by omega) (by omega)) ⟨Or.inr rfl, h1 hsm⟩))
  | succ d ih =>
    intro k hk hk2 hsm
    refine br_f (by decide) (r_length hq (pk_le (slen q) k (fun z => ?_) (fun z => ?_) rfl rfl (by omega) (by omega)))
    · have e : k = slen q := by omega
      rw [e] at hsm
      exact ⟨Or.inr rfl, h1 hsm⟩
    · unfold wp_R_byteOf
      rw [pk_cl j rfl (by omega), hA, nI_add, pk_cl (s + k) rfl (by omega)]
      have et : st (s + k) &&& 255 = tb st n (s + k) := by unfold tb; rw [if_pos (by omega)]
      rw [et]
      refine ⟨pk_in j 4096 hj, pk_in (s + k) 4096 (by omega), r_charAt hq z rfl (br_c (fun c => ?_) (fun c => ?_))⟩
      · exact nm_r (nI_1 k) (ih (k + 1) (by omega) (by omega) ⟨hsm, c⟩)
      · refine nm_r (nI_1 k) (br_t rfl ⟨Or.inl rfl, h0 (fun y => ?_)⟩)
        exact mono (slen q - k) k (by omega) (fun w => c w.2) ⟨by omega, y⟩
/-- is(c, q) at a token -/
theorem r_isAt {post : Int32 → Prop} {st tA tS : Nat → Int32} {n q j : Nat} {x : Nat × Nat × Int32} {rs : Int32} {rv : Int64} {ip cn lk bd bz ir rp hd : Int32} (hq : q < NS) (hn : n ≤ 4096) (hR : tkR (tkl (tb st n) n 4096 0) tA tS) (hx : (tkl (tb st n) n 4096 0)[j]? = some x) (h1 : x.2.1 - x.1 = slen q → same (tb st n) x.1 q (slen q) → post 1) (h0 : ¬ (x.2.1 - x.1 = slen q ∧ same (tb st n) x.1 q (slen q)) → post 0) : wp_R_is post rs rv ip cn lk bd bz ir rp hd st tA tS (nI j) q := by
  have hl := slen_le q hq
  obtain ⟨e1, e2⟩ := tkl_at _ _ x (List.mem_of_getElem? hx)
  obtain ⟨e3, e4⟩ := hR j x hx
  have hle := tokE_le (st := st) e1
  rw [← e2] at hle
  have hj : j < n := by
    have := (List.getElem?_eq_some_iff.mp hx).1
    have := tkl_len (st := st) (n := n) 4096 0 (by omega)
    omega
  unfold wp_R_is
  refine ⟨hq, br_f (nI_pos (by omega)) ⟨pk_in j 4096 (by omega), r_length hq ?_⟩⟩
  rw [pk_cl j rfl (by omega), e4]
  refine pk_eq (x.2.1 - x.1) (slen q) (fun c => ?_) (fun c => ?_) rfl rfl (by omega) (by omega)
  · exact ⟨_, r_isLoop hq hn (by omega) e3 (by omega) (h1 c) (fun z => h0 (fun y => z y.2)) (slen q) 0 (by omega) (by omega) trivial⟩
  · exact ⟨1, br_t rfl ⟨Or.inl rfl, h0 (fun y => c y.1)⟩⟩
theorem r_isNo {post : Int32 → Prop} {st tA tS : Nat → Int32} {q : Nat} {rs : Int32} {rv : Int64} {ip cn lk bd bz ir rp hd : Int32} (hq : q < NS) (h : post 0) : wp_R_is post rs rv ip cn lk bd bz ir rp hd st tA tS (-1) q := by
  unfold wp_R_is
  exact ⟨hq, br_t (by decide) ⟨1, br_t rfl ⟨Or.inl rfl, h⟩⟩⟩
/-- the Strings that are signs of a condition: one or two bytes -/
theorem sg_len : ∀ q, q < 28 → 4 ≤ q → (slen q = 1 ∨ slen q = 2) := by decide +kernel
/-- the first byte of such a String is neither letter nor digit nor point nor quote, and is a sign by itself -/
theorem sg_first : ∀ q, q < 28 → 4 ≤ q → f_W_isLetter (sch q 0) = 0 ∧ f_W_isDigit (sch q 0) = 0 ∧ ¬ sch q 0 = 46 ∧ ¬ sch q 0 = 34 ∧ ¬ sch q 0 = 39 ∧ ¬ sgl (sch q 0) = 0 ∧ ¬ sch q 0 = 76 := by decide +kernel
theorem pk1 : ∀ v, v < 256 → (0 : Int32) ||| (nI v <<< ((8 * nI 0) &&& 31)) = nI v := by decide +kernel
theorem pk2 : ∀ v, v < 256 → ∀ w, w < 256 → nI v ||| (nI w <<< ((8 * nI 1) &&& 31)) = nI (v + 256 * w) := by decide +kernel
