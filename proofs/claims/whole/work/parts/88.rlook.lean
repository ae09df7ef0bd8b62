/-! the token ahead: look, goOn, operatorHere, strengthOf, isNeeded -/
/-- where look stands at token i of N -/
def lkA (N i : Nat) : Int32 := if i < N then nI i else -1
/-- the tokens of a text -/
abbrev TK (b : Nat → Int32) (n : Nat) : List (Nat × Nat × Int32) := tkl b n 4096 0
/-- what is left at token i, as the course takes it -/
def tsA (b : Nat → Int32) (n i : Nat) : List Tok := ((TK b n).drop i).map (tkT b)
/-- the code of the token ahead -/
def cdA (ts : List Tok) : Int32 := match ts with
  | [] => 0
  | t :: _ => tkC t
theorem tsA_end {b : Nat → Int32} {n i : Nat} (h : (TK b n).length ≤ i) : tsA b n i = [] := by
  unfold tsA
  rw [List.drop_eq_nil_iff.mpr h]
  rfl
theorem tsA_at {b : Nat → Int32} {n i : Nat} {x : Nat × Nat × Int32} (h : (TK b n)[i]? = some x) : tsA b n i = tkT b x :: tsA b n (i + 1) := by
  unfold tsA
  obtain ⟨h1, h2⟩ := List.getElem?_eq_some_iff.mp h
  rw [List.drop_eq_getElem_cons h1, h2]
  rfl
theorem TK_len {st : Nat → Int32} {n : Nat} (hn : n ≤ 4096) : (TK (tb st n) n).length ≤ 4096 := Nat.le_trans (tkl_len (st := st) (n := n) 4096 0 (by omega)) (by omega)
theorem r_is {post : Int32 → Prop} {st tA tS : Nat → Int32} {n q i : Nat} {x rs : Int32} {rv : Int64} {ip cn lk bd bz ir rp hd : Int32} (hq : q < NS) (hq4 : 4 ≤ q) (hn : n ≤ 4096) (hR : tkR (TK (tb st n) n) tA tS) (hx : x = lkA (TK (tb st n) n).length i) (h : post (if cdA (tsA (tb st n) n i) = cod q then 1 else 0)) : wp_R_is post rs rv ip cn lk bd bz ir rp hd st tA tS x q := by
  subst hx
  unfold lkA
  by_cases c : i < (TK (tb st n) n).length
  · rw [if_pos c]
    have hx := List.getElem?_eq_getElem c
    obtain ⟨e1, e2⟩ := tkl_at _ _ _ (List.mem_of_getElem? hx)
    have ic := is_code (st := st) (n := n) hq hq4 e1 e2
    rw [tsA_at hx] at h
    refine r_isAt hq hn hR hx (fun a1 a2 => ?_) (fun a => ?_)
    · have e : cdA (tkT (tb st n) (TK (tb st n) n)[i] :: tsA (tb st n) n (i + 1)) = cod q := ic.mp ⟨a1, a2⟩
      rw [if_pos e] at h
      exact h
    · have e : ¬ cdA (tkT (tb st n) (TK (tb st n) n)[i] :: tsA (tb st n) n (i + 1)) = cod q := fun z => a (ic.mpr z)
      rw [if_neg e] at h
      exact h
  · rw [if_neg c]
    rw [tsA_end (by omega), if_neg (fun z => cod_0 q hq hq4 z.symm)] at h
    exact r_isNo hq h
theorem r_goOn {post : Int32 → Prop} {N i : Nat} {rs : Int32} {rv : Int64} {ip bd bz ir rp hd : Int32} (hN : N ≤ 4096) (hi : i < N) (h : post (lkA N (i + 1))) : wp_R_goOn post rs rv ip (nI N) (lkA N i) bd bz ir rp hd := by
  unfold wp_R_goOn lkA
  rw [if_pos hi]
  unfold lkA at h
  refine br_f (nI_pos (by omega)) (pk_le N (i + 1) (fun c => ?_) (fun c => nm_r (nI_1 i) ?_) rfl (nI_1 i) (by omega) (by omega))
  · rw [if_neg (by omega)] at h
    exact h
  · rw [if_pos c] at h
    exact h
/-- goOn, wherever look stands: it stays a place or -1 -/
theorem r_goOnAny {post : Int32 → Prop} {N i : Nat} {rs : Int32} {rv : Int64} {ip bd bz ir rp hd : Int32} (hN : N ≤ 4096) (h : ∀ j, post (lkA N j)) : wp_R_goOn post rs rv ip (nI N) (lkA N i) bd bz ir rp hd := by
  by_cases hi : i < N
  · exact r_goOn hN hi (h _)
  · unfold wp_R_goOn lkA
    rw [if_neg hi]
    have := h N
    unfold lkA at this
    rw [if_neg (by omega)] at this
    exact br_t (by decide) this
/-- the String of operator k -/
def sgn (k : Nat) : Nat := [10, 11, 12, 13, 14, 15, 16, 17, 18, 19, 20, 21, 22, 5, 6, 23, 24, 25].getD k 25
theorem sgn_in : ∀ k, k < 18 → sgn k < 28 ∧ 4 ≤ sgn k := by decide +kernel
theorem r_signOf {post : Nat → Prop} {k : Nat} (hk : k < 18) (h : post (sgn k)) : wp_R_signOf post (nI k) := by
  unfold wp_R_signOf
  rcases (show k = 0 ∨ k = 1 ∨ k = 2 ∨ k = 3 ∨ k = 4 ∨ k = 5 ∨ k = 6 ∨ k = 7 ∨ k = 8 ∨ k = 9 ∨ k = 10 ∨ k = 11 ∨ k = 12 ∨ k = 13 ∨ k = 14 ∨ k = 15 ∨ k = 16 ∨ k = 17 by omega) with rfl | rfl | rfl | rfl | rfl | rfl | rfl | rfl | rfl | rfl | rfl | rfl | rfl | rfl | rfl | rfl | rfl | rfl
  all_goals (repeat first | exact br_t (by decide) h | refine br_f (by decide) ?_ | exact h)
/-- which operator has code c, among the first k -/
def opF (c : Int32) : Nat → Int32
  | 0 => -1
  | k + 1 => if c = cod (sgn k) then nI k else opF c k
theorem r_operLoop {post : Int32 → Prop} {st tA tS : Nat → Int32} {n i : Nat} {rs : Int32} {rv : Int64} {ip cn bd bz ir rp hd : Int32} (hn : n ≤ 4096) (hR : tkR (TK (tb st n) n) tA tS) (h : post (opF (cdA (tsA (tb st n) n i)) 18)) : ∀ (d k : Nat), k + d = 18 → w_R_operatorHere_4 post rs rv ip cn (lkA (TK (tb st n) n).length i) bd bz ir rp hd st tA tS (d + 1) (opF (cdA (tsA (tb st n) n i)) k) (nI k) := by
  intro d
  induction d with
  | zero =>
    intro k hk
    have hk : k = 18 := hk
    subst hk
    exact br_t (by decide) h
  | succ d ih =>
    intro k hk
    have hs := sgn_in k (by omega)
    refine pk_le 18 k (fun z => absurd z (by omega)) (fun _ => r_signOf (by omega) (r_is hs.1 hs.2 hn hR rfl ?_)) rfl rfl (by omega) (by omega)
    by_cases c : cdA (tsA (tb st n) n i) = cod (sgn k)
    · rw [if_pos c]
      have := ih (k + 1) (by omega)
      rw [opF, if_pos c] at this
      exact br_f (by decide) (nm_r (nI_1 k) this)
    · rw [if_neg c]
      have := ih (k + 1) (by omega)
      rw [opF, if_neg c] at this
      exact br_t rfl (nm_r (nI_1 k) this)
theorem r_operatorHere {post : Int32 → Prop} {st tA tS : Nat → Int32} {n i : Nat} {rs : Int32} {rv : Int64} {ip cn bd bz ir rp hd : Int32} (hn : n ≤ 4096) (hR : tkR (TK (tb st n) n) tA tS) (h : post (opF (cdA (tsA (tb st n) n i)) 18)) : wp_R_operatorHere post rs rv ip cn (lkA (TK (tb st n) n).length i) bd bz ir rp hd st tA tS := ⟨_, r_operLoop hn hR h 18 0 rfl⟩
/-- the strength of operator k -/
def stN (k : Nat) : Nat := [1, 2, 3, 4, 5, 6, 6, 7, 7, 7, 7, 8, 8, 9, 9, 10, 10, 10].getD k 10
theorem st_class : ∀ k, k < 18 → f_K_strengthOf (cod (sgn k)) = nI (stN k) ∧ 1 ≤ stN k ∧ stN k ≤ 10 ∧ ¬ cod (sgn k) = 41 ∧ ¬ cod (sgn k) = 58 ∧ ¬ cod (sgn k) = 63 := by decide +kernel
theorem r_eqSame {post : Int32 → Prop} {q : Nat} (hq : q < NS) (h : post 1) : wp_QJS_equals post q q := ⟨hq, hq, br_t rfl h⟩
set_option maxHeartbeats 4000000 in
theorem r_strength {post : Int32 → Prop} {k : Nat} (hk : k < 18) (h : post (nI (stN k))) : wp_R_strengthOf post (sgn k) := by
  unfold wp_R_strengthOf wp_QJS_hashCode
  rcases (show k = 0 ∨ k = 1 ∨ k = 2 ∨ k = 3 ∨ k = 4 ∨ k = 5 ∨ k = 6 ∨ k = 7 ∨ k = 8 ∨ k = 9 ∨ k = 10 ∨ k = 11 ∨ k = 12 ∨ k = 13 ∨ k = 14 ∨ k = 15 ∨ k = 16 ∨ k = 17 by omega) with rfl | rfl | rfl | rfl | rfl | rfl | rfl | rfl | rfl | rfl | rfl | rfl | rfl | rfl | rfl | rfl | rfl | rfl
  all_goals
    refine ⟨by decide, by decide, nm_e (br_f (by decide) ?_)⟩
    repeat first | refine br_f (by decide) ?_ | refine br_t (by decide) (r_eqSame (by decide) (br_f (by decide) ?_))
    repeat first | exact br_t (by decide) h | refine br_f (by decide) ?_ | exact h
