/-! the reference's tokens(), token(), feed and cut -/
theorem blE_in' {st : Nat → Int32} {n p : Nat} (h : p < n) (c : ¬ f_W_isBlank (tb st n p) = 0) : blE (tb st n) n p = blE (tb st n) n (p + 1) := by
  rw [blE, dif_pos h, if_neg c]
theorem tkl_skip {st : Nat → Int32} {n p k : Nat} (h : p < n) (c : ¬ f_W_isBlank (tb st n p) = 0) : tkl (tb st n) n k p = tkl (tb st n) n k (p + 1) := by
  cases k with
  | zero => rfl
  | succ k => rw [tkl, tkl, blE_in' h c]
theorem tkl_here {st : Nat → Int32} {n p k : Nat} (h : p < n) (c : f_W_isBlank (tb st n p) = 0) : tkl (tb st n) n (k + 1) p = (p, tokE (tb st n) n p) :: tkl (tb st n) n k (tokE (tb st n) n p).1 := by
  have e : blE (tb st n) n p = p := by rw [blE, dif_pos h, if_pos c]
  rw [tkl, e, if_pos h]
theorem tkl_end {b : Nat → Int32} {n p k : Nat} (h : n ≤ p) : tkl b n k p = [] := by
  cases k with
  | zero => rfl
  | succ k =>
    have e : blE b n p = p := by rw [blE, dif_neg (by omega)]
    rw [tkl, e, if_neg (by omega)]
/-- the two rows of the reference hold the tokens L -/
def tkR (L : List (Nat × Nat × Int32)) (tA tS : Nat → Int32) : Prop := ∀ i x, L[i]? = some x → tA i = nI x.1 ∧ tS i = nI (x.2.1 - x.1)
theorem r_isB {post : Int32 → Prop} {st : Nat → Int32} {n i : Nat} (h : post (f_W_isBlank (tb st n i))) : wp_R_isBlank post (tb st n i) := by
  refine q_R_isBlank ?_
  obtain ⟨v, h1, h2⟩ := tb_dom (st := st) (n := n) (i := i)
  rw [h2] at h ⊢
  rw [ch_blank v h1]
  exact h
theorem r_cutLoop {post : Int32 → (Nat → Int32) → (Nat → Int32) → Prop} {st : Nat → Int32} {n : Nat} {rv : Int64} {ip lk bd bz ir rp hd : Int32} {LL : List (Nat × Nat × Int32)} (hn : n ≤ 4096) (hb : bys st) (h : ∀ tA tS, tkR LL tA tS → post (nI LL.length) tA tS) : ∀ (d p c : Nat) (tA tS : Nat → Int32) (P : List (Nat × Nat × Int32)), n - p ≤ d → c ≤ p → p ≤ n → P.length = c → tkR P tA tS → P ++ tkl (tb st n) n (4096 - c) p = LL → w_R_cutAll_7 post (nI n) rv ip lk bd bz ir rp hd st (d + 1) (nI p) (nI c) tA tS := by
  intro d
  induction d with
  | zero =>
    intro p c tA tS P hp hc hp2 hP hR hL
    rw [tkl_end (by omega), List.append_nil] at hL
    subst hL
    refine br_t (nI_le (by omega) (by omega)) ?_
    rw [← hP]
    exact h tA tS hR
  | succ d ih =>
    intro p c tA tS P hp hc hp2 hP hR hL
    refine pk_le n p (fun z => ?_) (fun z => ?_) rfl rfl (by omega) (by omega)
    · rw [tkl_end (by omega), List.append_nil] at hL
      subst hL
      rw [← hP]
      exact h tA tS hR
    · have et : st (nI p).toNatClampNeg &&& 255 = tb st n p := by
        rw [pk_cl p rfl (by omega)]
        unfold tb
        rw [if_pos z]
      rw [et]
      refine ⟨pk_in p 4096 (by omega), r_isB (br_c (fun c1 => ?_) (fun c1 => ?_))⟩
      · have hc4 := pk_in c 4096 (by omega) rfl
        rw [show 4096 - c = (4096 - (c + 1)) + 1 by omega, tkl_here z c1] at hL
        have hle := tokE_le (st := st) z
        rw [pk_cl c rfl (by omega)]
        refine ⟨hc4, nm_e (r_size hn hb z ⟨hc4, nm_e ⟨hc4, ?_⟩⟩)⟩
        rw [pk_us, pk_sub (by omega), nI_add, show p + ((tokE (tb st n) n p).1 - p) = (tokE (tb st n) n p).1 by omega]
        refine nm_e (nm_r (nI_1 c) (ih _ (c + 1) _ _ (P ++ [(p, tokE (tb st n) n p)]) (by omega) (by omega) hle.2 (by rw [List.length_append, hP]; rfl) ?_ (by rw [List.append_assoc]; exact hL)))
        intro i x hx
        by_cases hi : i = c
        · subst hi
          rw [List.getElem?_append_right (by omega), hP, Nat.sub_self] at hx
          cases hx
          rw [pk_us, pk_us]
          exact ⟨rfl, rfl⟩
        · rw [pk_un hi, pk_un hi]
          refine hR i x ?_
          by_cases hi2 : i < P.length
          · rw [List.getElem?_append_left hi2] at hx
            exact hx
          · rw [List.getElem?_append_right (by omega)] at hx
            rw [List.getElem?_eq_none (by simp; omega)] at hx
            cases hx
      · rw [tkl_skip z c1] at hL
        exact nm_r (nI_1 p) (ih (p + 1) c tA tS P (by omega) (by omega) (by omega) hP hR hL)
theorem r_cutAll {post : Int32 → (Nat → Int32) → (Nat → Int32) → Prop} {st tA tS : Nat → Int32} {n : Nat} {rv : Int64} {ip cn lk bd bz ir rp hd : Int32} (hn : n ≤ 4096) (hb : bys st) (h : ∀ tA tS, tkR (tkl (tb st n) n 4096 0) tA tS → post (nI (tkl (tb st n) n 4096 0).length) tA tS) : wp_R_cutAll post (nI n) rv ip cn lk bd bz ir rp hd st tA tS := ⟨_, r_cutLoop hn hb h n 0 0 tA tS [] (by omega) (by omega) (by omega) rfl (fun i x hx => by simp at hx) rfl⟩
/-- each token of the list is the one at its begin -/
theorem tkl_at {st : Nat → Int32} {n : Nat} : ∀ (k p : Nat) (x : Nat × Nat × Int32), x ∈ tkl (tb st n) n k p → x.1 < n ∧ x.2 = tokE (tb st n) n x.1 := by
  intro k
  induction k with
  | zero => intro p x hx; cases hx
  | succ k ih =>
    intro p x hx
    rw [tkl] at hx
    split at hx
    · rename_i c
      rcases List.mem_cons.mp hx with hx | hx
      · subst hx
        exact ⟨c, rfl⟩
      · exact ih _ x hx
    · cases hx
theorem tkl_len {st : Nat → Int32} {n : Nat} : ∀ (k p : Nat), p ≤ n → (tkl (tb st n) n k p).length ≤ n - p := by
  intro k
  induction k with
  | zero => intro p hp; exact Nat.zero_le _
  | succ k ih =>
    intro p hp
    rw [tkl]
    split
    · rename_i c
      have h1 := blE_in (b := tb st n) (n := n) _ p (Nat.le_refl _)
      have h2 := tokE_le (st := st) c
      have h3 := ih _ h2.2
      rw [List.length_cons]
      omega
    · exact Nat.zero_le _
/-- kindOf, by the first byte and the second -/
def kdQ (a nx : Int32) : Int32 := if a = 76 ∧ (nx = 34 ∨ nx = 39) then nx else (if nx < 0 then -1 else a)
def kdG (q a nx : Int32) : Int32 := if q = 34 then 3 else (if q = 39 then 4 else (if ¬ f_W_isLetter a = 0 then 1 else (if ¬ f_W_isDigit a = 0 ∨ (a = 46 ∧ ¬ f_W_isDigit nx = 0) then 2 else (if ¬ nx < 0 ∨ ¬ oneOf 3 a = 0 then 5 else 6))))
def kdF (a nx : Int32) : Int32 := kdG (kdQ a nx) a nx
theorem r_kind27 {post : Int32 → Prop} {st tA tS : Nat → Int32} {n s i : Nat} {nx rs : Int32} {rv : Int64} {ip cn lk bd bz ir rp hd : Int32} (hx : nx = tb st n i) (h : post (kdF (tb st n s) nx)) : w_R_kindOf_27 post (tb st n s) nx rs rv ip cn lk bd bz ir rp hd st tA tS := by
  have v1 : kdF (tb st n s) nx = 1 → post 1 := fun e => by rw [e] at h; exact h
  have v2 : kdF (tb st n s) nx = 2 → post 2 := fun e => by rw [e] at h; exact h
  have v3 : kdF (tb st n s) nx = 3 → post 3 := fun e => by rw [e] at h; exact h
  have v4 : kdF (tb st n s) nx = 4 → post 4 := fun e => by rw [e] at h; exact h
  have v5 : kdF (tb st n s) nx = 5 → post 5 := fun e => by rw [e] at h; exact h
  have v6 : kdF (tb st n s) nx = 6 → post 6 := fun e => by rw [e] at h; exact h
  have nn : (0 : Int32) ≤ nx ↔ ¬ nx < 0 := Int32.not_lt.symm
  clear h
  subst hx
  unfold w_R_kindOf_27 w_R_kindOf_59
  repeat' first | with_reducible refine r_one (by decide) ?_ | with_reducible refine r_isD ?_ | with_reducible refine r_isL ?_ | with_reducible refine br_c (fun _ => ?_) (fun _ => ?_)
  all_goals first
    | (refine v1 ?_; grind [kdF, kdG, kdQ])
    | (refine v2 ?_; grind [kdF, kdG, kdQ])
    | (refine v3 ?_; grind [kdF, kdG, kdQ])
    | (refine v4 ?_; grind [kdF, kdG, kdQ])
    | (refine v5 ?_; grind [kdF, kdG, kdQ])
    | (refine v6 ?_; grind [kdF, kdG, kdQ])
