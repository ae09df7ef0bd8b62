/-! characterOf: what a character stands for -/
theorem tk_in {st : Nat → Int32} {n j : Nat} {x : Nat × Nat × Int32} (hx : (TK (tb st n) n)[j]? = some x) : x.1 < n ∧ x.2 = tokE (tb st n) n x.1 ∧ x.1 < x.2.1 ∧ x.2.1 ≤ n ∧ j < n := by
  obtain ⟨h1, h2⟩ := tkl_at _ _ x (List.mem_of_getElem? hx)
  have hle := tokE_le (st := st) h1
  rw [← h2] at hle
  have h3 := (List.getElem?_eq_some_iff.mp hx).1
  have h4 := tkl_len (st := st) (n := n) 4096 0 (by omega)
  exact ⟨h1, h2, hle.1, hle.2, Nat.lt_of_lt_of_le h3 (by unfold TK; omega)⟩
theorem r_byteOf {post : Int32 → Prop} {st tA tS : Nat → Int32} {n j : Nat} {x : Nat × Nat × Int32} {rs : Int32} {rv : Int64} {ip cn lk bd bz ir rp hd : Int32} (k : Nat) {kk : Int32} (hn : n ≤ 4096) (hR : tkR (TK (tb st n) n) tA tS) (hx : (TK (tb st n) n)[j]? = some x) (hk : k < x.2.1 - x.1) (hkk : kk = nI k) (h : post (tb st n (x.1 + k))) : wp_R_byteOf post rs rv ip cn lk bd bz ir rp hd st tA (nI j) kk := by
  obtain ⟨h1, h2, h3, h4, h5⟩ := tk_in hx
  obtain ⟨e3, e4⟩ := hR j x hx
  subst hkk
  unfold wp_R_byteOf
  rw [pk_cl j rfl (by omega), e3, nI_add, pk_cl (x.1 + k) rfl (by omega)]
  have et : st (x.1 + k) &&& 255 = tb st n (x.1 + k) := by unfold tb; rw [if_pos (by omega)]
  rw [et]
  exact ⟨pk_in j 4096 (by omega) rfl, pk_in (x.1 + k) 4096 (by omega) rfl, h⟩
theorem chr3 {st : Nat → Int32} {n s e : Nat} (h : (e, (4 : Int32)) = tokE (tb st n) n s) (h3 : e = s + 3) (h39 : tb st n s = 39) : ¬ tb st n (s + 1) = 92 := by
  intro h92
  have hq : quP (tb st n) s = s := by unfold quP; rw [if_neg (by rw [h39]; decide)]
  unfold tokE quo at h
  rw [hq, if_neg (by rw [h39]; decide), if_pos h39] at h
  cases hc : clo (tb st n) 39 n (s + 1) with
  | some e' =>
    rw [hc] at h
    have he : e = e' + 1 := (congrArg Prod.fst h)
    rw [clo] at hc
    split at hc
    · rw [if_neg (by rw [h92]; decide), if_neg (by rw [h92]; decide)] at hc
      split at hc
      · rename_i c
        rw [clo] at hc
        split at hc
        · rw [if_neg (by rw [c]; decide)] at hc
          cases hc
        · cases hc
      · have := (clo_lt n (s + 1 + 2) e' (by omega) hc).1
        omega
    · cases hc
  | none =>
    rw [hc] at h
    have h4 := congrArg Prod.snd h
    dsimp only at h4
    split at h4
    · split at h4
      · split at h4
        · exact absurd (show (4 : Int32) = 6 from h4) (by decide)
        · exact absurd (show (4 : Int32) = 5 from h4) (by decide)
      · exact absurd (show (4 : Int32) = 2 from h4) (by decide)
    · exact absurd (show (4 : Int32) = 1 from h4) (by decide)
theorem r_esc {post : Int64 → Int32 → Prop} {z bd : Int32} {st tA tS : Nat → Int32} {rs : Int32} {rv : Int64} {ip cn lk bz ir rp hd : Int32} (h1 : ¬ (f_L_escaped z).toInt64 = -1 → post (f_L_escaped z).toInt64 bd) (h0 : (f_L_escaped z).toInt64 = -1 → post 0 1) : w_R_characterOf_89 post z rs rv ip cn lk bd bz ir rp hd st tA tS := by
  unfold w_R_characterOf_89
  unfold f_L_escaped at h1 h0
  refine br_c (fun c => ?_) (fun c => ?_)
  · rw [if_pos c] at h1
    exact h1 (by rw [c]; decide)
  rw [if_neg c] at h1 h0
  refine br_c (fun c => ?_) (fun c => ?_)
  · rw [if_pos c] at h1
    exact h1 (by rw [c]; decide)
  rw [if_neg c] at h1 h0
  refine br_c (fun c => ?_) (fun c => ?_)
  · rw [if_pos c] at h1
    exact h1 (by decide)
  rw [if_neg c] at h1 h0
  refine br_c (fun c => ?_) (fun c => ?_)
  · rw [if_pos c] at h1
    exact h1 (by rw [c]; decide)
  rw [if_neg c] at h1 h0
  refine br_c (fun c => ?_) (fun c => ?_)
  · rw [if_pos c] at h1
    exact h1 (by rw [c]; decide)
  rw [if_neg c] at h1 h0
  refine br_c (fun c => ?_) (fun c => ?_)
  · rw [if_pos c] at h1
    exact h1 (by decide)
  rw [if_neg c] at h1 h0
  refine br_c (fun c => ?_) (fun c => ?_)
  · rw [if_pos c] at h1
    exact h1 (by decide)
  rw [if_neg c] at h1 h0
  refine br_c (fun c => ?_) (fun c => ?_)
  · rw [if_pos c] at h1
    exact h1 (by decide)
  rw [if_neg c] at h1 h0
  refine br_c (fun c => ?_) (fun c => ?_)
  · rw [if_pos c] at h1
    exact h1 (by decide)
  rw [if_neg c] at h1 h0
  refine br_c (fun c => ?_) (fun c => ?_)
  · rw [if_pos c] at h1
    exact h1 (by decide)
  rw [if_neg c] at h1 h0
  refine br_c (fun c => ?_) (fun c => ?_)
  · rw [if_pos c] at h1
    exact h1 (by decide)
  rw [if_neg c] at h1 h0
  refine br_c (fun c => ?_) (fun c => ?_)
  · rw [if_pos c] at h1
    exact h1 (by decide)
  rw [if_neg c] at h1 h0
  exact h0 (by decide)
theorem r_char {post : Int64 → Int32 → Prop} {st tA tS : Nat → Int32} {n j : Nat} {x : Nat × Nat × Int32} {rs : Int32} {rv : Int64} {ip cn lk bd bz ir rp hd : Int32} (hn : n ≤ 4096) (hR : tkR (TK (tb st n) n) tA tS) (hx : (TK (tb st n) n)[j]? = some x) (hk : x.2.2 = 4) (h1 : ∀ v, chV (tb st n) x.1 x.2.1 = some (v, 0) → post v bd) (h0 : chV (tb st n) x.1 x.2.1 = none → post 0 1) : wp_R_characterOf post rs rv ip cn lk bd bz ir rp hd st tA tS (nI j) := by
  obtain ⟨g1, g2, g3, g4, g5⟩ := tk_in hx
  obtain ⟨e3, e4⟩ := hR j x hx
  have es : nI x.2.1 - nI x.1 = nI (x.2.1 - x.1) := pk_sub (by omega)
  have no : (chV (tb st n) x.1 x.2.1 = none) → w_R_characterOf_89 post (-1) rs rv ip cn lk bd bz ir rp hd st tA tS := fun z => r_esc (fun y => absurd (by decide) y) (fun _ => h0 z)
  have n39 : ¬ tb st n x.1 = 39 → chV (tb st n) x.1 x.2.1 = none := fun z => by unfold chV; rw [if_neg z]
  have b0 : ∀ {q : Int32 → Prop}, q (tb st n x.1) → wp_R_byteOf q rs rv ip cn lk bd bz ir rp hd st tA (nI j) 0 := fun z => r_byteOf 0 hn hR hx (by omega) rfl z
  unfold wp_R_characterOf
  rw [pk_cl j rfl (by omega), e4]
  refine ⟨pk_in j 4096 (by omega) rfl, nm_e (pk_eq (x.2.1 - x.1) 3 (fun c3 => b0 (br_c (fun c => ?_) (fun c => ?_))) (fun c3 => ?_) rfl rfl (by omega) (by omega))⟩
  · have c92 := chr3 (e := x.2.1) (by rw [← g2, ← hk]) (by omega) c
    refine r_byteOf 1 hn hR hx (by omega) rfl (br_f c92 (br_f (by decide) (r_byteOf 1 hn hR hx (by omega) rfl (h1 _ ?_))))
    unfold chV
    rw [if_pos c, if_pos (by rw [es, c3]; rfl)]
  · exact br_t rfl (pk_eq (x.2.1 - x.1) 4 (fun z => absurd z (by omega)) (fun _ => no (n39 c)) rfl rfl (by omega) (by omega))
  · have n3 : ¬ nI x.2.1 - nI x.1 = 3 := by
      rw [es]
      exact fun z => c3 ((nI_eq (by omega) (b := 3) (by omega)).mp z)
    refine br_t rfl (pk_eq (x.2.1 - x.1) 4 (fun c4 => b0 (br_c (fun c => ?_) (fun c => no (n39 c)))) (fun c4 => no ?_) rfl rfl (by omega) (by omega))
    · have i4 : nI x.2.1 - nI x.1 = 4 := by rw [es, c4]; rfl
      refine r_byteOf 1 hn hR hx (by omega) rfl (br_c (fun c5 => r_byteOf 2 hn hR hx (by omega) rfl ?_) (fun c5 => no ?_))
      · unfold chV at h1 h0
        rw [if_pos c, if_neg n3, if_pos i4, if_pos c5] at h0
        refine r_esc (fun z => h1 _ ?_) (fun z => h0 ?_)
        · rw [if_pos c, if_neg n3, if_pos i4, if_pos c5, if_neg z]
        · rw [if_pos z]
      · unfold chV
        rw [if_pos c, if_neg n3, if_pos i4, if_neg c5]
    · have n4 : ¬ nI x.2.1 - nI x.1 = 4 := by
        rw [es]
        exact fun z => c4 ((nI_eq (by omega) (b := 4) (by omega)).mp z)
      unfold chV
      by_cases c : tb st n x.1 = 39
      · rw [if_pos c, if_neg n3, if_neg n4]
      · rw [if_neg c]
