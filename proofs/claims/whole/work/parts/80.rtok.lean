/-! the reference's tokens, by the same words as the class's -/
theorem r_at {post : Int32 → Prop} {st : Nat → Int32} {n : Nat} (i : Nat) {x : Int32} (hn : n ≤ 4096) (hi : i < 2 ^ 31) (hx : x = nI i) (h : post (tb st n i)) : wp_R_byteAt post st x (nI n) := by
  subst hx
  unfold wp_R_byteAt
  refine pk_le n i (fun c => ?_) (fun c => ?_) rfl rfl (by omega) hi
  · rw [tb_out c] at h
    exact h
  · refine ⟨pk_in i 4096 (by omega), ?_⟩
    rw [pk_cl i rfl hi]
    unfold tb at h
    rw [if_pos c] at h
    exact h
/-- the char at k of a String constant -/
def sch (q k : Nat) : Int32 := sby q k &&& 255
theorem sch_in : ∀ q, q < 28 → ∀ k, k < slen q → (((sby q k) &&& 255).toUInt32 % 65536).toInt32 = sch q k ∧ narrow .char (.int (sch q k)) = .int (sch q k) := by decide +kernel
theorem slen_le : ∀ q, q < 28 → slen q ≤ 25 := by decide +kernel
theorem r_length {post : Int32 → Prop} {q : Nat} (hq : q < NS) (h : post (nI (slen q))) : wp_QJS_length post q := by
  unfold wp_QJS_length wp_QJS_coder
  refine ⟨hq, hq, br_f (by decide) ?_⟩
  have hl := slen_le q hq
  show post (nI (slen q) >>> ((0 : Int32) &&& 31))
  rw [sc_shr0 (by omega)]
  exact h
theorem r_charAt {post : Int32 → Prop} {q k : Nat} {x : Int32} (hq : q < NS) (hk : k < slen q) (hx : x = nI k) (h : post (sch q k)) : wp_QJS_charAt post q x := by
  subst hx
  have hl := slen_le q hq
  obtain ⟨e1, e2⟩ := sch_in q hq k hk
  unfold wp_QJS_charAt wp_QJS_isLatin1 wp_QJL_charAt wp_QJS_checkIndex wp_QJP_checkIndex
  refine ⟨hq, hq, br_f (by decide) (br_t rfl (br_f (by decide) ⟨hq, br_f (nI_pos (by omega)) (br_t (nI_lt hk (by omega)) ⟨pk_in k _ hk rfl (by omega), ?_⟩)⟩))⟩
  rw [pk_cl k rfl (by omega), e1]
  exact ⟨e2, e2, h⟩
/-- whether a byte stands in a String constant -/
def oneOf (q : Nat) (c : Int32) : Int32 := if (List.range (slen q)).any (fun j => decide (c = sch q j)) then 1 else 0
theorem r_oneLoop {post : Int32 → Prop} {q : Nat} {c : Int32} (hq : q < NS) (h : post (oneOf q c)) : ∀ (d k : Nat) (x : Int32), slen q - k ≤ d → k ≤ slen q → x = (if (List.range k).any (fun j => decide (c = sch q j)) then 1 else 0) → w_R_isOneOf_4 post q c (d + 1) x (nI k) := by
  have hl := slen_le q hq
  have hz : ∀ b : Bool, vz (if b then 1 else 0) := fun b => by cases b <;> simp [vz]
  intro d
  induction d with
  | zero =>
    intro k x hk hk2 hx
    unfold w_R_isOneOf_4
    refine r_length hq (br_t (nI_le (by omega) (by omega)) ?_)
    have e : k = slen q := by omega
    subst hx
    rw [e]
    exact ⟨hz _, h⟩
  | succ d ih =>
    intro k x hk hk2 hx
    unfold w_R_isOneOf_4
    refine r_length hq (pk_le (slen q) k (fun z => ?_) (fun z => ?_) rfl rfl (by omega) (by omega))
    · have e : k = slen q := by omega
      subst hx
      rw [e]
      exact ⟨hz _, h⟩
    · have step : ∀ y : Int32, y = (if (List.range (k + 1)).any (fun j => decide (c = sch q j)) then 1 else 0) → ∀ x3 : Int32, x3 = nI k + 1 → w_R_isOneOf_4 post q c (d + 1) y x3 := fun y hy => nm_r (nI_1 k) (ih (k + 1) y (by omega) (by omega) hy)
      have er : (List.range (k + 1)).any (fun j => decide (c = sch q j)) = ((List.range k).any (fun j => decide (c = sch q j)) || decide (c = sch q k)) := by
        rw [List.range_succ, List.any_append]
        simp
      refine br_c (fun c1 => ?_) (fun c1 => ?_)
      · have e0 : (List.range k).any (fun j => decide (c = sch q j)) = false := by
          cases hb : (List.range k).any (fun j => decide (c = sch q j)) with
          | false => rfl
          | true => rw [hb] at hx; rw [hx] at c1; exact absurd c1 (by decide)
        refine r_charAt hq z rfl (br_c (fun c2 => step 1 ?_) (fun c2 => step 0 ?_))
        · rw [er, e0, decide_eq_true c2]
          rfl
        · rw [er, e0, decide_eq_false c2]
          rfl
      · have e1 : (List.range k).any (fun j => decide (c = sch q j)) = true := by
          cases hb : (List.range k).any (fun j => decide (c = sch q j)) with
          | true => rfl
          | false => rw [hb] at hx; exact absurd hx c1
        refine step 1 ?_
        rw [er, e1]
        rfl
theorem r_one {post : Int32 → Prop} {q : Nat} {c : Int32} (hq : q < NS) (h : post (oneOf q c)) : wp_R_isOneOf post c q := ⟨hq, _, r_oneLoop hq h (slen q) 0 0 (by omega) (by omega) rfl⟩
/-- what is stored are bytes -/
def bys (st : Nat → Int32) : Prop := ∀ j, (st j).toInt8.toInt32 = st j
theorem bys_eq {st : Nat → Int32} (hb : bys st) {j v : Nat} (hv : v < 128) : st j = nI v ↔ st j &&& 255 = nI v := by
  have e : (nI v).toInt8.toInt32 = nI v := (show ∀ v, v < 128 → (nI v).toInt8.toInt32 = nI v by decide +kernel) v hv
  have := sc_eq (hb j) (n := v) (by omega)
  rw [e] at this
  exact this
/-- quotedEnd: behind the closing mark, or -1 -/
def qeE (b : Nat → Int32) (n p : Nat) : Int32 := match clo b (b p) n (p + 1) with
  | some e => nI (e + 1)
  | none => -1
theorem r_quLoop {post : Int32 → Prop} {st : Nat → Int32} {n : Nat} {m rs : Int32} {rv : Int64} {ip cn lk bd bz ir rp hd : Int32} (hn : n ≤ 4096) (hb : bys st) (hm : ¬ m = 10) : ∀ (d p : Nat), n - p ≤ d → p ≤ 4098 → (∀ e, clo (tb st n) m n p = some e → post (nI (e + 1))) → (clo (tb st n) m n p = none → post (-1)) → w_R_quotedEnd_16 post (nI n) m rs rv ip cn lk bd bz ir rp hd st (d + 1) (nI p) := by
  have out : ∀ p, p ≤ 4098 → n ≤ p → (clo (tb st n) m n p = none → post (-1)) → w_R_quotedEnd_99 post (nI n) m (nI p) rs rv ip cn lk bd bz ir rp hd st := by
    intro p hp hnp h0
    exact br_t (nI_le hnp (by omega)) (h0 (by rw [clo, dif_neg (by omega)]))
  intro d
  induction d with
  | zero =>
    intro p hp hp2 h1 h0
    exact br_t (nI_le (by omega) (by omega)) (out p hp2 (by omega) h0)
  | succ d ih =>
    intro p hp hp2 h1 h0
    refine pk_le n p (fun c => out p hp2 c h0) (fun c => ?_) rfl rfl (by omega) (by omega)
    have hi := pk_in p 4096 (by omega) rfl
    have e0 := clo.eq_def (tb st n) m n p
    rw [dif_pos c] at e0
    have et : tb st n p = st p &&& 255 := by unfold tb; rw [if_pos c]
    rw [et] at e0
    rw [pk_cl p rfl (by omega)]
    have ex : ∀ (P : Prop), (st p &&& 255 = m → post (nI p + 1)) → (¬ st p &&& 255 = m → post (-1)) → w_R_quotedEnd_99 post (nI n) m (nI p) rs rv ip cn lk bd bz ir rp hd st := by
      intro _ a1 a2
      unfold w_R_quotedEnd_99
      rw [pk_cl p rfl (by omega)]
      exact br_f (nI_ge c (by omega)) ⟨hi, br_c a1 a2⟩
    refine ⟨hi, br_c (fun c1 => ?_) (fun c1 => ⟨hi, br_c (fun c2 => ?_) (fun c2 => ⟨hi, br_c (fun c3 => ?_) (fun c3 => ?_)⟩)⟩)⟩
    · have c1' : st p &&& 255 = 10 := (bys_eq hb (v := 10) (by omega)).mp c1
      have c2 : ¬ st p &&& 255 = m := fun z => hm (by rw [← z]; exact c1')
      rw [if_neg c2, if_pos c1'] at e0
      exact ex True (fun z => absurd z c2) (fun _ => h0 e0)
    · rw [if_pos c2] at e0
      have := h1 p e0
      rw [← nI_1 p] at this
      exact ex True (fun _ => this) (fun z => absurd c2 z)
    · have c1' : ¬ st p &&& 255 = 10 := fun z => c1 ((bys_eq hb (v := 10) (by omega)).mpr z)
      have c3' : st p &&& 255 = 92 := (bys_eq hb (v := 92) (by omega)).mp c3
      rw [if_neg c2, if_neg c1', if_pos c3'] at e0
      refine pk_le n (p + 1) (fun c4 => ?_) (fun c4 => ?_) rfl (nI_1 p) (by omega) (by omega)
      · rw [tb_out c4, if_neg (by decide)] at e0
        refine nm_r (nI_1 p) (ih (p + 1) (by omega) (by omega) (fun e he => ?_) (fun _ => h0 ?_))
        · rw [clo, dif_neg (by omega)] at he
          cases he
        · rw [e0, clo, dif_neg (by omega)]
      · have et1 : tb st n (p + 1) = st (p + 1) &&& 255 := by unfold tb; rw [if_pos c4]
        rw [et1] at e0
        rw [pk_cl (p + 1) (nI_1 p) (by omega)]
        refine ⟨pk_in (p + 1) 4096 (by omega) (nI_1 p), br_c (fun c5 => ?_) (fun c5 => ?_)⟩
        · have c5' : st (p + 1) &&& 255 = 10 := (bys_eq hb (v := 10) (by omega)).mp c5
          rw [if_pos c5'] at e0
          exact nm_r (nI_1 p) (ih (p + 1) (by omega) (by omega) (fun e he => h1 e (by rw [e0]; exact he)) (fun he => h0 (by rw [e0]; exact he)))
        · have c5' : ¬ st (p + 1) &&& 255 = 10 := fun z => c5 ((bys_eq hb (v := 10) (by omega)).mpr z)
          rw [if_neg c5'] at e0
          exact nm_r (nI_add p 2) (ih (p + 2) (by omega) (by omega) (fun e he => h1 e (by rw [e0]; exact he)) (fun he => h0 (by rw [e0]; exact he)))
    · have c1' : ¬ st p &&& 255 = 10 := fun z => c1 ((bys_eq hb (v := 10) (by omega)).mpr z)
      have c3' : ¬ st p &&& 255 = 92 := fun z => c3 ((bys_eq hb (v := 92) (by omega)).mpr z)
      rw [if_neg c2, if_neg c1', if_neg c3'] at e0
      exact nm_r (nI_1 p) (ih (p + 1) (by omega) (by omega) (fun e he => h1 e (by rw [e0]; exact he)) (fun he => h0 (by rw [e0]; exact he)))
theorem r_quoted {post : Int32 → Prop} {st : Nat → Int32} {n p : Nat} {x rs : Int32} {rv : Int64} {ip cn lk bd bz ir rp hd : Int32} (hn : n ≤ 4096) (hb : bys st) (hp : p < n) (hm : ¬ tb st n p = 10) (hx : x = nI p) (h : post (qeE (tb st n) n p)) : wp_R_quotedEnd post rs rv ip cn lk bd bz ir rp hd st x (nI n) := by
  subst hx
  have et : tb st n p = st p &&& 255 := by unfold tb; rw [if_pos hp]
  unfold qeE at h
  rw [et] at h hm
  unfold wp_R_quotedEnd
  rw [pk_cl p rfl (by omega)]
  refine ⟨pk_in p 4096 (by omega), nm_e (nm_r (nI_1 p) ⟨_, r_quLoop hn hb hm (n - (p + 1)) (p + 1) (Nat.le_refl _) (by omega) (fun e he => ?_) (fun he => ?_)⟩)⟩
  · rw [he] at h
    exact h
  · rw [he] at h
    exact h
/-- signSize -/
def sgS (a b c : Int32) : Int32 := if a = 46 ∧ b = 46 ∧ c = 46 then 3 else (if (a = 60 ∨ a = 62) ∧ b = a ∧ c = 61 then 3 else (if (a = b ∧ ¬ oneOf 1 a = 0) ∨ (b = 61 ∧ ¬ oneOf 2 a = 0) ∨ (a = 45 ∧ b = 62) then 2 else 1))
theorem r_signSize {post : Int32 → Prop} {st : Nat → Int32} {n p : Nat} {x rs : Int32} {rv : Int64} {ip cn lk bd bz ir rp hd : Int32} (hn : n ≤ 4096) (hp : p ≤ 4100) (hx : x = nI p) (h : post (sgS (tb st n p) (tb st n (p + 1)) (tb st n (p + 2)))) : wp_R_signSize post rs rv ip cn lk bd bz ir rp hd st x (nI n) := by
  subst hx
  unfold wp_R_signSize
  refine r_at p hn (by omega) rfl (r_at (p + 1) hn (by omega) (nI_1 p) (r_at (p + 2) hn (by omega) (nI_add p 2) ?_))
  generalize tb st n p = a at h ⊢
  generalize tb st n (p + 1) = b at h ⊢
  generalize tb st n (p + 2) = c at h ⊢
  have v3 : sgS a b c = 3 → post 3 := fun e => by rw [e] at h; exact h
  have v2 : sgS a b c = 2 → post 2 := fun e => by rw [e] at h; exact h
  have v1 : sgS a b c = 1 → post 1 := fun e => by rw [e] at h; exact h
  clear h
  unfold w_R_signSize_56 w_R_signSize_83 w_R_signSize_126
  repeat' first | refine br_c (fun _ => ?_) (fun _ => ?_) | refine r_one (by decide) ?_
  all_goals first
    | (refine v3 ?_; grind [sgS])
    | (refine v2 ?_; grind [sgS])
    | (refine v1 ?_; grind [sgS])
