/-! the reckoner: its stacks as lists, the top first -/
def opl (sg st sk : Nat → Int32) : Nat → List (Int32 × Int32 × Int32)
  | 0 => []
  | w + 1 => (sg w, st w, sk w) :: opl sg st sk w
def vll (am : Nat → Int64) (pl : Nat → Int32) : Nat → List (Int64 × Int32)
  | 0 => []
  | h + 1 => (am h, pl h) :: vll am pl h
theorem opl_upd {sg st sk : Nat → Int32} {w : Nat} {x y z : Int32} : ∀ v, v ≤ w → opl (upd sg w x) (upd st w y) (upd sk w z) v = opl sg st sk v := by
  intro v
  induction v with
  | zero => intro _; rfl
  | succ v ih =>
    intro hv
    rw [opl, opl, ih (by omega), pk_un (by omega), pk_un (by omega), pk_un (by omega)]
theorem opl_push {sg st sk : Nat → Int32} {w : Nat} {x y z : Int32} : opl (upd sg w x) (upd st w y) (upd sk w z) (w + 1) = (x, y, z) :: opl sg st sk w := by
  rw [opl, opl_upd w (Nat.le_refl _), pk_us, pk_us, pk_us]
theorem vll_upd {am : Nat → Int64} {pl : Nat → Int32} {h : Nat} {x : Int64} {y : Int32} : ∀ v, v ≤ h → vll (vp_updL am h x) (upd pl h y) v = vll am pl v := by
  intro v
  induction v with
  | zero => intro _; rfl
  | succ v ih =>
    intro hv
    rw [vll, vll, ih (by omega), pk_uLn (by omega), pk_un (by omega)]
theorem vll_push {am : Nat → Int64} {pl : Nat → Int32} {h : Nat} {x : Int64} {y : Int32} : vll (vp_updL am h x) (upd pl h y) (h + 1) = (x, y) :: vll am pl h := by
  rw [vll, vll_upd h (Nat.le_refl _), pk_uLs, pk_us]
theorem vll_updP {am : Nat → Int64} {pl : Nat → Int32} {h : Nat} {y : Int32} : ∀ v, v ≤ h → vll am (upd pl h y) v = vll am pl v := by
  intro v
  induction v with
  | zero => intro _; rfl
  | succ v ih =>
    intro hv
    rw [vll, vll, ih (by omega), pk_un (by omega)]
theorem vll_pushP {am : Nat → Int64} {pl : Nat → Int32} {h : Nat} {y : Int32} : vll am (upd pl h y) (h + 1) = (am h, y) :: vll am pl h := by
  rw [vll, vll_updP h (Nat.le_refl _), pk_us]
/-- how many nest; how many skip; how many wait for a second value -/
def cN : List (Int32 × Int32 × Int32) → Nat
  | [] => 0
  | o :: r => (if o.2.1 = -1 ∨ o.2.1 = 0 ∨ o.2.1 = 11 then 1 else 0) + cN r
def cS : List (Int32 × Int32 × Int32) → Nat
  | [] => 0
  | o :: r => (if o.2.2 = 0 then 0 else 1) + cS r
def cB : List (Int32 × Int32 × Int32) → Nat
  | [] => 0
  | o :: r => (if o.2.1 = -1 ∨ o.2.1 = 11 then 0 else 1) + cB r
/-- one waiting operator is finished: the values, the mark of a division by 0 -/
def plP (sg a b : Int32) : Int32 := if a = 0 then (if b = 0 then 0 else (if sg = 15420 ∨ sg = 15934 then 0 else 1)) else 1
def fV (o : Int32 × Int32 × Int32) (V : List (Int64 × Int32)) : List (Int64 × Int32) :=
  if o.2.1 = 11 then (match V with
    | v :: V => (f_S_front o.1 v.1, if v.2 = 0 then 0 else (if o.1 = 33 then 0 else 1)) :: V
    | [] => [])
  else (if o.2.1 = 0 then (match V with
    | c :: b :: V => (if o.2.2 = 0 then c.1 else b.1, if b.2 = 0 then (if c.2 = 0 then 0 else 1) else 1) :: V
    | V => V)
  else (match V with
    | c :: b :: V => (f_S_pair o.1 b.1 c.1 (plP o.1 b.2 c.2), if plP o.1 b.2 c.2 = 0 then 0 else (if f_S_isTruth o.1 = 0 then 1 else 0)) :: V
    | V => V))
def fD (o : Int32 × Int32 × Int32) (sk : Nat) (V : List (Int64 × Int32)) (d : Int32) : Int32 :=
  if o.2.1 = 11 ∨ o.2.1 = 0 then d else (match V with
    | c :: _ => if (o.1 = 47 ∨ o.1 = 37) ∧ c.1 = 0 ∧ sk = 0 then 1 else d
    | [] => d)
/-- all that wait with strength s or more are finished -/
def finD (s : Int32) : List (Int32 × Int32 × Int32) → List (Int64 × Int32) → Int32 → List (Int32 × Int32 × Int32) × List (Int64 × Int32) × Int32
  | [], V, d => ([], V, d)
  | o :: r, V, d => if o.2.1 < s then (o :: r, V, d) else finD s r (fV o V) (fD o (cS (o :: r)) V d)
theorem k_await {post : Int32 → Int32 → Int32 → (Nat → Int32) → (Nat → Int32) → (Nat → Int32) → Prop} {w : Nat} {held nest skp fmd dvd : Int32} {sg st sk : Nat → Int32} {x y z : Int32} (hw : w < 670) (h : post (nI (w + 1)) (if z = 0 then skp else skp + 1) fmd (upd sg w x) (upd st w y) (upd sk w (vp_nar .boolean z))) : wp_K_await post (nI w) held nest skp fmd dvd sg st sk x y z := by
  unfold wp_K_await
  refine pk_lt w 670 (fun _ => ?_) (fun c => absurd c (by omega)) rfl rfl (by omega) (by omega)
  rw [pk_cl w rfl (by omega)]
  refine ⟨pk_in w 670 hw, nm_e ⟨pk_in w 670 hw, nm_e ⟨pk_in w 670 hw, nm_e (nm_r (nI_1 w) (br_c (fun c => ?_) (fun c => nm_e ?_)))⟩⟩⟩
  · rw [if_pos c] at h
    exact h
  · rw [if_neg c] at h
    exact h
theorem k_endWait {post : Int32 → Int32 → Prop} {w : Nat} {held nest skp fmd dvd : Int32} {sk : Nat → Int32} (hw : w < 670) (h : post (nI w) (if sk w = 0 then skp else skp - 1)) : wp_K_endWait post (nI (w + 1)) held nest skp fmd dvd sk := by
  unfold wp_K_endWait
  refine br_f (nI_nle (by omega) (by omega)) (nm_r (nI_pred w) ⟨pk_in w 670 hw, ?_⟩)
  rw [pk_cl w rfl (by omega)]
  refine br_c (fun c => ?_) (fun c => nm_e ?_)
  · rw [if_pos c] at h
    exact h
  · rw [if_neg c] at h
    exact h
theorem k_isOpen {post : Int32 → Prop} {w : Nat} {held nest skp fmd dvd : Int32} {sg st : Nat → Int32} {x : Int32} (hw : w ≤ 670) (h1 : ∀ v, w = v + 1 → sg v = x → st v = -1 → post 1) (h0 : (∀ v, w = v + 1 → sg v = x → ¬ st v = -1) → post 0) : wp_K_isOpen post (nI w) held nest skp fmd dvd sg st x := by
  unfold wp_K_isOpen
  cases w with
  | zero => exact br_t (by decide) (h0 (fun v hv => absurd hv (by omega)))
  | succ w =>
    refine br_f (nI_nle (by omega) (by omega)) ?_
    rw [nI_pred, pk_cl w rfl (by omega)]
    refine ⟨pk_in w 670 (by omega), br_c (fun c => ⟨pk_in w 670 (by omega), br_c (fun c1 => ?_) (fun c1 => ?_)⟩) (fun c => ?_)⟩
    · exact h1 w rfl c c1
    · exact h0 (fun v hv _ => by cases hv; exact c1)
    · exact h0 (fun v hv z => by cases hv; exact absurd z c)
theorem k_hold {post : Int32 → Int32 → (Nat → Int64) → (Nat → Int32) → Prop} {h : Nat} {wait nest skp fmd dvd : Int32} {am : Nat → Int64} {pl : Nat → Int32} {x : Int64} {y : Int32} (hh : h ≤ 670) (k : post (nI (h + 1)) fmd (vp_updL am h x) (upd pl h (vp_nar .boolean y))) : wp_K_hold post wait (nI h) nest skp fmd dvd am pl x y := by
  unfold wp_K_hold
  refine pk_le h 670 (fun _ => ?_) (fun c => absurd c (by omega)) rfl rfl (by omega) (by omega)
  rw [pk_cl h rfl (by omega)]
  exact ⟨pk_in h 671 (by omega), nm_e ⟨pk_in h 671 (by omega), nm_e (nm_r (nI_1 h) k)⟩⟩
theorem k_finishFront {post : Int32 → Int32 → (Nat → Int64) → (Nat → Int32) → Prop} {h : Nat} {wait nest skp fmd dvd : Int32} {am : Nat → Int64} {pl : Nat → Int32} {x : Int32} (hh : h ≤ 670) (k : post (nest - 1) fmd (vp_updL am h (f_S_front x (am h))) (upd pl h (if pl h = 0 then 0 else (if x = 33 then 0 else 1)))) : wp_K_finishFront post wait (nI (h + 1)) nest skp fmd dvd am pl x := by
  unfold wp_K_finishFront
  refine nm_e (br_t (nI_le (a := 1) (by omega) (by omega)) (nm_r (nI_pred h) ?_))
  rw [pk_cl h rfl (by omega)]
  have hi := pk_in h 671 (by omega) rfl
  refine ⟨hi, q_S_front ⟨hi, nm_e ⟨hi, br_c (fun c => ⟨hi, nm_e ?_⟩) (fun c => br_c (fun c1 => ⟨hi, nm_e ?_⟩) (fun c1 => ⟨hi, nm_e ?_⟩))⟩⟩⟩
  · rw [if_pos c] at k
    exact k
  · rw [if_neg c, if_pos c1] at k
    exact k
  · rw [if_neg c, if_neg c1] at k
    exact k
theorem k_finishChoice {post : Int32 → Int32 → Int32 → (Nat → Int64) → (Nat → Int32) → Prop} {h : Nat} {wait nest skp fmd dvd : Int32} {am : Nat → Int64} {pl : Nat → Int32} {x : Int32} (hh : h + 1 ≤ 670) (k0 : x = 0 → post (nI (h + 1)) (nest - 1) fmd (vp_updL am h (am (h + 1))) (upd pl h (if pl h = 0 then (if pl (h + 1) = 0 then 0 else 1) else 1))) (k1 : ¬ x = 0 → post (nI (h + 1)) (nest - 1) fmd am (upd pl h (if pl h = 0 then (if pl (h + 1) = 0 then 0 else 1) else 1))) : wp_K_finishChoice post wait (nI (h + 2)) nest skp fmd dvd am pl x := by
  have hi := pk_in h 671 (by omega) rfl
  have hj := pk_in (h + 1) 671 (by omega) rfl
  have core : ∀ am', post (nI (h + 1)) (nest - 1) fmd am' (upd pl h (if pl h = 0 then (if pl (h + 1) = 0 then 0 else 1) else 1)) → w_K_finishChoice_60 post (nI h) wait (nI (h + 1)) (nest - 1) skp fmd dvd am' pl := by
    intro am' k
    unfold w_K_finishChoice_60
    rw [pk_cl h rfl (by omega), pk_cl (h + 1) rfl (by omega)]
    refine ⟨hi, br_c (fun c => ⟨hj, br_c (fun c1 => ⟨hi, nm_e ?_⟩) (fun c1 => ⟨hi, nm_e ?_⟩)⟩) (fun c => ⟨hi, nm_e ?_⟩)⟩
    · rw [if_pos c, if_pos c1] at k
      exact k
    · rw [if_pos c, if_neg c1] at k
      exact k
    · rw [if_neg c] at k
      exact k
  unfold wp_K_finishChoice
  refine nm_e (br_t (nI_le (a := 2) (by omega) (by omega)) (nm_r (nI_pred (h + 1)) (nm_r (nI_pred h) (br_c (fun c => ⟨hj, hi, nm_e ?_⟩) (fun c => ?_)))))
  · rw [pk_cl h rfl (by omega), pk_cl (h + 1) rfl (by omega)]
    exact core _ (k0 c)
  · exact core _ (k1 c)
theorem k_finishPair {post : Int32 → Int32 → Int32 → (Nat → Int64) → (Nat → Int32) → Prop} {h k : Nat} {wait nest fmd dvd : Int32} {am : Nat → Int64} {pl : Nat → Int32} {x : Int32} (hh : h + 1 ≤ 670) (hk : k < 2 ^ 31) (q : post (nI (h + 1)) fmd (if (x = 47 ∨ x = 37) ∧ am (h + 1) = 0 ∧ k = 0 then 1 else dvd) (vp_updL am h (f_S_pair x (am h) (am (h + 1)) (plP x (pl h) (pl (h + 1))))) (upd pl h (if plP x (pl h) (pl (h + 1)) = 0 then 0 else (if f_S_isTruth x = 0 then 1 else 0)))) : wp_K_finishPair post wait (nI (h + 2)) nest (nI k) fmd dvd am pl x := by
  have hi := pk_in h 671 (by omega) rfl
  have hj := pk_in (h + 1) 671 (by omega) rfl
  have c121 : ∀ pp d', pp = plP x (pl h) (pl (h + 1)) → d' = (if (x = 47 ∨ x = 37) ∧ am (h + 1) = 0 ∧ k = 0 then 1 else dvd) → w_K_finishPair_121 post x (nI h) pp wait (nI (h + 1)) nest (nI k) fmd d' am pl := by
    intro pp d' hp hd
    unfold w_K_finishPair_121
    rw [pk_cl h rfl (by omega), pk_cl (h + 1) rfl (by omega)]
    rw [← hp, ← hd] at q
    refine ⟨hi, hj, q_S_pair ⟨hi, nm_e (br_c (fun c => ⟨hi, nm_e ?_⟩) (fun c => q_S_isTruth (br_c (fun c1 => ⟨hi, nm_e ?_⟩) (fun c1 => ⟨hi, nm_e ?_⟩))))⟩⟩
    · rw [if_pos c] at q
      exact q
    · rw [if_neg c, if_pos c1] at q
      exact q
    · rw [if_neg c, if_neg c1] at q
      exact q
  have c95 : ∀ pp, (x = 47 ∨ x = 37) → pp = plP x (pl h) (pl (h + 1)) → w_K_finishPair_95 post x (nI h) pp wait (nI (h + 1)) nest (nI k) fmd dvd am pl := by
    intro pp hx hp
    unfold w_K_finishPair_95
    rw [pk_cl (h + 1) rfl (by omega)]
    refine ⟨hj, br_c (fun c => pk_eq k 0 (fun c1 => ?_) (fun c1 => ?_) rfl rfl hk (by omega)) (fun c => ?_)⟩
    · exact c121 _ _ hp (by rw [if_pos ⟨hx, (lg_cmp_eq _ _).mp c, c1⟩])
    · exact c121 _ _ hp (by rw [if_neg (fun z => c1 z.2.2)])
    · exact c121 _ _ hp (by rw [if_neg (fun z => c ((lg_cmp_eq _ _).mpr z.2.1))])
  have ctail : ∀ pp, pp = plP x (pl h) (pl (h + 1)) → (x = 47 → w_K_finishPair_95 post x (nI h) pp wait (nI (h + 1)) nest (nI k) fmd dvd am pl) ∧ (¬ x = 47 → ((x = 37 → w_K_finishPair_95 post x (nI h) pp wait (nI (h + 1)) nest (nI k) fmd dvd am pl) ∧ (¬ x = 37 → w_K_finishPair_121 post x (nI h) pp wait (nI (h + 1)) nest (nI k) fmd dvd am pl))) := by
    intro pp hp
    refine br_c (fun c => c95 _ (Or.inl c) hp) (fun c => br_c (fun c1 => c95 _ (Or.inr c1) hp) (fun c1 => c121 _ _ hp ?_))
    rw [if_neg (fun z => z.1.elim c c1)]
  have c50 : ∀ z : Int32, (z = 0 ↔ ¬ (x = 15420 ∨ x = 15934)) → w_K_finishPair_50 post x (nI h) z wait (nI (h + 1)) nest (nI k) fmd dvd am pl := by
    intro z hz
    unfold w_K_finishPair_50
    rw [pk_cl h rfl (by omega), pk_cl (h + 1) rfl (by omega)]
    refine ⟨hi, br_c (fun c => ⟨hj, br_c (fun c1 => ctail _ ?_) (fun c1 => br_c (fun c2 => ctail _ ?_) (fun c2 => ctail _ ?_))⟩) (fun c => ctail _ ?_)⟩
    · rw [plP, if_pos c, if_pos c1]
    · rw [plP, if_pos c, if_neg c1, if_neg (hz.mp c2)]
    · rw [plP, if_pos c, if_neg c1, if_pos (Decidable.not_not.mp (fun y => c2 (hz.mpr y)))]
    · rw [plP, if_neg c]
  unfold wp_K_finishPair
  refine br_t (nI_le (a := 2) (by omega) (by omega)) (nm_r (nI_pred (h + 1)) (nm_r (nI_pred h) (br_c (fun c => c50 1 ?_) (fun c => br_c (fun c1 => c50 1 ?_) (fun c1 => c50 0 ?_)))))
  · exact ⟨fun z => absurd z (by decide), fun z => absurd (Or.inl c) z⟩
  · exact ⟨fun z => absurd z (by decide), fun z => absurd (Or.inr c1) z⟩
  · exact ⟨fun _ z => z.elim c c1, fun _ => rfl⟩
theorem fV_front {o : Int32 × Int32 × Int32} {v : Int64 × Int32} {V : List (Int64 × Int32)} (h : o.2.1 = 11) : fV o (v :: V) = (f_S_front o.1 v.1, if v.2 = 0 then 0 else (if o.1 = 33 then 0 else 1)) :: V := by
  rw [fV, if_pos h]
theorem fV_choice {o : Int32 × Int32 × Int32} {b c : Int64 × Int32} {V : List (Int64 × Int32)} (h : o.2.1 = 0) : fV o (c :: b :: V) = (if o.2.2 = 0 then c.1 else b.1, if b.2 = 0 then (if c.2 = 0 then 0 else 1) else 1) :: V := by
  rw [fV, if_neg (by rw [h]; decide), if_pos h]
theorem fV_pair {o : Int32 × Int32 × Int32} {b c : Int64 × Int32} {V : List (Int64 × Int32)} (h : ¬ o.2.1 = 11) (h2 : ¬ o.2.1 = 0) : fV o (c :: b :: V) = (f_S_pair o.1 b.1 c.1 (plP o.1 b.2 c.2), if plP o.1 b.2 c.2 = 0 then 0 else (if f_S_isTruth o.1 = 0 then 1 else 0)) :: V := by
  rw [fV, if_neg h, if_neg h2]
theorem fD_pair {o : Int32 × Int32 × Int32} {k : Nat} {c : Int64 × Int32} {V : List (Int64 × Int32)} {d : Int32} (h : ¬ o.2.1 = 11) (h2 : ¬ o.2.1 = 0) : fD o k (c :: V) d = if (o.1 = 47 ∨ o.1 = 37) ∧ c.1 = 0 ∧ k = 0 then 1 else d := by
  unfold fD
  rw [if_neg (fun z => z.elim h h2)]
theorem fD_nest {o : Int32 × Int32 × Int32} {k : Nat} {V : List (Int64 × Int32)} {d : Int32} (h : o.2.1 = 11 ∨ o.2.1 = 0) : fD o k V d = d := by
  unfold fD
  rw [if_pos h]
theorem cS_end {sg st sk : Nat → Int32} {w : Nat} : (if sk w = 0 then nI (cS (opl sg st sk (w + 1))) else nI (cS (opl sg st sk (w + 1))) - 1) = nI (cS (opl sg st sk w)) := by
  rw [opl, cS]
  by_cases c : sk w = 0
  · rw [if_pos c]
    show nI ((if sk w = 0 then 0 else 1) + _) = _
    rw [if_pos c, Nat.zero_add]
  · rw [if_neg c]
    show nI ((if sk w = 0 then 0 else 1) + _) - 1 = _
    rw [if_neg c, Nat.add_comm, nI_pred]
theorem cN_in {x y z : Int32} {r : List (Int32 × Int32 × Int32)} (h : y = -1 ∨ y = 0 ∨ y = 11) : cN ((x, y, z) :: r) = cN r + 1 := by
  rw [cN]
  show (if y = -1 ∨ y = 0 ∨ y = 11 then 1 else 0) + cN r = _
  rw [if_pos h, Nat.add_comm]
theorem cN_out {x y z : Int32} {r : List (Int32 × Int32 × Int32)} (h : ¬ (y = -1 ∨ y = 0 ∨ y = 11)) : cN ((x, y, z) :: r) = cN r := by
  rw [cN]
  show (if y = -1 ∨ y = 0 ∨ y = 11 then 1 else 0) + cN r = _
  rw [if_neg h, Nat.zero_add]
theorem cB_in {x y z : Int32} {r : List (Int32 × Int32 × Int32)} (h : ¬ (y = -1 ∨ y = 11)) : cB ((x, y, z) :: r) = cB r + 1 := by
  rw [cB]
  show (if y = -1 ∨ y = 11 then 0 else 1) + cB r = _
  rw [if_neg h, Nat.add_comm]
theorem cB_out {x y z : Int32} {r : List (Int32 × Int32 × Int32)} (h : y = -1 ∨ y = 11) : cB ((x, y, z) :: r) = cB r := by
  rw [cB]
  show (if y = -1 ∨ y = 11 then 0 else 1) + cB r = _
  rw [if_pos h, Nat.zero_add]
theorem cS_le {sg st sk : Nat → Int32} : ∀ w, cS (opl sg st sk w) ≤ w := by
  intro w
  induction w with
  | zero => exact Nat.le_refl _
  | succ w ih =>
    rw [opl, cS]
    split <;> omega
/-- finishDownTo, where no '(' and no '?' is finished -/
theorem k_finLoop {post : Int32 → Int32 → Int32 → Int32 → Int32 → Int32 → (Nat → Int64) → (Nat → Int32) → Prop} {s fmd : Int32} {sg st sk : Nat → Int32} (hs : -1 < s) : ∀ (w h : Nat) (d : Int32) (am : Nat → Int64) (pl : Nat → Int32), w ≤ 670 → h ≤ 671 → h = cB (opl sg st sk w) + 1 → (∀ (w' h' : Nat) (d' : Int32) (am' : Nat → Int64) (pl' : Nat → Int32), finD s (opl sg st sk w) (vll am pl h) d = (opl sg st sk w', vll am' pl' h', d') → w' ≤ w → h' ≤ h → h' = cB (opl sg st sk w') + 1 → post (nI w') (nI h') (nI (cN (opl sg st sk w'))) (nI (cS (opl sg st sk w'))) fmd d' am' pl') → w_K_finishDownTo_5 post s sg st sk (w + 1) (nI w) (nI w) (nI h) (nI (cN (opl sg st sk w))) (nI (cS (opl sg st sk w))) fmd d am pl := by
  intro w
  induction w with
  | zero =>
    intro h d am pl hw hh hB k
    exact br_t (by decide) (k 0 h d am pl rfl (Nat.le_refl _) (Nat.le_refl _) hB)
  | succ w ih =>
    intro h d am pl hw hh hB k
    have hi := pk_in w 670 (by omega) rfl
    have hcs := cS_le (sg := sg) (st := st) (sk := sk) (w + 1)
    refine br_f (nI_nle (by omega) (by omega)) ?_
    rw [nI_pred, pk_cl w rfl (by omega)]
    refine ⟨hi, br_c (fun c => ?_) (fun c => ⟨hi, nm_e ⟨hi, br_c (fun c1 => ?_) (fun c1 => ⟨hi, br_c (fun c2 => ⟨hi, ?_⟩) (fun c2 => ?_)⟩)⟩⟩)⟩
    · exact k (w + 1) h d am pl (by rw [opl, finD, if_pos c]) (Nat.le_refl _) (Nat.le_refl _) hB
    · rw [opl, cB_out (Or.inr c1)] at hB
      obtain ⟨g, rfl⟩ : ∃ g, h = g + 1 := ⟨cB (opl sg st sk w), hB⟩
      refine k_finishFront (by omega) (k_endWait (by omega) (nm_r (pk_m1 w) ?_))
      rw [cS_end, show nI (cN (opl sg st sk (w + 1))) - 1 = nI (cN (opl sg st sk w)) from by rw [opl, cN_in (Or.inr (Or.inr c1)), nI_pred]]
      refine ih (g + 1) d _ _ (by omega) hh hB (fun w' h' d' am' pl' e e1 e2 e3 => k w' h' d' am' pl' ?_ (by omega) e2 e3)
      rw [vll_push] at e
      rw [opl, finD, if_neg c, vll, fV_front c1, fD_nest (Or.inl c1)]
      exact e
    · rw [opl, cB_in (by rw [c2]; decide)] at hB
      obtain ⟨g, rfl⟩ : ∃ g, h = g + 2 := ⟨cB (opl sg st sk w), hB⟩
      refine k_finishChoice (by omega) (fun c3 => ?_) (fun c3 => ?_)
      · refine k_endWait (by omega) (nm_r (pk_m1 w) ?_)
        rw [cS_end, show nI (cN (opl sg st sk (w + 1))) - 1 = nI (cN (opl sg st sk w)) from by rw [opl, cN_in (Or.inr (Or.inl c2)), nI_pred]]
        refine ih (g + 1) d _ _ (by omega) (by omega) (by omega) (fun w' h' d' am' pl' e e1 e2 e3 => k w' h' d' am' pl' ?_ (by omega) (by omega) e3)
        rw [vll_push] at e
        rw [opl, finD, if_neg c, vll, vll, fV_choice c2, fD_nest (Or.inr c2)]
        show finD s _ ((if sk w = 0 then _ else _, _) :: _) _ = _
        rw [if_pos c3]
        exact e
      · refine k_endWait (by omega) (nm_r (pk_m1 w) ?_)
        rw [cS_end, show nI (cN (opl sg st sk (w + 1))) - 1 = nI (cN (opl sg st sk w)) from by rw [opl, cN_in (Or.inr (Or.inl c2)), nI_pred]]
        refine ih (g + 1) d _ _ (by omega) (by omega) (by omega) (fun w' h' d' am' pl' e e1 e2 e3 => k w' h' d' am' pl' ?_ (by omega) (by omega) e3)
        rw [vll_pushP] at e
        rw [opl, finD, if_neg c, vll, vll, fV_choice c2, fD_nest (Or.inr c2)]
        show finD s _ ((if sk w = 0 then _ else _, _) :: _) _ = _
        rw [if_neg c3]
        exact e
    · have c4 : ¬ st w = -1 := fun z => c (by rw [z]; exact hs)
      rw [opl, cB_in (fun z => z.elim c4 c1)] at hB
      obtain ⟨g, rfl⟩ : ∃ g, h = g + 2 := ⟨cB (opl sg st sk w), hB⟩
      refine k_finishPair (k := cS (opl sg st sk (w + 1))) (by omega) (by omega) (k_endWait (by omega) (nm_r (pk_m1 w) ?_))
      rw [cS_end, show cN (opl sg st sk (w + 1)) = cN (opl sg st sk w) from by rw [opl, cN_out (fun z => z.elim c4 (fun z => z.elim c2 c1))]]
      refine ih (g + 1) _ _ _ (by omega) (by omega) (by omega) (fun w' h' d' am' pl' e e1 e2 e3 => k w' h' d' am' pl' ?_ (by omega) (by omega) e3)
      rw [vll_push] at e
      have e0 : vll am pl (g + 2) = (am (g + 1), pl (g + 1)) :: (am g, pl g) :: vll am pl g := rfl
      rw [e0]
      show finD s ((sg w, st w, sk w) :: opl sg st sk w) _ _ = _
      rw [finD, if_neg c, fV_pair c1 c2, fD_pair c1 c2]
      exact e
