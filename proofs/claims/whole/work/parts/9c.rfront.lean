/-! front of the reference -/
def nxC (c : Int32) : Prop := f_K_strengthOf c = 99 ∨ c = 41 ∨ c = 58
def Sp (W : TG) (st tA tS : Nat → Int32) (n k hm : Nat) (tp : Ops → Prop) (nx : Int32 → Prop) : Prop := ∀ (post : Int64 → Int32 → Int32 → Int32 → Int32 → Int32 → Int32 → (Nat → Int32) → (Nat → Int64) → (Nat → Int32) → Prop) (rs : Int32) (rv : Int64) (ip : Int32) (i h : Nat) (nd bz rp : Int32) (sg : Nat → Int32) (hv : Nat → Int64) (hp : Nat → Int32), h ≤ hm → vz nd → vz bz → (∀ v i' bz' pl sg' hv' hp', Gd (tb st n) n i i' k nd bz tp v bz' pl → (nx (cdA (tsA (tb st n) n i')) ∧ i ≤ i') → (∀ j, j < h → sg' j = sg j ∧ hv' j = hv j ∧ hp' j = hp j) → post v (lkA (TK (tb st n) n).length i') 0 bz' (nI k) pl (nI h) sg' hv' hp') → (Bd (tb st n) n i k nd bz tp → ∀ v i' bz' ir pl hd sg' hv' hp', post v (lkA (TK (tb st n) n).length i') 1 bz' ir pl hd sg' hv' hp') → W post rs rv ip (nI (TK (tb st n) n).length) (lkA (TK (tb st n) n).length i) 0 bz (nI k) rp (nI h) st tA tS sg hv hp nd
theorem r_go {post : Int32 → Prop} {N i : Nat} {x rs : Int32} {rv : Int64} {ip bd bz ir rp hd : Int32} (hx : x = nI i) (hN : N ≤ 4096) (hi : i < N) (h : post (lkA N (i + 1))) : wp_R_goOn post rs rv ip (nI N) x bd bz ir rp hd := by
  have e : x = lkA N i := hx.trans (if_pos hi).symm
  rw [e]
  exact r_goOn hN hi h
theorem r_isC {post : Int32 → Prop} {st tA tS : Nat → Int32} {n i : Nat} (q : Nat) {x c rs : Int32} {rv : Int64} {ip cn lk bd bz ir rp hd : Int32} (hq : q < NS) (hq4 : 4 ≤ q) (hn : n ≤ 4096) (hR : tkR (TK (tb st n) n) tA tS) (hx : x = lkA (TK (tb st n) n).length i) (hc : cod q = c) (h : (cdA (tsA (tb st n) n i) = c → post 1) ∧ (¬ cdA (tsA (tb st n) n i) = c → post 0)) : wp_R_is post rs rv ip cn lk bd bz ir rp hd st tA tS x q := by
  refine r_is hq hq4 hn hR hx ?_
  rw [hc]
  by_cases c : cdA (tsA (tb st n) n i) = c
  · rw [if_pos c]
    exact h.1 c
  · rw [if_neg c]
    exact h.2 c
theorem cod49 : cod 4 = 40 ∧ cod 5 = 43 ∧ cod 6 = 45 ∧ cod 7 = 126 ∧ cod 8 = 33 ∧ cod 9 = 41 := by decide
theorem r_frontLit {W_c W_e W_f : TG} {st tA tS : Nat → Int32} {n k : Nat} {post : Int64 → Int32 → Int32 → Int32 → Int32 → Int32 → Int32 → (Nat → Int32) → (Nat → Int64) → (Nat → Int32) → Prop} {rs : Int32} {rv : Int64} {ip : Int32} {i h : Nat} {nd bz rp : Int32} {sg : Nat → Int32} {hv : Nat → Int64} {hp : Nat → Int32} (hn : n ≤ 4096) (hR : tkR (TK (tb st n) n) tA tS) (hz2 : vz bz) (hg : ∀ v i' bz' pl sg' hv' hp', Gd (tb st n) n i i' k nd bz (fun _ => True) v bz' pl → (True ∧ i ≤ i') → (∀ j, j < h → sg' j = sg j ∧ hv' j = hv j ∧ hp' j = hp j) → post v (lkA (TK (tb st n) n).length i') 0 bz' (nI k) pl (nI h) sg' hv' hp') (hb : Bd (tb st n) n i k nd bz (fun _ => True) → ∀ v i' bz' ir pl hd sg' hv' hp', post v (lkA (TK (tb st n) n).length i') 1 bz' ir pl hd sg' hv' hp') (hs : ∀ x, (TK (tb st n) n)[i]? = some x → ¬ x.2.2 = 1 → ¬ x.2.2 = 2 → ¬ x.2.2 = 4 → ∀ lk, lk = lkA (TK (tb st n) n).length i → wp_R_is (fun (r_7 : Int32) => (r_7 = 0 → (wp_R_is (fun (r_50 : Int32) => (r_50 = 0 → (wp_R_is (fun (r_52 : Int32) => (r_52 = 0 → (wp_R_is (fun (r_54 : Int32) => (r_54 = 0 → (wp_R_is (fun (r_56 : Int32) => (r_56 = 0 → (post 0 lk 1 bz (nI k) 0 (nI h) sg hv hp)) ∧ (¬ r_56 = 0 → (w_R_front_136 W_c W_e W_f post nd lk r_7 rs rv ip (nI (TK (tb st n) n).length) lk 0 bz (nI k) 0 (nI h) st tA tS sg hv hp))) rs rv ip (nI (TK (tb st n) n).length) lk 0 bz (nI k) 0 (nI h) st tA tS lk 8)) ∧ (¬ r_54 = 0 → (w_R_front_136 W_c W_e W_f post nd lk r_7 rs rv ip (nI (TK (tb st n) n).length) lk 0 bz (nI k) 0 (nI h) st tA tS sg hv hp))) rs rv ip (nI (TK (tb st n) n).length) lk 0 bz (nI k) 0 (nI h) st tA tS lk 7)) ∧ (¬ r_52 = 0 → (w_R_front_136 W_c W_e W_f post nd lk r_7 rs rv ip (nI (TK (tb st n) n).length) lk 0 bz (nI k) 0 (nI h) st tA tS sg hv hp))) rs rv ip (nI (TK (tb st n) n).length) lk 0 bz (nI k) 0 (nI h) st tA tS lk 6)) ∧ (¬ r_50 = 0 → (w_R_front_136 W_c W_e W_f post nd lk r_7 rs rv ip (nI (TK (tb st n) n).length) lk 0 bz (nI k) 0 (nI h) st tA tS sg hv hp))) rs rv ip (nI (TK (tb st n) n).length) lk 0 bz (nI k) 0 (nI h) st tA tS lk 5)) ∧ (¬ r_7 = 0 → (w_R_front_136 W_c W_e W_f post nd lk r_7 rs rv ip (nI (TK (tb st n) n).length) lk 0 bz (nI k) 0 (nI h) st tA tS sg hv hp))) rs rv ip (nI (TK (tb st n) n).length) lk 0 bz (nI k) 0 (nI h) st tA tS lk 4) : wb_R_front W_c W_e W_f post rs rv ip (nI (TK (tb st n) n).length) (lkA (TK (tb st n) n).length i) 0 bz (nI k) rp (nI h) st tA tS sg hv hp nd := by
  have hN := TK_len (st := st) hn
  refine br_t rfl ?_
  by_cases hi : i < (TK (tb st n) n).length
  · obtain ⟨x, hx⟩ : ∃ x, (TK (tb st n) n)[i]? = some x := ⟨_, List.getElem?_eq_getElem hi⟩
    have el : lkA (TK (tb st n) n).length i = nI i := if_pos hi
    have same : ∀ j, j < h → sg j = sg j ∧ hv j = hv j ∧ hp j = hp j := fun _ _ => ⟨rfl, rfl, rfl⟩
    rw [el]
    refine br_t (nI_pos' (by omega)) (r_kindOf hn hR hx (br_c (fun c1 => ?_) (fun c1 => br_c (fun c2 => ?_) (fun c2 => br_c (fun c4 => ?_) (fun c4 => ?_)))))
    · refine r_go rfl hN hi (hg 0 (i + 1) bz 0 sg hv hp (Gd_lit (v := (0, 0)) hz2 (Or.inl rfl) hx (by rw [c1]; decide) ?_) ⟨trivial, by omega⟩ same)
      unfold liV
      rw [if_pos c1]
    · have hl : liV (tb st n) x.2.2 x.1 x.2.1 = nuV (tb st n) x.1 x.2.1 := by
        unfold liV
        rw [if_neg c1, if_pos c2]
      refine r_go rfl hN hi (r_num hn hR hx (fun v e => hg v.1 (i + 1) bz v.2 sg hv hp (Gd_lit hz2 (nuV_z e) hx (by rw [c2]; decide) (hl.trans e)) ⟨trivial, by omega⟩ same) (fun e a z => hb (Bd_lit hx (by rw [c2]; decide) (hl.trans e)) _ _ _ _ _ _ _ _ _))
    · have hl : liV (tb st n) x.2.2 x.1 x.2.1 = chV (tb st n) x.1 x.2.1 := by
        unfold liV
        rw [if_neg c1, if_neg c2, if_pos c4]
      refine r_go rfl hN hi (r_char hn hR hx c4 (fun v e => hg v (i + 1) bz 0 sg hv hp (Gd_lit (v := (v, 0)) hz2 (Or.inl rfl) hx (by rw [c4]; decide) (hl.trans e)) ⟨trivial, by omega⟩ same) (fun e => hb (Bd_lit hx (by rw [c4]; decide) (hl.trans e)) _ _ _ _ _ _ _ _ _))
    · exact hs x hx c1 c2 c4 (nI i) el.symm
  · have el : lkA (TK (tb st n) n).length i = -1 := if_neg hi
    have hb' := hb (Bd_end (by omega)) 0 i bz (nI k) 0 (nI h) sg hv hp
    rw [el] at hb' ⊢
    exact br_f (by decide) hb'
