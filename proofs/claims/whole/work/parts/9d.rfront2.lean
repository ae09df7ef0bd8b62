/-! front of the reference: signs -/
theorem r_front {W_c W_e W_f : TG} {st tA tS : Nat → Int32} {n k hm : Nat} (hn : n ≤ 4096) (hR : tkR (TK (tb st n) n) tA tS) (hk : k ≤ 60) (Hc : k + 1 ≤ 60 → Sp W_c st tA tS n (k + 1) hm tpO nxC) (Hf : k + 1 ≤ 60 → Sp W_f st tA tS n (k + 1) hm (fun _ => True) (fun _ => True)) : Sp (wb_R_front W_c W_e W_f) st tA tS n k hm (fun _ => True) (fun _ => True) := by
  intro post rs rv ip i h nd bz rp sg hv hp hh hz1 hz2 hg hb
  refine r_frontLit hn hR hz2 hg hb (fun x hx c1 c2 c4 lk hlk => ?_)
  subst hlk
  have hi : i < (TK (tb st n) n).length := (List.getElem?_eq_some_iff.mp hx).1
  have hN := TK_len (st := st) hn
  obtain ⟨q4, q5, q6, q7, q8, q9⟩ := cod49
  have hc : cdA (tsA (tb st n) n i) = tkC (tkT (tb st n) x) := by rw [tsA_at hx]; rfl
  have ht : ∀ c, ¬ c = 0 → cdA (tsA (tb st n) n i) = c → tkT (tb st n) x = .inl c := by
    intro c c0 e
    rw [hc] at e
    cases hq : tkT (tb st n) x with
    | inl y =>
      rw [hq] at e
      have e : y = c := e
      rw [e]
    | inr y =>
      rw [hq] at e
      exact absurd e.symm c0
  have bad197 : Bd (tb st n) n i k nd bz (fun _ => True) → ∀ (x4 : Int32) (z0 : Int64) (j : Nat) (bz' ir pl hd : Int32) (sg' : Nat → Int32) (hv' : Nat → Int64) (hp' : Nat → Int32), w_R_front_197 W_c W_e W_f post (lkA (TK (tb st n) n).length i) x4 z0 rs rv ip (nI (TK (tb st n) n).length) (lkA (TK (tb st n) n).length j) 1 bz' ir pl hd st tA tS sg' hv' hp' := by
    intro B x4 z0 j bz' ir pl hd sg' hv' hp'
    have B := hb B
    refine nm_e (br_c (fun _ => ?_) (fun _ => br_f (by decide) (r_goOnAny hN (fun j => B _ _ _ _ _ _ _ _ _))))
    exact r_isC 8 (by decide) (by decide) hn hR rfl q8 ⟨fun _ => br_f (by decide) (br_c (fun _ => B _ _ _ _ _ _ _ _ _) (fun _ => B _ _ _ _ _ _ _ _ _)), fun _ => br_t rfl (r_isC 6 (by decide) (by decide) hn hR rfl q6 ⟨fun _ => br_f (by decide) (B _ _ _ _ _ _ _ _ _), fun _ => br_t rfl (r_isC 7 (by decide) (by decide) hn hR rfl q7 ⟨fun _ => br_f (by decide) (B _ _ _ _ _ _ _ _ _), fun _ => br_t rfl (B _ _ _ _ _ _ _ _ _)⟩)⟩)⟩
  have frt : ∀ c, (c = 43 ∨ c = 45 ∨ c = 126 ∨ c = 33) → cdA (tsA (tb st n) n i) = c → w_R_front_136 W_c W_e W_f post nd (lkA (TK (tb st n) n).length i) 0 rs rv ip (nI (TK (tb st n) n).length) (lkA (TK (tb st n) n).length i) 0 bz (nI k) 0 (nI h) st tA tS sg hv hp := by
    intro c hcc e
    have t := ht c (by rcases hcc with z | z | z | z <;> rw [z] <;> decide) e
    refine r_goOn hN hi (nm_r (nI_1 k) (pk_le (k + 1) 60 (fun c6 => ⟨Or.inl rfl, br_t rfl (br_t rfl ?_)⟩) (fun c6 => ⟨Or.inr rfl, br_f (by decide) (bad197 (Bd_sgn hx t (Or.inl (by omega))) _ _ _ _ _ _ _ _ _ _)⟩) rfl rfl (by omega) (by omega)))
    refine Hf c6 _ rs rv ip (i + 1) h nd bz 0 sg hv hp hh hz1 hz2 (fun v i' bz' pl sg' hv' hp' g nl s => ?_) (fun B v i' bz' ir pl hd sg' hv' hp' => bad197 (Bd_frt hcc hx t c6 B) _ _ _ _ _ _ _ _ _ _)
    have G := hg (f_S_front c v) i' bz' _ sg' hv' hp' (Gd_frt hcc hx t c6 g) ⟨trivial, Nat.le_trans (Nat.le_succ i) nl.2⟩ s
    have pz : vz pl := g.2.2.1
    have pk : ¬ c = 33 → (if pl = 0 then (0 : Int32) else (if c = 33 then 0 else 1)) = pl := by
      intro z
      rcases pz with y | y
      · rw [if_pos y, y]
      · rw [if_neg (by rw [y]; decide), if_neg z, y]
    refine nm_r (nI_pred k) (br_t rfl (r_isC 8 (by decide) (by decide) hn hR rfl q8 ⟨fun y => br_f (by decide) ?_, fun y => br_t rfl (r_isC 6 (by decide) (by decide) hn hR rfl q6 ⟨fun y2 => br_f (by decide) ?_, fun y2 => br_t rfl (r_isC 7 (by decide) (by decide) hn hR rfl q7 ⟨fun y3 => br_f (by decide) ?_, fun y3 => br_t rfl ?_⟩)⟩)⟩))
    · have ec : c = 33 := e.symm.trans y
      have ep : (if pl = 0 then (0 : Int32) else (if c = 33 then 0 else 1)) = 0 := by
        rw [if_pos ec]
        split <;> rfl
      rw [ep] at G
      unfold f_S_front at G
      rw [if_pos ec] at G
      refine br_c (fun z => ?_) (fun z => ?_)
      · rw [if_pos z] at G
        exact G
      · rw [if_neg z] at G
        exact G
    · have ec : c = 45 := e.symm.trans y2
      rw [pk (by rw [ec]; decide)] at G
      unfold f_S_front at G
      rw [if_neg (by rw [ec]; decide), if_pos ec] at G
      exact G
    · have ec : c = 126 := e.symm.trans y3
      rw [pk (by rw [ec]; decide)] at G
      unfold f_S_front at G
      rw [if_neg (by rw [ec]; decide), if_neg (by rw [ec]; decide), if_pos ec] at G
      exact G
    · have n1 : ¬ c = 33 := fun z => y (e.trans z)
      have n2 : ¬ c = 45 := fun z => y2 (e.trans z)
      have n3 : ¬ c = 126 := fun z => y3 (e.trans z)
      rw [pk n1] at G
      unfold f_S_front at G
      rw [if_neg n1, if_neg n2, if_neg n3] at G
      exact G
  have opn : cdA (tsA (tb st n) n i) = 40 → w_R_front_136 W_c W_e W_f post nd (lkA (TK (tb st n) n).length i) 1 rs rv ip (nI (TK (tb st n) n).length) (lkA (TK (tb st n) n).length i) 0 bz (nI k) 0 (nI h) st tA tS sg hv hp := by
    intro e
    have t := ht 40 (by decide) e
    refine r_goOn hN hi (nm_r (nI_1 k) (pk_le (k + 1) 60 (fun c6 => ⟨Or.inl rfl, br_t rfl (br_f (by decide) ?_)⟩) (fun c6 => ⟨Or.inr rfl, br_f (by decide) (bad197 (Bd_sgn hx t (Or.inl (by omega))) _ _ _ _ _ _ _ _ _ _)⟩) rfl rfl (by omega) (by omega)))
    refine Hc c6 _ rs rv ip (i + 1) h nd bz 0 sg hv hp hh hz1 hz2 (fun v i' bz' pl sg' hv' hp' g nl s => ?_) (fun B v i' bz' ir pl hd sg' hv' hp' => bad197 (Bd_opn hx t c6 B) _ _ _ _ _ _ _ _ _ _)
    refine nm_r (nI_pred k) (br_f (by decide) (br_t rfl (r_isC 9 (by decide) (by decide) hn hR rfl q9 ⟨fun y => br_f (by decide) ?_, fun y => br_t rfl (r_goOnAny hN (fun j => hb (Bd_opnNo hx t c6 ?_ g) _ _ _ _ _ _ _ _ _))⟩)))
    · by_cases hi' : i' < (TK (tb st n) n).length
      · obtain ⟨w, hw⟩ : ∃ w, (TK (tb st n) n)[i']? = some w := ⟨_, List.getElem?_eq_getElem hi'⟩
        have tw : tkT (tb st n) w = .inl 41 := by
          rw [tsA_at hw] at y
          have y : tkC (tkT (tb st n) w) = 41 := y
          cases hq : tkT (tb st n) w with
          | inl u =>
            rw [hq] at y
            have y : u = 41 := y
            rw [y]
          | inr u =>
            rw [hq] at y
            have y : (0 : Int32) = 41 := y
            exact absurd y (by decide)
        exact r_goOn hN hi' (hg v (i' + 1) bz' pl sg' hv' hp' (Gd_opn hx t c6 hw tw g) ⟨trivial, Nat.le_trans (Nat.le_trans (Nat.le_succ i) nl.2) (Nat.le_succ i')⟩ s)
      · rw [tsA_end (by omega)] at y
        have y : (0 : Int32) = 41 := y
        exact absurd y (by decide)
    · rcases nl.1 with z | z | z
      · exact Or.inl z
      · exact absurd z y
      · exact Or.inr z
  refine r_isC 4 (by decide) (by decide) hn hR rfl q4 ⟨fun y => br_f (by decide) (opn y), fun y4 => br_t rfl (r_isC 5 (by decide) (by decide) hn hR rfl q5 ⟨fun y => br_f (by decide) (frt 43 (Or.inl rfl) y), fun y5 => br_t rfl (r_isC 6 (by decide) (by decide) hn hR rfl q6 ⟨fun y => br_f (by decide) (frt 45 (Or.inr (Or.inl rfl)) y), fun y6 => br_t rfl (r_isC 7 (by decide) (by decide) hn hR rfl q7 ⟨fun y => br_f (by decide) (frt 126 (Or.inr (Or.inr (Or.inl rfl))) y), fun y7 => br_t rfl (r_isC 8 (by decide) (by decide) hn hR rfl q8 ⟨fun y => br_f (by decide) (frt 33 (Or.inr (Or.inr (Or.inr rfl))) y), fun y8 => br_t rfl (hb ?_ _ _ _ _ _ _ _ _ _)⟩)⟩)⟩)⟩)⟩
  by_cases h5 : x.2.2 = 5
  · cases hq : tkT (tb st n) x with
    | inl c =>
      have e : cdA (tsA (tb st n) n i) = c := by rw [hc, hq]; rfl
      rw [e] at y4 y5 y6 y7 y8
      exact Bd_sgn hx hq (Or.inr (fun z => z.elim y4 (fun z => z.elim y5 (fun z => z.elim y6 (fun z => z.elim y7 y8)))))
    | inr u =>
      unfold tkT at hq
      rw [if_pos h5] at hq
      cases hq
  · refine Bd_lit hx h5 ?_
    unfold liV
    rw [if_neg c1, if_neg c2, if_neg c4]
