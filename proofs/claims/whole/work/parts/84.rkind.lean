/-! kinds; what tokens(), token(), feed and cut of the reference answer -/
theorem ch_f0 : ∀ v, v < 257 → (¬ f_W_isLetter (nI v - 1) = 0 → ¬ nI v - 1 = 34 ∧ ¬ nI v - 1 = 39 ∧ ¬ nI v - 1 = 46 ∧ f_W_isDigit (nI v - 1) = 0) := by decide +kernel
theorem ch_f1 : ∀ v, v < 257 → (¬ f_W_isDigit (nI v - 1) = 0 → ¬ nI v - 1 = 34 ∧ ¬ nI v - 1 = 39 ∧ ¬ nI v - 1 = 46 ∧ ¬ nI v - 1 = 76 ∧ f_W_isLetter (nI v - 1) = 0) := by decide +kernel
theorem ch_f2 : ∀ v, v < 257 → (nI v - 1 = 76 → ¬ f_W_isLetter (nI v - 1) = 0) := by decide +kernel
theorem ch_f3 : ∀ v, v < 257 → (¬ oneOf 3 (nI v - 1) = 0 → ¬ nI v - 1 = 34 ∧ ¬ nI v - 1 = 39) := by decide +kernel
theorem ch_f4 : ∀ v, v < 257 → (¬ oneOf 1 (nI v - 1) = 0 → ¬ nI v - 1 = 34 ∧ ¬ nI v - 1 = 39) := by decide +kernel
theorem ch_f5 : ∀ v, v < 257 → (¬ oneOf 2 (nI v - 1) = 0 → ¬ nI v - 1 = 34 ∧ ¬ nI v - 1 = 39) := by decide +kernel
theorem ch_f6 : ∀ v, v < 257 → (nI v - 1 < 0 ↔ nI v - 1 = -1) := by decide +kernel
theorem ch_f7 : ∀ v, v < 257 → (nI v - 1 = -1 → f_W_isDigit (nI v - 1) = 0 ∧ f_W_isLetter (nI v - 1) = 0) := by decide +kernel
theorem tb_facts {st : Nat → Int32} {n i : Nat} : ((¬ f_W_isLetter (tb st n i) = 0 → ¬ tb st n i = 34 ∧ ¬ tb st n i = 39 ∧ ¬ tb st n i = 46 ∧ f_W_isDigit (tb st n i) = 0) ∧ (¬ f_W_isDigit (tb st n i) = 0 → ¬ tb st n i = 34 ∧ ¬ tb st n i = 39 ∧ ¬ tb st n i = 46 ∧ ¬ tb st n i = 76 ∧ f_W_isLetter (tb st n i) = 0) ∧ (tb st n i = 76 → ¬ f_W_isLetter (tb st n i) = 0) ∧ (¬ oneOf 3 (tb st n i) = 0 → ¬ tb st n i = 34 ∧ ¬ tb st n i = 39) ∧ (¬ oneOf 1 (tb st n i) = 0 → ¬ tb st n i = 34 ∧ ¬ tb st n i = 39) ∧ (¬ oneOf 2 (tb st n i) = 0 → ¬ tb st n i = 34 ∧ ¬ tb st n i = 39) ∧ (tb st n i < 0 ↔ tb st n i = -1) ∧ (tb st n i = -1 → f_W_isDigit (tb st n i) = 0 ∧ f_W_isLetter (tb st n i) = 0)) := by
  obtain ⟨v, h1, h2⟩ := tb_dom (st := st) (n := n) (i := i)
  rw [h2]
  exact ⟨ch_f0 v h1, ch_f1 v h1, ch_f2 v h1, ch_f3 v h1, ch_f4 v h1, ch_f5 v h1, ch_f6 v h1, ch_f7 v h1⟩
theorem tb_sgl {st : Nat → Int32} {n i : Nat} : sgl (tb st n i) = 0 ↔ oneOf 3 (tb st n i) = 0 := by
  obtain ⟨v, h1, h2⟩ := tb_dom (st := st) (n := n) (i := i)
  rw [h2]
  exact ch_sgl v h1
/-- the byte that kindOf takes for the second -/
def nxB (b : Nat → Int32) (n s : Nat) : Int32 := if (tokE b n s).1 - s ≤ 1 then -1 else b (s + 1)
theorem kd_eq {st : Nat → Int32} {n s : Nat} (hs : s < n) : kdF (tb st n s) (nxB (tb st n) n s) = (tokE (tb st n) n s).2 := by
  have f1 := tb_facts (st := st) (n := n) (i := s)
  have f2 := tb_facts (st := st) (n := n) (i := s + 1)
  have a0 := tb_ne (st := st) hs
  have hle := tokE_le (st := st) hs
  have hm : ((-1 : Int32) < 0) := by decide
  have hm34 : ¬ (-1 : Int32) = 34 := by decide
  have hm39 : ¬ (-1 : Int32) = 39 := by decide
  have h7634 : ¬ (34 : Int32) = 76 := by decide
  have h7639 : ¬ (39 : Int32) = 76 := by decide
  have h3934 : ¬ (39 : Int32) = 34 := by decide
  have d1 : f_W_isDigit (-1) = 0 := by decide
  cases hq : quo (tb st n) n s with
  | some x =>
    have et : tokE (tb st n) n s = x := by rw [tokE, hq]
    rw [et] at hle ⊢
    have hnx : 1 < x.1 - s → nxB (tb st n) n s = tb st n (s + 1) := fun z => by unfold nxB; rw [et, if_neg (by omega)]
    have b1 : 1 < x.1 - s → ¬ tb st n (s + 1) = -1 := fun z => tb_ne (by omega)
    unfold quo quP at hq
    by_cases c : tb st n s = 76
    · rw [if_pos c] at hq
      split at hq
      · rename_i c1
        split at hq
        · rename_i e he
          have := clo_lt _ _ _ (Nat.le_refl _) he
          cases hq
          rw [hnx (by show 1 < e + 1 - s; omega)]
          have q : kdQ (tb st n s) (tb st n (s + 1)) = tb st n (s + 1) := by unfold kdQ; rw [if_pos ⟨c, Or.inl c1⟩]
          unfold kdF kdG
          rw [q, if_pos c1]
        · cases hq
      · rename_i c1
        split at hq
        · rename_i c2
          split at hq
          · rename_i e he
            have := clo_lt _ _ _ (Nat.le_refl _) he
            cases hq
            rw [hnx (by show 1 < e + 1 - s; omega)]
            have q : kdQ (tb st n s) (tb st n (s + 1)) = tb st n (s + 1) := by unfold kdQ; rw [if_pos ⟨c, Or.inr c2⟩]
            unfold kdF kdG
            rw [q, if_neg c1, if_pos c2]
          · cases hq
        · cases hq
    · rw [if_neg c] at hq
      split at hq
      · rename_i c1
        split at hq
        · rename_i e he
          have hl := clo_lt _ _ _ (Nat.le_refl _) he
          cases hq
          have z : 1 < (e + 1, (3 : Int32)).1 - s := by show 1 < e + 1 - s; omega
          rw [hnx z]
          have b1 := b1 z
          have q : kdQ (tb st n s) (tb st n (s + 1)) = tb st n s := by unfold kdQ; rw [if_neg (fun y => c y.1), if_neg (fun y => b1 (f2.2.2.2.2.2.2.1.mp y))]
          unfold kdF kdG
          rw [q, if_pos c1]
        · cases hq
      · rename_i c1
        split at hq
        · rename_i c2
          split at hq
          · rename_i e he
            have hl := clo_lt _ _ _ (Nat.le_refl _) he
            cases hq
            have z : 1 < (e + 1, (4 : Int32)).1 - s := by show 1 < e + 1 - s; omega
            rw [hnx z]
            have b1 := b1 z
            have q : kdQ (tb st n s) (tb st n (s + 1)) = tb st n s := by unfold kdQ; rw [if_neg (fun y => c y.1), if_neg (fun y => b1 (f2.2.2.2.2.2.2.1.mp y))]
            unfold kdF kdG
            rw [q, if_neg c1, if_pos c2]
          · cases hq
        · cases hq
  | none =>
    have et := tokE_none hq
    by_cases c1 : f_W_isLetter (tb st n s) = 0
    · rw [if_pos c1] at et
      have c76 : ¬ tb st n s = 76 := fun z => f1.2.2.1 z c1
      by_cases c2 : nuB (tb st n) s = 0
      · rw [if_pos c2] at et
        have hd : f_W_isDigit (tb st n s) = 0 ∧ (tb st n s = 46 → f_W_isDigit (tb st n (s + 1)) = 0) := by
          unfold nuB at c2
          split at c2
          · rename_i d0
            refine ⟨d0, fun z => ?_⟩
            rw [if_pos z] at c2
            split at c2
            · assumption
            · exact absurd c2 (by decide)
          · exact absurd c2 (by decide)
        have es : soE (tb st n) s = (tokE (tb st n) n s).1 := (tokE_sg hq c1 c2).symm
        have tg := tb_sgl (st := st) (n := n) (i := s)
        have t := ch_triple (tb st n s) (tb st n (s + 1)) (tb st n (s + 2))
        have p := ch_pair (st := st) (n := n) (i := s) (b := tb st n (s + 1))
        by_cases c3 : sgE (tb st n) s = s
        · rw [if_pos c3] at et
          have hnx : nxB (tb st n) n s = -1 := by unfold nxB; rw [et, if_pos (by show s + 1 - s ≤ 1; omega)]
          have c4 : oneOf 3 (tb st n s) = 0 := by
            unfold sgE at c3
            split at c3
            · split at c3
              · split at c3
                · rename_i z
                  exact tg.mp z
                · omega
              · omega
            · omega
          rw [hnx, et]
          have q : kdQ (tb st n s) (-1) = -1 := by unfold kdQ; rw [if_neg (fun y => c76 y.1), if_pos hm]
          unfold kdF kdG
          rw [q, if_neg hm34, if_neg hm39, if_neg (fun y => y c1), if_neg (fun y => y.elim (fun y => y hd.1) (fun y => y.2 d1)), if_neg (fun y => y.elim (fun y => y hm) (fun y => y c4))]
        · rw [if_neg c3] at et
          rw [et]
          have q34 : ¬ tb st n s = 34 ∧ ¬ tb st n s = 39 := by
            unfold sgE at c3
            split at c3
            · split at c3
              · split at c3
                · exact absurd rfl c3
                · rename_i z
                  exact f1.2.2.2.1 (fun y => z (tg.mpr y))
              · rename_i z
                have p := Decidable.not_not.mp (fun y => z (p.mpr y))
                rcases p with ⟨_, p⟩ | ⟨_, p⟩ | ⟨p, _⟩
                · exact f1.2.2.2.2.1 p
                · exact f1.2.2.2.2.2.1 p
                · rw [p]; decide
            · rename_i z
              have t := Decidable.not_not.mp (fun y => z (t.mpr y))
              rcases t with ⟨t, _⟩ | ⟨t, _⟩
              · rw [t]; decide
              · rcases t with t | t <;> rw [t] <;> decide
          by_cases c5 : sgE (tb st n) s - s ≤ 1
          · have hnx : nxB (tb st n) n s = -1 := by unfold nxB; rw [et, if_pos c5]
            have c4 : ¬ oneOf 3 (tb st n s) = 0 := by
              intro y
              have y := tg.mpr y
              apply c3
              unfold sgE at c5 ⊢
              split at c5
              · rename_i z1
                split at c5
                · rename_i z2
                  rw [if_pos z1, if_pos z2, if_pos y]
                · omega
              · omega
            rw [hnx]
            have q : kdQ (tb st n s) (-1) = -1 := by unfold kdQ; rw [if_neg (fun y => c76 y.1), if_pos hm]
            unfold kdF kdG
            rw [q, if_neg hm34, if_neg hm39, if_neg (fun y => y c1), if_neg (fun y => y.elim (fun y => y hd.1) (fun y => y.2 d1)), if_pos (Or.inr c4)]
          · have hnx : nxB (tb st n) n s = tb st n (s + 1) := by unfold nxB; rw [et, if_neg c5]
            have hb : ¬ tb st n (s + 1) < 0 := by
              intro y
              rw [et] at hle
              exact tb_ne (st := st) (n := n) (i := s + 1) (by have := hle.2; dsimp only at this; omega) (f2.2.2.2.2.2.2.1.mp y)
            rw [hnx]
            have q : kdQ (tb st n s) (tb st n (s + 1)) = tb st n s := by unfold kdQ; rw [if_neg (fun y => c76 y.1), if_neg hb]
            unfold kdF kdG
            rw [q, if_neg q34.1, if_neg q34.2, if_neg (fun y => y c1), if_neg (fun y => y.elim (fun y => y hd.1) (fun y => y.2 (hd.2 y.1))), if_pos (Or.inl hb)]
      · rw [if_neg c2] at et
        rw [et]
        have hd : ¬ f_W_isDigit (tb st n s) = 0 ∨ (tb st n s = 46 ∧ ¬ f_W_isDigit (tb st n (s + 1)) = 0) := by
          unfold nuB at c2
          split at c2
          · split at c2
            · split at c2
              · exact absurd rfl c2
              · rename_i z1 z2
                exact Or.inr ⟨z1, z2⟩
            · exact absurd rfl c2
          · rename_i z
            exact Or.inl z
        have q34 : ¬ tb st n s = 34 ∧ ¬ tb st n s = 39 := by
          rcases hd with hd | hd
          · exact ⟨(f1.2.1 hd).1, (f1.2.1 hd).2.1⟩
          · rw [hd.1]; decide
        have hd2 : ¬ f_W_isDigit (tb st n s) = 0 ∨ (tb st n s = 46 ∧ ¬ f_W_isDigit (nxB (tb st n) n s) = 0) := by
          rcases hd with hd | hd
          · exact Or.inl hd
          · refine Or.inr ⟨hd.1, ?_⟩
            have hg : ¬ f_W_goesOnNumber (tb st n s) (tb st n (s + 1)) = 0 := fun y => hd.2 (ch_goes.mp y).1
            have hl : s + 1 < n := tb_lt (fun y => hd.2 (f2.2.2.2.2.2.2.2 y).1)
            have hu : s + 2 ≤ nuE (tb st n) n (s + 1) := by
              rw [nuE, dif_pos hl, show s + 1 - 1 = s by omega, if_neg hg]
              exact (nuE_in (b := tb st n) (n := n) _ (s + 1 + 1) (Nat.le_refl _)).1
            have hnx : nxB (tb st n) n s = tb st n (s + 1) := by unfold nxB; rw [et, if_neg (by dsimp only; omega)]
            rw [hnx]
            exact hd.2
        have qn : kdQ (tb st n s) (nxB (tb st n) n s) = -1 ∨ kdQ (tb st n s) (nxB (tb st n) n s) = tb st n s := by
          unfold kdQ
          rw [if_neg (fun y => c76 y.1)]
          split
          · exact Or.inl rfl
          · exact Or.inr rfl
        unfold kdF kdG
        rcases qn with e | e
        · rw [e, if_neg hm34, if_neg hm39, if_neg (fun y => y c1), if_pos hd2]
        · rw [e, if_neg q34.1, if_neg q34.2, if_neg (fun y => y c1), if_pos hd2]
    · rw [if_neg c1] at et
      have hx : ¬ (nxB (tb st n) n s = 34 ∨ nxB (tb st n) n s = 39) := by
        unfold nxB
        rw [et]
        dsimp only
        split
        · decide
        · rename_i z
          intro y
          apply z
          have hl : f_W_isLetter (tb st n (s + 1)) = 0 ∧ f_W_isDigit (tb st n (s + 1)) = 0 := by rcases y with y | y <;> rw [y] <;> decide
          have : nmE (tb st n) n (s + 1) = s + 1 := by
            rw [nmE]
            split
            · rw [if_pos hl.1, if_pos hl.2]
            · rfl
          omega
      rw [et]
      have q := f1.1 c1
      have qn : kdQ (tb st n s) (nxB (tb st n) n s) = -1 ∨ kdQ (tb st n s) (nxB (tb st n) n s) = tb st n s := by
        unfold kdQ
        rw [if_neg (fun y => hx y.2)]
        split
        · exact Or.inl rfl
        · exact Or.inr rfl
      unfold kdF kdG
      rcases qn with e | e
      · rw [e, if_neg hm34, if_neg hm39, if_pos c1]
      · rw [e, if_neg q.1, if_neg q.2.1, if_pos c1]
theorem r_kindOf {post : Int32 → Prop} {st tA tS : Nat → Int32} {n j : Nat} {x : Nat × Nat × Int32} {rs : Int32} {rv : Int64} {ip cn lk bd bz ir rp hd : Int32} (hn : n ≤ 4096) (hR : tkR (tkl (tb st n) n 4096 0) tA tS) (hx : (tkl (tb st n) n 4096 0)[j]? = some x) (h : post x.2.2) : wp_R_kindOf post rs rv ip cn lk bd bz ir rp hd st tA tS (nI j) := by
  obtain ⟨h1, h2⟩ := tkl_at _ _ x (List.mem_of_getElem? hx)
  obtain ⟨h3, h4⟩ := hR j x hx
  have hle := tokE_le (st := st) h1
  have hj : j < n := by
    have := (List.getElem?_eq_some_iff.mp hx).1
    have := tkl_len (st := st) (n := n) 4096 0 (by omega)
    omega
  have hk := kd_eq (st := st) h1
  rw [← h2] at hk hle
  rw [← hk] at h
  unfold wp_R_kindOf wp_R_byteOf
  have hj4 := pk_in j 4096 (by omega) rfl
  have e0 : nI x.1 + 0 = nI x.1 := by rw [show (0 : Int32) = nI 0 from rfl, nI_add]; rfl
  rw [pk_cl j rfl (by omega), h3, e0, nI_1, pk_cl x.1 rfl (by omega), pk_cl (x.1 + 1) rfl (by omega)]
  have et : st x.1 &&& 255 = tb st n x.1 := by unfold tb; rw [if_pos h1]
  rw [et, h4]
  refine ⟨hj4, pk_in x.1 4096 (by omega), hj4, pk_le (x.2.1 - x.1) 1 (fun c => ?_) (fun c => ⟨hj4, ?_, ?_⟩) rfl rfl (by omega) (by omega)⟩
  · refine r_kind27 (i := n) (tb_out (Nat.le_refl _)).symm ?_
    unfold nxB at h
    rw [← h2, if_pos c] at h
    exact h
  · exact pk_in (x.1 + 1) 4096 (by omega)
  · have et1 : st (x.1 + 1) &&& 255 = tb st n (x.1 + 1) := by unfold tb; rw [if_pos (by omega)]
    rw [et1]
    refine r_kind27 (i := x.1 + 1) rfl ?_
    unfold nxB at h
    rw [← h2, if_neg (by omega)] at h
    exact h
