/-! reckon of the reference -/
theorem rn_over {ts : List Tok} {V : List (Int64 × Int32)} {d : Int32} (h0 : ¬ ts = []) (h : nxC (cdA ts)) : rn ts 0 [] V d = none := by
  cases ts with
  | nil => exact absurd rfl h0
  | cons t r =>
    have h : nxC (tkC t) := h
    have e : stB (tkC t) [] V d = none := by
      unfold stB
      rcases h with h | h | h
      · rw [if_pos h]
      · rw [h, if_neg (by decide)]
        rfl
      · rw [h, if_neg (by decide)]
        rfl
    rw [rn, if_pos rfl, e]
theorem rkA_z (R : Option ((Int64 × Int32) × Int32)) : vz (rkA R).2.2 := by
  unfold rkA
  split
  · exact Or.inl rfl
  · split
    · show vz (if _ then 0 else 1)
      split
      · exact Or.inl rfl
      · exact Or.inr rfl
    · exact Or.inl rfl
theorem r_reckon {post : Int32 → Int64 → Int32 → Int32 → Int32 → Int32 → Int32 → Int32 → Int32 → Int32 → (Nat → Int32) → (Nat → Int32) → (Nat → Int32) → (Nat → Int64) → (Nat → Int32) → Prop} {st tA tS sg hp : Nat → Int32} {hv : Nat → Int64} {n : Nat} {rv : Int64} {ip cn lk bd bz ir rp hd : Int32} (hn : n ≤ 4096) (hb : bys st) (hQ : ∀ cn lk bd bz ir rp hd tA tS sg hv hp, post (rkA (cond (tb st n) n)).1 (rkA (cond (tb st n) n)).2.1 (rkA (cond (tb st n) n)).2.2 cn lk bd bz ir rp hd tA tS sg hv hp) : wp_R_reckon post (nI n) rv ip cn lk bd bz ir rp hd st tA tS sg hv hp := by
  refine r_cutAll hn hb (fun tA tS hR => ?_)
  have hN := TK_len (st := st) hn
  have e0 : cond (tb st n) n = rn (tsA (tb st n) n 0) 1 [] [] 0 := rfl
  have c0 : (0 : Int32) = 0 → (¬ (1 : Int32) = 0 ↔ cS [] = 0) := fun _ => ⟨fun _ => rfl, fun _ => by decide⟩
  have t0 : tpO [] := fun o r e => by cases e
  have Q : ∀ R, rkA (cond (tb st n) n) = R → ∀ cn lk bd bz ir rp hd tA tS sg hv hp, post R.1 R.2.1 R.2.2 cn lk bd bz ir rp hd tA tS sg hv hp := by
    intro R e
    rw [← e]
    exact hQ
  have go : w_R_reckon_17 post (lkA (TK (tb st n) n).length 0) (nI n) rv ip (nI (TK (tb st n) n).length) lk bd bz ir rp hd st tA tS sg hv hp := by
    refine (r_group hn hR 250 0 (by omega)).1 (by omega) _ (nI n) rv ip 0 0 1 0 rp sg hv hp (by omega) (Or.inr rfl) (Or.inl rfl) (fun v i' bz' pl sg' hv' hp' g nl s => br_t rfl ?_) (fun B v i' bz' ir pl hd sg' hv' hp' => br_f (by decide) (br_f (by decide) (br_f (by decide) ?_)))
    · obtain ⟨g1, g2, g3, g4⟩ := g
      obtain ⟨vc, a, e⟩ := g4 [] [] rfl c0 t0
      by_cases hi : i' < (TK (tb st n) n).length
      · have el : lkA (TK (tb st n) n).length i' = nI i' := if_pos hi
        have e2 : cond (tb st n) n = none := by
          refine e0.trans (e.trans (rn_over (fun z => ?_) nl.1))
          rw [tsA_at (List.getElem?_eq_getElem hi)] at z
          cases z
        have e3 : rkA (cond (tb st n) n) = (11, 0, 0) := by rw [e2]; rfl
        rw [el]
        exact br_f (nI_pos (by omega)) (br_f (by decide) (br_f (by decide) (Q (11, 0, 0) e3 _ _ _ _ _ _ _ _ _ _ _ _)))
      · have el : lkA (TK (tb st n) n).length i' = -1 := if_neg hi
        have e2 : cond (tb st n) n = some ((vc, pl), bz') := by
          refine e0.trans (e.trans ?_)
          rw [tsA_end (by omega), rn, if_pos rfl]
          rfl
        have e3 : rkA (cond (tb st n) n) = if bz' = 0 then (0, vc, if pl = 0 then 0 else 1) else (12, 0, 0) := by rw [e2]; rfl
        rw [el]
        refine br_t (by decide) (br_c (fun z => br_t rfl (br_t rfl (br_c (fun y => ?_) (fun y => ?_)))) (fun z => br_f (by decide) (br_f (by decide) ?_)))
        · rw [if_pos z, if_pos y, a z (by decide)] at e3
          exact Q (0, v, 0) e3 _ _ _ _ _ _ _ _ _ _ _ _
        · rw [if_pos z, if_neg y, a z (by decide)] at e3
          exact Q (0, v, 1) e3 _ _ _ _ _ _ _ _ _ _ _ _
        · rw [if_neg z] at e3
          exact Q (12, 0, 0) e3 _ _ _ _ _ _ _ _ _ _ _ _
    · have e3 : rkA (cond (tb st n) n) = (11, 0, 0) := by
        rw [e0, B [] [] rfl c0 t0]
        rfl
      exact Q (11, 0, 0) e3 _ _ _ _ _ _ _ _ _ _ _ _
  by_cases h0 : 0 < (TK (tb st n) n).length
  · have el : lkA (TK (tb st n) n).length 0 = 0 := if_pos h0
    rw [el] at go
    exact br_f (nI_nle h0 (Nat.lt_of_le_of_lt hN (by decide))) go
  · have el : lkA (TK (tb st n) n).length 0 = -1 := if_neg h0
    rw [el] at go
    exact br_t (nI_le (b := 0) (Nat.le_of_not_lt h0) (by decide)) go
