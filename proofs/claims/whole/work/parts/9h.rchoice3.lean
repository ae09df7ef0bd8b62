/-! choice of the reference -/
def nxE (c : Int32) : Prop := nxC c ∨ c = 63
theorem tk_cd {b : Nat → Int32} {n i : Nat} {c : Int32} (h0 : ¬ c = 0) (h : cdA (tsA b n i) = c) : ∃ x, (TK b n)[i]? = some x ∧ tkT b x = .inl c := by
  by_cases hi : i < (TK b n).length
  · obtain ⟨x, hx⟩ : ∃ x, (TK b n)[i]? = some x := ⟨_, List.getElem?_eq_getElem hi⟩
    refine ⟨x, hx, ?_⟩
    rw [tsA_at hx] at h
    have h : tkC (tkT b x) = c := h
    cases hq : tkT b x with
    | inl y =>
      rw [hq] at h
      have h : y = c := h
      rw [h]
    | inr y =>
      rw [hq] at h
      have h : (0 : Int32) = c := h
      exact absurd h.symm h0
  · rw [tsA_end (by omega)] at h
    have h : (0 : Int32) = c := h
    exact absurd h.symm h0
theorem cod26 : cod 26 = 63 ∧ cod 27 = 58 := by decide
theorem r_choice {W_c W_e W_f : TG} {st tA tS : Nat → Int32} {n k hm : Nat} (hn : n ≤ 4096) (hR : tkR (TK (tb st n) n) tA tS) (hk : k ≤ 60) (He : Sp W_e st tA tS n k hm tpO nxE) (Hc : k + 1 ≤ 60 → Sp W_c st tA tS n (k + 1) hm tpO nxC) : Sp (wb_R_choice W_c W_e W_f) st tA tS n k hm tpO nxC := by
  intro post rs rv ip i h nd bz rp sg hv hp hh hz1 hz2 hg hb
  have hN := TK_len (st := st) hn
  obtain ⟨q26, q27⟩ := cod26
  have bad161 : Bd (tb st n) n i k nd bz tpO → ∀ (x2 x4 : Int64) (x6 : Int32) (z0 : Int64) (j : Nat) (bz' ir pl hd : Int32) (sg' : Nat → Int32) (hv' : Nat → Int64) (hp' : Nat → Int32), w_R_choice_161 W_c W_e W_f post x2 x4 x6 z0 rs rv ip (nI (TK (tb st n) n).length) (lkA (TK (tb st n) n).length j) 1 bz' ir pl hd st tA tS sg' hv' hp' := by
    intro B x2 x4 x6 z0 j bz' ir pl hd sg' hv' hp'
    have B := hb B
    exact nm_e (br_c (fun _ => br_c (fun _ => br_c (fun _ => B _ _ _ _ _ _ _ _ _) (fun _ => B _ _ _ _ _ _ _ _ _)) (fun _ => br_c (fun _ => B _ _ _ _ _ _ _ _ _) (fun _ => B _ _ _ _ _ _ _ _ _))) (fun _ => br_c (fun _ => B _ _ _ _ _ _ _ _ _) (fun _ => B _ _ _ _ _ _ _ _ _)))
  have bad124 : Bd (tb st n) n i k nd bz tpO → ∀ (x2 x4 : Int64) (x6 : Int32) (j : Nat) (bd bz' ir pl hd : Int32) (sg' : Nat → Int32) (hv' : Nat → Int64) (hp' : Nat → Int32), w_R_choice_124 W_c W_e W_f post nd x2 x4 x6 1 rs rv ip (nI (TK (tb st n) n).length) (lkA (TK (tb st n) n).length j) bd bz' ir pl hd st tA tS sg' hv' hp' := by
    intro B x2 x4 x6 j bd bz' ir pl hd sg' hv' hp'
    exact ⟨Or.inr rfl, r_goOnAny hN (fun j => br_f (by decide) (bad161 B _ _ _ _ _ _ _ _ _ _ _ _))⟩
  have bad90 : Bd (tb st n) n i k nd bz tpO → ∀ (x2 z0 : Int64) (j : Nat) (bz' ir pl hd : Int32) (sg' : Nat → Int32) (hv' : Nat → Int64) (hp' : Nat → Int32), w_R_choice_90 W_c W_e W_f post nd x2 z0 rs rv ip (nI (TK (tb st n) n).length) (lkA (TK (tb st n) n).length j) 1 bz' ir pl hd st tA tS sg' hv' hp' := by
    intro B x2 z0 j bz' ir pl hd sg' hv' hp'
    exact br_f (by decide) (bad124 B _ _ _ _ _ _ _ _ _ _ _ _)
  refine He _ rs rv ip i h nd bz rp sg hv hp hh hz1 hz2 (fun v i1 bz1 pl1 sg1 hv1 hp1 g1 nx1 s1 => br_t rfl (r_isC 26 (by decide) (by decide) hn hR rfl q26 ⟨fun y => br_f (by decide) ?_, fun y => br_t rfl (hg v i1 bz1 pl1 sg1 hv1 hp1 g1 ⟨nx1.1.resolve_right y, nx1.2⟩ s1)⟩)) (fun B v i' bz' ir pl hd sg' hv' hp' => br_f (by decide) (hb B _ _ _ _ _ _ _ _ _))
  obtain ⟨x, hx, tx⟩ := tk_cd (by decide) y
  have hi1 : i1 < (TK (tb st n) n).length := (List.getElem?_eq_some_iff.mp hx).1
  have l1 := nx1.2
  refine r_goOn hN hi1 (nm_r (nI_1 k) (pk_le (k + 1) 60 (fun c6 => ?_) (fun c6 => ⟨Or.inr rfl, br_f (by decide) (bad90 (Bd_q60 hx tx (by omega) g1) _ _ _ _ _ _ _ _ _ _)⟩) rfl rfl (by omega) (by omega)))
  have goA : ∀ nda, vz nda → (¬ nda = 0 ↔ (¬ nd = 0 ∧ ¬ v = 0)) → W_c (fun r lk bd bz' ir pl hd sg' hv' hp' => w_R_choice_90 W_c W_e W_f post nd v r rs rv ip (nI (TK (tb st n) n).length) lk bd bz' ir pl hd st tA tS sg' hv' hp') rs rv ip (nI (TK (tb st n) n).length) (lkA (TK (tb st n) n).length (i1 + 1)) 0 bz1 (nI (k + 1)) pl1 (nI h) st tA tS sg1 hv1 hp1 nda := by
    intro nda hza ea
    refine Hc c6 _ rs rv ip (i1 + 1) h nda bz1 pl1 sg1 hv1 hp1 hh hza g1.2.1 (fun va i2 bz2 pl2 sg2 hv2 hp2 g2 nx2 s2 => br_t rfl (r_isC 27 (by decide) (by decide) hn hR rfl q27 ⟨fun y2 => br_f (by decide) ?_, fun y2 => br_t rfl (bad124 (Bd_qNo hx tx c6 ea g1 g2 ?_) _ _ _ _ _ _ _ _ _ _ _ _)⟩)) (fun B v' i' bz' ir pl hd sg' hv' hp' => bad90 (Bd_qa hx tx c6 ea g1 B) _ _ _ _ _ _ _ _ _ _)
    · obtain ⟨x', hy, ty⟩ := tk_cd (by decide) y2
      have hi2 : i2 < (TK (tb st n) n).length := (List.getElem?_eq_some_iff.mp hy).1
      have l2 := nx2.2
      have goB : ∀ ndb, vz ndb → (¬ ndb = 0 ↔ (¬ nd = 0 ∧ v = 0)) → W_c (fun r lk bd bz' ir pl hd sg' hv' hp' => w_R_choice_161 W_c W_e W_f post v va pl2 r rs rv ip (nI (TK (tb st n) n).length) lk bd bz' ir pl hd st tA tS sg' hv' hp') rs rv ip (nI (TK (tb st n) n).length) (lkA (TK (tb st n) n).length (i2 + 1)) 0 bz2 (nI (k + 1)) pl2 (nI h) st tA tS sg2 hv2 hp2 ndb := by
        intro ndb hzb eb
        refine Hc c6 _ rs rv ip (i2 + 1) h ndb bz2 pl2 sg2 hv2 hp2 hh hzb g2.2.1 (fun vb i3 bz3 pl3 sg3 hv3 hp3 g3 nx3 s3 => ?_) (fun B v' i' bz' ir pl hd sg' hv' hp' => bad161 (Bd_qb hx tx hy ty c6 ea eb g1 g2 B) _ _ _ _ _ _ _ _ _ _ _ _)
        have l3 := nx3.2
        have G := hg (if v = 0 then vb else va) i3 bz3 _ sg3 hv3 hp3 (Gd_ch hx tx hy ty c6 ea eb nx3.1 g1 g2 g3) ⟨nx3.1, by omega⟩ (fun j hj => ⟨(s3 j hj).1.trans ((s2 j hj).1.trans (s1 j hj).1), (s3 j hj).2.1.trans ((s2 j hj).2.1.trans (s1 j hj).2.1), (s3 j hj).2.2.trans ((s2 j hj).2.2.trans (s1 j hj).2.2)⟩)
        refine nm_r (nI_pred k) (br_c (fun p2 => br_c (fun p3 => br_c (fun z => ?_) (fun z => ?_)) (fun p3 => br_c (fun z => ?_) (fun z => ?_))) (fun p2 => br_c (fun z => ?_) (fun z => ?_)))
        · rw [if_pos p2, if_pos p3, if_pos ((lg_cmp_eq _ _).mp z)] at G
          exact G
        · rw [if_pos p2, if_pos p3, if_neg (fun u => z ((lg_cmp_eq _ _).mpr u))] at G
          exact G
        · rw [if_pos p2, if_neg p3, if_pos ((lg_cmp_eq _ _).mp z)] at G
          exact G
        · rw [if_pos p2, if_neg p3, if_neg (fun u => z ((lg_cmp_eq _ _).mpr u))] at G
          exact G
        · rw [if_neg p2, if_pos ((lg_cmp_eq _ _).mp z)] at G
          exact G
        · rw [if_neg p2, if_neg (fun u => z ((lg_cmp_eq _ _).mpr u))] at G
          exact G
      exact ⟨Or.inl rfl, r_goOn hN hi2 (br_t rfl (br_c (fun z => goB 0 (Or.inl rfl) ⟨fun w => absurd rfl w, fun w => absurd z w.1⟩) (fun z => br_c (fun w => goB 1 (Or.inr rfl) ⟨fun _ => ⟨z, (lg_cmp_eq _ _).mp w⟩, fun _ => by decide⟩) (fun w => goB 0 (Or.inl rfl) ⟨fun u => absurd rfl u, fun u => absurd ((lg_cmp_eq _ _).mpr u.2) w⟩))))⟩
    · rcases nx2.1 with z | z | z
      · exact Or.inl z
      · exact Or.inr z
      · exact absurd z y2
  exact ⟨Or.inl rfl, br_t rfl (br_c (fun z => goA 0 (Or.inl rfl) ⟨fun w => absurd rfl w, fun w => absurd z w.1⟩) (fun z => br_c (fun w => goA 0 (Or.inl rfl) ⟨fun u => absurd rfl u, fun u => absurd ((lg_cmp_eq _ _).mp w) u.2⟩) (fun w => goA 1 (Or.inr rfl) ⟨fun _ => ⟨z, fun u => w ((lg_cmp_eq _ _).mpr u)⟩, fun _ => by decide⟩)))⟩
