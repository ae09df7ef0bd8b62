/-! isNeeded: whether what stands behind the held operators is needed -/
def skJ (o : Int32) (v : Int64) : Prop := (o = 0 ∧ ¬ v = 0) ∨ (o = 1 ∧ v = 0)
theorem skJ_class : ∀ k, k < 18 → ((cod (sgn k) = 31868 ↔ nI k = 0) ∧ (cod (sgn k) = 9766 ↔ nI k = 1)) := by decide +kernel
theorem skR_eq {k : Nat} (hk : k < 18) (v : Int64) : skR (cod (sgn k)) v = 0 ↔ ¬ skJ (nI k) v := by
  obtain ⟨a, b⟩ := skJ_class k hk
  unfold skR skJ
  by_cases c : cod (sgn k) = 9766
  · have c2 := b.mp c
    rw [if_pos c]
    by_cases d : v = 0
    · rw [if_pos d]
      exact ⟨fun z => absurd z (by decide), fun z => absurd (Or.inr ⟨c2, d⟩) z⟩
    · rw [if_neg d]
      refine ⟨fun _ z => ?_, fun _ => rfl⟩
      rcases z with z | z
      · rw [c2] at z
        exact absurd z.1 (by decide)
      · exact d z.2
  · rw [if_neg c]
    have c2 : ¬ nI k = 1 := fun z => c (b.mpr z)
    by_cases e : cod (sgn k) = 31868
    · have e2 := a.mp e
      rw [if_pos e]
      by_cases d : v = 0
      · rw [if_pos d]
        refine ⟨fun _ z => ?_, fun _ => rfl⟩
        rcases z with z | z
        · exact z.2 d
        · exact c2 z.1
      · rw [if_neg d]
        exact ⟨fun z => absurd z (by decide), fun z => absurd (Or.inl ⟨e2, d⟩) z⟩
    · rw [if_neg e]
      refine ⟨fun _ z => ?_, fun _ => rfl⟩
      rcases z with z | z
      · exact e (a.mpr z.1)
      · exact c2 z.1
theorem r_needLoop {post : Int32 → Prop} {sg : Nat → Int32} {hv : Nat → Int64} {h base : Nat} {nd rs : Int32} {rv : Int64} {ip cn lk bd bz ir rp : Int32} (hh : h ≤ 800) (h1 : ¬ nd = 0 → (∀ j, base ≤ j → j < h → ¬ skJ (sg j) (hv j)) → post 1) (h0 : (nd = 0 ∨ ∃ j, base ≤ j ∧ j < h ∧ skJ (sg j) (hv j)) → post 0) : ∀ (d k : Nat) (x : Int32), h - k ≤ d → base ≤ k → k ≤ h → ((x = 1 ∧ ¬ nd = 0 ∧ ∀ j, base ≤ j → j < k → ¬ skJ (sg j) (hv j)) ∨ (x = 0 ∧ (nd = 0 ∨ ∃ j, base ≤ j ∧ j < k ∧ skJ (sg j) (hv j)))) → w_R_isNeeded_5 post rs rv ip cn lk bd bz ir rp (nI h) sg hv (d + 1) x (nI k) := by
  intro d
  have fin : ∀ k x, k = h → ((x = 1 ∧ ¬ nd = 0 ∧ ∀ j, base ≤ j → j < k → ¬ skJ (sg j) (hv j)) ∨ (x = 0 ∧ (nd = 0 ∨ ∃ j, base ≤ j ∧ j < k ∧ skJ (sg j) (hv j)))) → vz x ∧ post x := by
    intro k x e z
    subst e
    rcases z with ⟨rfl, a, b⟩ | ⟨rfl, a⟩
    · exact ⟨Or.inr rfl, h1 a b⟩
    · exact ⟨Or.inl rfl, h0 a⟩
  induction d with
  | zero =>
    intro k x hk hk2 hk3 hx
    exact br_t (nI_le (by omega) (by omega)) (fin k x (by omega) hx)
  | succ d ih =>
    intro k x hk hk2 hk3 hx
    refine pk_le h k (fun z => fin k x (by omega) hx) (fun z => ?_) rfl rfl (by omega) (by omega)
    have go : ∀ y : Int32, ((y = 1 ∧ ¬ nd = 0 ∧ ∀ j, base ≤ j → j < k + 1 → ¬ skJ (sg j) (hv j)) ∨ (y = 0 ∧ (nd = 0 ∨ ∃ j, base ≤ j ∧ j < k + 1 ∧ skJ (sg j) (hv j)))) → ∀ x4 : Int32, x4 = nI k + 1 → w_R_isNeeded_5 post rs rv ip cn lk bd bz ir rp (nI h) sg hv (d + 1) y x4 := fun y hy => nm_r (nI_1 k) (ih (k + 1) y (by omega) (by omega) (by omega) hy)
    have hi := pk_in k 800 (by omega) rfl
    rcases hx with ⟨rfl, a, b⟩ | ⟨rfl, a⟩
    · refine br_f (by decide) ?_
      rw [pk_cl k rfl (by omega)]
      have g1 : ¬ skJ (sg k) (hv k) → ∀ x4 : Int32, x4 = nI k + 1 → w_R_isNeeded_5 post rs rv ip cn lk bd bz ir rp (nI h) sg hv (d + 1) 1 x4 := fun y => go 1 (Or.inl ⟨rfl, a, fun j j1 j2 => by
        by_cases e : j = k
        · rw [e]
          exact y
        · exact b j j1 (by omega)⟩)
      have g0 : skJ (sg k) (hv k) → ∀ x4 : Int32, x4 = nI k + 1 → w_R_isNeeded_5 post rs rv ip cn lk bd bz ir rp (nI h) sg hv (d + 1) 0 x4 := fun y => go 0 (Or.inr ⟨rfl, Or.inr ⟨k, hk2, by omega, y⟩⟩)
      have e0 := lg_cmp_eq (hv k) 0
      have h01 : ¬ (0 : Int32) = 1 := by decide
      refine ⟨hi, br_c (fun c1 => ⟨hi, br_c (fun c2 => ⟨hi, br_c (fun c3 => ?_) (fun c3 => g1 (fun y => ?_))⟩) (fun c2 => g0 (Or.inl ⟨c1, fun y => c2 (e0.mpr y)⟩))⟩) (fun c1 => ⟨hi, br_c (fun c2 => ⟨hi, br_c (fun c3 => g0 (Or.inr ⟨c2, e0.mp c3⟩)) (fun c3 => g1 (fun y => ?_))⟩) (fun c2 => g1 (fun y => y.elim (fun y => c1 y.1) (fun y => c2 y.1)))⟩)⟩
      · exact absurd (c1.symm.trans c3) h01
      · exact y.elim (fun y => y.2 (e0.mp c2)) (fun y => c3 y.1)
      · exact y.elim (fun y => c1 y.1) (fun y => c3 (e0.mpr y.2))
    · refine br_t rfl (go 0 (Or.inr ⟨rfl, ?_⟩))
      rcases a with a | ⟨j, j1, j2, j3⟩
      · exact Or.inl a
      · exact Or.inr ⟨j, j1, by omega, j3⟩
theorem r_isNeeded {post : Int32 → Prop} {sg : Nat → Int32} {hv : Nat → Int64} {h base : Nat} {nd rs : Int32} {rv : Int64} {ip cn lk bd bz ir rp : Int32} (hz : vz nd) (hb : base ≤ h) (hh : h ≤ 800) (h1 : ¬ nd = 0 → (∀ j, base ≤ j → j < h → ¬ skJ (sg j) (hv j)) → post 1) (h0 : (nd = 0 ∨ ∃ j, base ≤ j ∧ j < h ∧ skJ (sg j) (hv j)) → post 0) : wp_R_isNeeded post rs rv ip cn lk bd bz ir rp (nI h) sg hv (nI base) nd := by
  refine ⟨_, r_needLoop hh h1 h0 (h - base) base nd (Nat.le_refl _) (Nat.le_refl _) hb ?_⟩
  rcases hz with rfl | rfl
  · exact Or.inr ⟨rfl, Or.inl rfl⟩
  · exact Or.inl ⟨rfl, by decide, fun j j1 j2 => absurd j2 (by omega)⟩
