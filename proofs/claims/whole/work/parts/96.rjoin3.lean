/-! join: divisions, and all operators at once -/
def jq (o : Int32) (v w : Int64) (p : Int32) : Int64 := if w = 0 then 0 else (if o = 16 then f_S_quotient v w p else v - w * f_S_quotient v w p)
def jz (bz nd : Int32) (w : Int64) : Int32 := if bz = 0 then (if nd = 0 then 0 else (if w = 0 then 1 else 0)) else 1
theorem j402 {post : Int64 → Int32 → Int32 → Prop} {v w : Int64} {o p z0 : Int32} {rs : Int32} {rv : Int64} {ip cn lk bd bz ir rp hd : Int32} (hz : vz z0) (h : post (jq o v w p) z0 rp) : w_R_join_402 post o v w p z0 rs rv ip cn lk bd bz ir rp hd := by
  unfold jq at h
  refine ⟨hz, br_c (fun c => ?_) (fun c => ?_)⟩
  · rw [if_pos ((lg_cmp_eq _ _).mp c)] at h
    exact h
  · have hw : ¬ w = 0 := fun z => c ((lg_cmp_eq _ _).mpr z)
    rw [if_neg hw] at h
    refine br_c (fun c2 => r_quot hw ?_) (fun c2 => r_quot hw ?_)
    · rw [if_pos c2] at h
      exact h
    · rw [if_neg c2] at h
      exact h
theorem j106 {post : Int64 → Int32 → Int32 → Prop} {v w : Int64} {o p x9 z0 nd : Int32} {rs : Int32} {rv : Int64} {ip cn lk bd bz ir rp hd : Int32} (ho : o = 16 ∨ o = 17) (h : post (jq o v w p) (jz bz nd w) rp) : w_R_join_106 post o v w nd p x9 z0 rs rv ip cn lk bd bz ir rp hd := by
  have core : ((bz = 0 → ((nd = 0 → (w_R_join_402 post o v w p 0 rs rv ip cn lk bd bz ir rp hd)) ∧ (¬ nd = 0 → (((lg_cmp w 0) = 0 → (w_R_join_402 post o v w p 1 rs rv ip cn lk bd bz ir rp hd)) ∧ (¬ (lg_cmp w 0) = 0 → (w_R_join_402 post o v w p 0 rs rv ip cn lk bd bz ir rp hd)))))) ∧ (¬ bz = 0 → (w_R_join_402 post o v w p 1 rs rv ip cn lk bd bz ir rp hd))) := by
    unfold jz at h
    refine br_c (fun c1 => br_c (fun c2 => ?_) (fun c2 => br_c (fun c3 => ?_) (fun c3 => ?_))) (fun c1 => ?_)
    · rw [if_pos c1, if_pos c2] at h
      exact j402 (Or.inl rfl) h
    · rw [if_pos c1, if_neg c2, if_pos ((lg_cmp_eq _ _).mp c3)] at h
      exact j402 (Or.inr rfl) h
    · rw [if_pos c1, if_neg c2, if_neg (fun z => c3 ((lg_cmp_eq _ _).mpr z))] at h
      exact j402 (Or.inl rfl) h
    · rw [if_neg c1] at h
      exact j402 (Or.inr rfl) h
  rcases ho with rfl | rfl
  · exact br_f (by decide) (br_f (by decide) (br_f (by decide) (br_f (by decide) (br_f (by decide) (br_f (by decide) (br_f (by decide) (br_f (by decide) (br_f (by decide) (br_f (by decide) (br_f (by decide) (br_f (by decide) (br_f (by decide) (br_f (by decide) (br_f (by decide) (br_f (by decide) (core))))))))))))))))
  · exact br_f (by decide) (br_f (by decide) (br_f (by decide) (br_f (by decide) (br_f (by decide) (br_f (by decide) (br_f (by decide) (br_f (by decide) (br_f (by decide) (br_f (by decide) (br_f (by decide) (br_f (by decide) (br_f (by decide) (br_f (by decide) (br_f (by decide) (br_f (by decide) (core))))))))))))))))
theorem j17 {post : Int64 → Int32 → Int32 → Prop} {v w : Int64} {o x6 z0 nd : Int32} {rs : Int32} {rv : Int64} {ip cn lk bd bz ir rp hd : Int32} (ho : o = 16 ∨ o = 17) (hz : vz z0) (h : post (jq o v w z0) (jz bz nd w) z0) : w_R_join_17 post o v w x6 nd z0 rs rv ip cn lk bd bz ir rp hd := by
  have j63 : w_R_join_63 post o v w nd z0 x6 z0 rs rv ip cn lk bd bz ir rp hd := ⟨hz, br_c (fun _ => br_c (fun _ => j106 ho h) (fun _ => j106 ho h)) (fun _ => br_c (fun _ => j106 ho h) (fun _ => j106 ho h))⟩
  rcases ho with rfl | rfl
  · exact br_f (by decide) (br_f (by decide) (br_t (by decide) (br_f (by decide) (br_f (by decide) j63))))
  · exact br_f (by decide) (br_f (by decide) (br_t (by decide) (br_f (by decide) (br_f (by decide) j63))))
theorem rj_d {post : Int64 → Int32 → Int32 → Prop} {v w : Int64} {o kd nd : Int32} {rs : Int32} {rv : Int64} {ip cn lk bd bz ir rp hd : Int32} (ho : o = 16 ∨ o = 17) (h1 : vz kd) (h2 : vz rp) (h : post (jq o v w (if kd = 0 then rp else 1)) (jz bz nd w) (if kd = 0 then rp else 1)) : wp_R_join post rs rv ip cn lk bd bz ir rp hd o v w kd nd := by
  refine br_c (fun c => br_c (fun c2 => ?_) (fun c2 => ?_)) (fun c => ?_)
  · rw [if_pos c, c2] at h
    exact j17 ho (Or.inl rfl) h
  · have e : rp = 1 := h2.resolve_left c2
    rw [if_pos c, e] at h
    exact j17 ho (Or.inr rfl) h
  · rw [if_neg c] at h
    exact j17 ho (Or.inr rfl) h
theorem jq_16 (v w : Int64) (p : Int32) : jq 16 v w p = f_S_pair 47 v w p := by
  have e : f_S_pair 47 v w p = f_S_quotient v w p := rfl
  rw [e]
  unfold jq
  rw [if_pos rfl]
  by_cases c : w = 0
  · rw [if_pos c]
    unfold f_S_quotient
    rw [if_pos ((lg_cmp_eq _ _).mpr c)]
  · rw [if_neg c]
theorem jq_17 (v w : Int64) (p : Int32) (c : ¬ w = 0) : jq 17 v w p = f_S_pair 37 v w p := by
  have e : f_S_pair 37 v w p = v - f_S_quotient v w p * w := rfl
  rw [e]
  unfold jq
  rw [if_neg c, if_neg (by decide), Int64.mul_comm]
theorem jpl {c kd rp : Int32} (h1 : vz kd) (h2 : vz rp) (hc : c = 47 ∨ c = 37) : plP c kd rp = (if kd = 0 then rp else 1) ∧ (if plP c kd rp = 0 then (0 : Int32) else (if f_S_isTruth c = 0 then 1 else 0)) = (if kd = 0 then rp else 1) := by
  rcases hc with rfl | rfl <;> rcases h1 with rfl | rfl <;> rcases h2 with rfl | rfl <;> decide
theorem jzc {bz nd c : Int32} {w : Int64} (hz : vz bz) (hc : c = 47 ∨ c = 37) : jz bz nd w = (if (c = 47 ∨ c = 37) ∧ w = 0 ∧ ¬ nd = 0 then 1 else bz) := by
  unfold jz
  by_cases c1 : bz = 0
  · rw [if_pos c1, c1]
    by_cases c2 : nd = 0
    · rw [if_pos c2, if_neg (fun z => z.2.2 c2)]
    · rw [if_neg c2]
      by_cases c3 : w = 0
      · rw [if_pos c3, if_pos ⟨hc, c3, c2⟩]
      · rw [if_neg c3, if_neg (fun z => c3 z.2.1)]
  · rw [if_neg c1, hz.resolve_left c1]
    split <;> rfl
theorem r_join {post : Int64 → Int32 → Int32 → Prop} {v w : Int64} {k : Nat} {kd nd : Int32} {rs : Int32} {rv : Int64} {ip cn lk bd bz ir rp hd : Int32} (hk : k < 18) (h1 : vz kd) (h2 : vz rp) (h3 : vz bz) (h : ∀ r, ((cod (sgn k) = 37 ∧ w = 0) ∨ r = f_S_pair (cod (sgn k)) v w (plP (cod (sgn k)) kd rp)) → post r (if (cod (sgn k) = 47 ∨ cod (sgn k) = 37) ∧ w = 0 ∧ ¬ nd = 0 then 1 else bz) (if plP (cod (sgn k)) kd rp = 0 then 0 else (if f_S_isTruth (cod (sgn k)) = 0 then 1 else 0))) : wp_R_join post rs rv ip cn lk bd bz ir rp hd (nI k) v w kd nd := by
  obtain ⟨c0, c1, c2, c3, c4, c5, c6, c7, c8, c9, c10, c11, c12, c13, c14, c15, c16, c17⟩ := cods
  rcases (show k = 0 ∨ k = 1 ∨ k = 2 ∨ k = 3 ∨ k = 4 ∨ k = 5 ∨ k = 6 ∨ k = 7 ∨ k = 8 ∨ k = 9 ∨ k = 10 ∨ k = 11 ∨ k = 12 ∨ k = 13 ∨ k = 14 ∨ k = 15 ∨ k = 16 ∨ k = 17 by omega) with rfl | rfl | rfl | rfl | rfl | rfl | rfl | rfl | rfl | rfl | rfl | rfl | rfl | rfl | rfl | rfl | rfl | rfl
  · rw [c0] at h
    have g := h _ (Or.inr rfl)
    rw [if_neg (fun z => absurd z.1 (by decide))] at g
    exact rj_0 h1 h2 g
  · rw [c1] at h
    have g := h _ (Or.inr rfl)
    rw [if_neg (fun z => absurd z.1 (by decide))] at g
    exact rj_1 h1 h2 g
  · rw [c2] at h
    have g := h _ (Or.inr rfl)
    rw [if_neg (fun z => absurd z.1 (by decide))] at g
    exact rj_2 h1 h2 g
  · rw [c3] at h
    have g := h _ (Or.inr rfl)
    rw [if_neg (fun z => absurd z.1 (by decide))] at g
    exact rj_3 h1 h2 g
  · rw [c4] at h
    have g := h _ (Or.inr rfl)
    rw [if_neg (fun z => absurd z.1 (by decide))] at g
    exact rj_4 h1 h2 g
  · rw [c5] at h
    have g := h _ (Or.inr rfl)
    rw [if_neg (fun z => absurd z.1 (by decide))] at g
    exact rj_5 h1 h2 g
  · rw [c6] at h
    have g := h _ (Or.inr rfl)
    rw [if_neg (fun z => absurd z.1 (by decide))] at g
    exact rj_6 h1 h2 g
  · rw [c7] at h
    have g := h _ (Or.inr rfl)
    rw [if_neg (fun z => absurd z.1 (by decide))] at g
    exact rj_7 h1 h2 g
  · rw [c8] at h
    have g := h _ (Or.inr rfl)
    rw [if_neg (fun z => absurd z.1 (by decide))] at g
    exact rj_8 h1 h2 g
  · rw [c9] at h
    have g := h _ (Or.inr rfl)
    rw [if_neg (fun z => absurd z.1 (by decide))] at g
    exact rj_9 h1 h2 g
  · rw [c10] at h
    have g := h _ (Or.inr rfl)
    rw [if_neg (fun z => absurd z.1 (by decide))] at g
    exact rj_10 h1 h2 g
  · rw [c11] at h
    have g := h _ (Or.inr rfl)
    rw [if_neg (fun z => absurd z.1 (by decide))] at g
    exact rj_11 h1 h2 g
  · rw [c12] at h
    have g := h _ (Or.inr rfl)
    rw [if_neg (fun z => absurd z.1 (by decide))] at g
    exact rj_12 h1 h2 g
  · rw [c13] at h
    have g := h _ (Or.inr rfl)
    rw [if_neg (fun z => absurd z.1 (by decide))] at g
    exact rj_13 h1 h2 g
  · rw [c14] at h
    have g := h _ (Or.inr rfl)
    rw [if_neg (fun z => absurd z.1 (by decide))] at g
    exact rj_14 h1 h2 g
  · rw [c15] at h
    have g := h _ (Or.inr rfl)
    rw [if_neg (fun z => absurd z.1 (by decide))] at g
    exact rj_15 h1 h2 g
  · rw [c16] at h
    have g := h _ (Or.inr rfl)
    rw [← jq_16, ← jzc h3 (Or.inl rfl), (jpl h1 h2 (Or.inl rfl)).2, (jpl h1 h2 (Or.inl rfl)).1] at g
    exact rj_d (o := 16) (Or.inl rfl) h1 h2 g
  · rw [c17] at h
    by_cases c : w = 0
    · have g := h (jq 17 v w (if kd = 0 then rp else 1)) (Or.inl ⟨rfl, c⟩)
      rw [← jzc h3 (Or.inr rfl), (jpl h1 h2 (Or.inr rfl)).2] at g
      exact rj_d (o := 17) (Or.inr rfl) h1 h2 g
    · have g := h _ (Or.inr rfl)
      rw [← jq_17 _ _ _ c, ← jzc h3 (Or.inr rfl), (jpl h1 h2 (Or.inr rfl)).2, (jpl h1 h2 (Or.inr rfl)).1] at g
      exact rj_d (o := 17) (Or.inr rfl) h1 h2 g
