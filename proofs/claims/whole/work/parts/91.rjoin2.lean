/-! join, operator by operator -/
theorem cods : cod (sgn 0) = 31868 ∧ cod (sgn 1) = 9766 ∧ cod (sgn 2) = 124 ∧ cod (sgn 3) = 94 ∧ cod (sgn 4) = 38 ∧ cod (sgn 5) = 15677 ∧ cod (sgn 6) = 15649 ∧ cod (sgn 7) = 60 ∧ cod (sgn 8) = 62 ∧ cod (sgn 9) = 15676 ∧ cod (sgn 10) = 15678 ∧ cod (sgn 11) = 15420 ∧ cod (sgn 12) = 15934 ∧ cod (sgn 13) = 43 ∧ cod (sgn 14) = 45 ∧ cod (sgn 15) = 42 ∧ cod (sgn 16) = 47 ∧ cod (sgn 17) = 37 := by decide +kernel
theorem xor0 (x : Int64) : x ^^^ 0 = x := by
  apply Int64.toBitVec_inj.mp
  rw [Int64.toBitVec_xor]
  exact BitVec.xor_zero
/-- v < w, of the kind p -/
def lessK (p : Int32) (v w : Int64) : Prop := if p = 0 then v < w else uN v < uN w
theorem hold7 (p : Int32) (v w : Int64) : (lg_cmp (v ^^^ (if p = 0 then 0 else -9223372036854775808)) (w ^^^ (if p = 0 then 0 else -9223372036854775808)) < 0) ↔ lessK p v w := by
  unfold lessK
  rw [lg_cmp_lt]
  split
  · rw [xor0, xor0]
  · exact uN_xLt v w
-- ops
theorem lg_facts (v w : Int64) : (0 ≤ lg_cmp v w ↔ w ≤ v) ∧ (lg_cmp v w ≤ 0 ↔ v ≤ w) ∧ (0 < lg_cmp v w ↔ w < v) ∧ (lg_cmp v w < 0 ↔ v < w) ∧ (lg_cmp v w = 0 ↔ v = w) := ⟨lg_cmp_ge v w, lg_cmp_le v w, lg_cmp_gt v w, lg_cmp_lt v w, lg_cmp_eq v w⟩
theorem or_facts (v w : Int64) : (w ≤ v ↔ ¬ v < w) ∧ (v ≤ w ↔ (v < w ∨ v = w)) ∧ (w < v ↔ (¬ v < w ∧ ¬ v = w)) := by
  refine ⟨Int64.not_lt.symm, ⟨fun h => ?_, fun h => h.elim Int64.le_of_lt (fun e => e ▸ Int64.le_refl _)⟩, ⟨fun h => ⟨fun z => absurd (Int64.le_of_lt z) (Int64.not_le.mpr h), fun e => by subst e; exact Int64.lt_irrefl h⟩, fun h => ?_⟩⟩
  · by_cases e : v = w
    · exact Or.inr e
    · exact Or.inl (Int64.lt_of_le_of_ne h e)
  · exact Int64.lt_of_le_of_ne (Int64.not_lt.mp h.1) (fun e => h.2 e.symm)
theorem mn_facts (v w : Int64) : ((v + (-9223372036854775808)) < (w + (-9223372036854775808)) ↔ uN v < uN w) ∧ ((v ^^^ (-9223372036854775808)) < (w ^^^ (-9223372036854775808)) ↔ uN v < uN w) ∧ (v + (-9223372036854775808) = w + (-9223372036854775808) ↔ v = w) ∧ (v ^^^ (-9223372036854775808) = w ^^^ (-9223372036854775808) ↔ v = w) := by
  refine ⟨uN_minLt v w, uN_xLt v w, ⟨fun h => ?_, fun h => by rw [h]⟩, ⟨fun h => ?_, fun h => by rw [h]⟩⟩
  · apply uN_inj
    have := congrArg uN h
    rw [uN_min, uN_min] at this
    have := uN_lt v
    have := uN_lt w
    omega
  · apply uN_inj
    have := congrArg uN h
    rw [uN_xor, uN_xor] at this
    have := uN_lt v
    have := uN_lt w
    omega
set_option maxHeartbeats 4000000 in
theorem rj_0 {post : Int64 → Int32 → Int32 → Prop} {v w : Int64} {kd nd rs : Int32} {rv : Int64} {ip cn lk bd bz ir rp hd : Int32} (h1 : vz kd) (h2 : vz rp) (h : post (f_S_pair 31868 v w (plP 31868 kd rp)) bz (if plP 31868 kd rp = 0 then 0 else (if f_S_isTruth 31868 = 0 then 1 else 0))) : wp_R_join post rs rv ip cn lk bd bz ir rp hd 0 v w kd nd := by
  rcases h1 with rfl | rfl <;> rcases h2 with rfl | rfl
  all_goals
    have z0 : vz 0 := Or.inl rfl
    have z1 : vz 1 := Or.inr rfl
    repeat' first | exact z0 | exact z1 | refine br_t (by decide) ?_ | refine br_f (by decide) ?_ | refine ⟨z0, ?_⟩ | refine ⟨z1, ?_⟩ | refine br_c (fun _ => ?_) (fun _ => ?_)
    all_goals (first | exact h | (grind [plP, f_S_pair, f_S_isTruth, f_S_holds]))
set_option maxHeartbeats 4000000 in
theorem rj_1 {post : Int64 → Int32 → Int32 → Prop} {v w : Int64} {kd nd rs : Int32} {rv : Int64} {ip cn lk bd bz ir rp hd : Int32} (h1 : vz kd) (h2 : vz rp) (h : post (f_S_pair 9766 v w (plP 9766 kd rp)) bz (if plP 9766 kd rp = 0 then 0 else (if f_S_isTruth 9766 = 0 then 1 else 0))) : wp_R_join post rs rv ip cn lk bd bz ir rp hd 1 v w kd nd := by
  rcases h1 with rfl | rfl <;> rcases h2 with rfl | rfl
  all_goals
    have z0 : vz 0 := Or.inl rfl
    have z1 : vz 1 := Or.inr rfl
    repeat' first | exact z0 | exact z1 | refine br_t (by decide) ?_ | refine br_f (by decide) ?_ | refine ⟨z0, ?_⟩ | refine ⟨z1, ?_⟩ | refine br_c (fun _ => ?_) (fun _ => ?_)
    all_goals (first | exact h | (grind [plP, f_S_pair, f_S_isTruth, f_S_holds]))
set_option maxHeartbeats 4000000 in
theorem rj_2 {post : Int64 → Int32 → Int32 → Prop} {v w : Int64} {kd nd rs : Int32} {rv : Int64} {ip cn lk bd bz ir rp hd : Int32} (h1 : vz kd) (h2 : vz rp) (h : post (f_S_pair 124 v w (plP 124 kd rp)) bz (if plP 124 kd rp = 0 then 0 else (if f_S_isTruth 124 = 0 then 1 else 0))) : wp_R_join post rs rv ip cn lk bd bz ir rp hd 2 v w kd nd := by
  rcases h1 with rfl | rfl <;> rcases h2 with rfl | rfl
  all_goals
    have z0 : vz 0 := Or.inl rfl
    have z1 : vz 1 := Or.inr rfl
    repeat' first | exact z0 | exact z1 | refine br_t (by decide) ?_ | refine br_f (by decide) ?_ | refine ⟨z0, ?_⟩ | refine ⟨z1, ?_⟩ | refine br_c (fun _ => ?_) (fun _ => ?_)
    all_goals exact h
set_option maxHeartbeats 4000000 in
theorem rj_3 {post : Int64 → Int32 → Int32 → Prop} {v w : Int64} {kd nd rs : Int32} {rv : Int64} {ip cn lk bd bz ir rp hd : Int32} (h1 : vz kd) (h2 : vz rp) (h : post (f_S_pair 94 v w (plP 94 kd rp)) bz (if plP 94 kd rp = 0 then 0 else (if f_S_isTruth 94 = 0 then 1 else 0))) : wp_R_join post rs rv ip cn lk bd bz ir rp hd 3 v w kd nd := by
  rcases h1 with rfl | rfl <;> rcases h2 with rfl | rfl
  all_goals
    have z0 : vz 0 := Or.inl rfl
    have z1 : vz 1 := Or.inr rfl
    repeat' first | exact z0 | exact z1 | refine br_t (by decide) ?_ | refine br_f (by decide) ?_ | refine ⟨z0, ?_⟩ | refine ⟨z1, ?_⟩ | refine br_c (fun _ => ?_) (fun _ => ?_)
    all_goals exact h
set_option maxHeartbeats 4000000 in
theorem rj_4 {post : Int64 → Int32 → Int32 → Prop} {v w : Int64} {kd nd rs : Int32} {rv : Int64} {ip cn lk bd bz ir rp hd : Int32} (h1 : vz kd) (h2 : vz rp) (h : post (f_S_pair 38 v w (plP 38 kd rp)) bz (if plP 38 kd rp = 0 then 0 else (if f_S_isTruth 38 = 0 then 1 else 0))) : wp_R_join post rs rv ip cn lk bd bz ir rp hd 4 v w kd nd := by
  rcases h1 with rfl | rfl <;> rcases h2 with rfl | rfl
  all_goals
    have z0 : vz 0 := Or.inl rfl
    have z1 : vz 1 := Or.inr rfl
    repeat' first | exact z0 | exact z1 | refine br_t (by decide) ?_ | refine br_f (by decide) ?_ | refine ⟨z0, ?_⟩ | refine ⟨z1, ?_⟩ | refine br_c (fun _ => ?_) (fun _ => ?_)
    all_goals exact h
set_option maxHeartbeats 4000000 in
theorem rj_5 {post : Int64 → Int32 → Int32 → Prop} {v w : Int64} {kd nd rs : Int32} {rv : Int64} {ip cn lk bd bz ir rp hd : Int32} (h1 : vz kd) (h2 : vz rp) (h : post (f_S_pair 15677 v w (plP 15677 kd rp)) bz (if plP 15677 kd rp = 0 then 0 else (if f_S_isTruth 15677 = 0 then 1 else 0))) : wp_R_join post rs rv ip cn lk bd bz ir rp hd 5 v w kd nd := by
  rcases h1 with rfl | rfl <;> rcases h2 with rfl | rfl
  all_goals
    have z0 : vz 0 := Or.inl rfl
    have z1 : vz 1 := Or.inr rfl
    repeat' first | exact z0 | exact z1 | refine br_t (by decide) ?_ | refine br_f (by decide) ?_ | refine ⟨z0, ?_⟩ | refine ⟨z1, ?_⟩ | refine br_c (fun _ => ?_) (fun _ => ?_)
    all_goals (first | exact h | (grind [plP, f_S_pair, f_S_isTruth, f_S_holds]))
set_option maxHeartbeats 4000000 in
theorem rj_6 {post : Int64 → Int32 → Int32 → Prop} {v w : Int64} {kd nd rs : Int32} {rv : Int64} {ip cn lk bd bz ir rp hd : Int32} (h1 : vz kd) (h2 : vz rp) (h : post (f_S_pair 15649 v w (plP 15649 kd rp)) bz (if plP 15649 kd rp = 0 then 0 else (if f_S_isTruth 15649 = 0 then 1 else 0))) : wp_R_join post rs rv ip cn lk bd bz ir rp hd 6 v w kd nd := by
  rcases h1 with rfl | rfl <;> rcases h2 with rfl | rfl
  all_goals
    have z0 : vz 0 := Or.inl rfl
    have z1 : vz 1 := Or.inr rfl
    repeat' first | exact z0 | exact z1 | refine br_t (by decide) ?_ | refine br_f (by decide) ?_ | refine ⟨z0, ?_⟩ | refine ⟨z1, ?_⟩ | refine br_c (fun _ => ?_) (fun _ => ?_)
    all_goals (first | exact h | (grind [plP, f_S_pair, f_S_isTruth, f_S_holds]))
set_option maxHeartbeats 4000000 in
theorem rj_7 {post : Int64 → Int32 → Int32 → Prop} {v w : Int64} {kd nd rs : Int32} {rv : Int64} {ip cn lk bd bz ir rp hd : Int32} (h1 : vz kd) (h2 : vz rp) (h : post (f_S_pair 60 v w (plP 60 kd rp)) bz (if plP 60 kd rp = 0 then 0 else (if f_S_isTruth 60 = 0 then 1 else 0))) : wp_R_join post rs rv ip cn lk bd bz ir rp hd 7 v w kd nd := by
  rcases h1 with rfl | rfl <;> rcases h2 with rfl | rfl
  all_goals
    have z0 : vz 0 := Or.inl rfl
    have z1 : vz 1 := Or.inr rfl
    repeat' first | exact z0 | exact z1 | refine br_t (by decide) ?_ | refine br_f (by decide) ?_ | refine ⟨z0, ?_⟩ | refine ⟨z1, ?_⟩ | refine br_c (fun _ => ?_) (fun _ => ?_)
    all_goals (first | exact h | (have f1 := lg_facts v w; have f2 := or_facts v w; have f3 := mn_facts v w; have f4 := lg_facts (v ^^^ (-9223372036854775808)) (w ^^^ (-9223372036854775808)); have f5 := lg_facts (v + (-9223372036854775808)) (w + (-9223372036854775808)); have f6 := or_facts (v ^^^ (-9223372036854775808)) (w ^^^ (-9223372036854775808)); have f7 := or_facts (v + (-9223372036854775808)) (w + (-9223372036854775808)); have f8 := lg_facts v 0; have f9 := lg_facts w 0; have x1 := xor0 v; have x2 := xor0 w; grind [plP, f_S_pair, f_S_isTruth, f_S_holds]))
set_option maxHeartbeats 4000000 in
theorem rj_8 {post : Int64 → Int32 → Int32 → Prop} {v w : Int64} {kd nd rs : Int32} {rv : Int64} {ip cn lk bd bz ir rp hd : Int32} (h1 : vz kd) (h2 : vz rp) (h : post (f_S_pair 62 v w (plP 62 kd rp)) bz (if plP 62 kd rp = 0 then 0 else (if f_S_isTruth 62 = 0 then 1 else 0))) : wp_R_join post rs rv ip cn lk bd bz ir rp hd 8 v w kd nd := by
  rcases h1 with rfl | rfl <;> rcases h2 with rfl | rfl
  all_goals
    have z0 : vz 0 := Or.inl rfl
    have z1 : vz 1 := Or.inr rfl
    repeat' first | exact z0 | exact z1 | refine br_t (by decide) ?_ | refine br_f (by decide) ?_ | refine ⟨z0, ?_⟩ | refine ⟨z1, ?_⟩ | refine br_c (fun _ => ?_) (fun _ => ?_)
    all_goals (first | exact h | (have f1 := lg_facts v w; have f2 := or_facts v w; have f3 := mn_facts v w; have f4 := lg_facts (v ^^^ (-9223372036854775808)) (w ^^^ (-9223372036854775808)); have f5 := lg_facts (v + (-9223372036854775808)) (w + (-9223372036854775808)); have f6 := or_facts (v ^^^ (-9223372036854775808)) (w ^^^ (-9223372036854775808)); have f7 := or_facts (v + (-9223372036854775808)) (w + (-9223372036854775808)); have f8 := lg_facts v 0; have f9 := lg_facts w 0; have x1 := xor0 v; have x2 := xor0 w; grind [plP, f_S_pair, f_S_isTruth, f_S_holds]))
set_option maxHeartbeats 4000000 in
theorem rj_9 {post : Int64 → Int32 → Int32 → Prop} {v w : Int64} {kd nd rs : Int32} {rv : Int64} {ip cn lk bd bz ir rp hd : Int32} (h1 : vz kd) (h2 : vz rp) (h : post (f_S_pair 15676 v w (plP 15676 kd rp)) bz (if plP 15676 kd rp = 0 then 0 else (if f_S_isTruth 15676 = 0 then 1 else 0))) : wp_R_join post rs rv ip cn lk bd bz ir rp hd 9 v w kd nd := by
  rcases h1 with rfl | rfl <;> rcases h2 with rfl | rfl
  all_goals
    have z0 : vz 0 := Or.inl rfl
    have z1 : vz 1 := Or.inr rfl
    repeat' first | exact z0 | exact z1 | refine br_t (by decide) ?_ | refine br_f (by decide) ?_ | refine ⟨z0, ?_⟩ | refine ⟨z1, ?_⟩ | refine br_c (fun _ => ?_) (fun _ => ?_)
    all_goals (first | exact h | (have f1 := lg_facts v w; have f2 := or_facts v w; have f3 := mn_facts v w; have f4 := lg_facts (v ^^^ (-9223372036854775808)) (w ^^^ (-9223372036854775808)); have f5 := lg_facts (v + (-9223372036854775808)) (w + (-9223372036854775808)); have f6 := or_facts (v ^^^ (-9223372036854775808)) (w ^^^ (-9223372036854775808)); have f7 := or_facts (v + (-9223372036854775808)) (w + (-9223372036854775808)); have f8 := lg_facts v 0; have f9 := lg_facts w 0; have x1 := xor0 v; have x2 := xor0 w; grind [plP, f_S_pair, f_S_isTruth, f_S_holds]))
set_option maxHeartbeats 4000000 in
theorem rj_10 {post : Int64 → Int32 → Int32 → Prop} {v w : Int64} {kd nd rs : Int32} {rv : Int64} {ip cn lk bd bz ir rp hd : Int32} (h1 : vz kd) (h2 : vz rp) (h : post (f_S_pair 15678 v w (plP 15678 kd rp)) bz (if plP 15678 kd rp = 0 then 0 else (if f_S_isTruth 15678 = 0 then 1 else 0))) : wp_R_join post rs rv ip cn lk bd bz ir rp hd 10 v w kd nd := by
  rcases h1 with rfl | rfl <;> rcases h2 with rfl | rfl
  all_goals
    have z0 : vz 0 := Or.inl rfl
    have z1 : vz 1 := Or.inr rfl
    repeat' first | exact z0 | exact z1 | refine br_t (by decide) ?_ | refine br_f (by decide) ?_ | refine ⟨z0, ?_⟩ | refine ⟨z1, ?_⟩ | refine br_c (fun _ => ?_) (fun _ => ?_)
    all_goals (first | exact h | (have f1 := lg_facts v w; have f2 := or_facts v w; have f3 := mn_facts v w; have f4 := lg_facts (v ^^^ (-9223372036854775808)) (w ^^^ (-9223372036854775808)); have f5 := lg_facts (v + (-9223372036854775808)) (w + (-9223372036854775808)); have f6 := or_facts (v ^^^ (-9223372036854775808)) (w ^^^ (-9223372036854775808)); have f7 := or_facts (v + (-9223372036854775808)) (w + (-9223372036854775808)); have f8 := lg_facts v 0; have f9 := lg_facts w 0; have x1 := xor0 v; have x2 := xor0 w; grind [plP, f_S_pair, f_S_isTruth, f_S_holds]))
set_option maxHeartbeats 4000000 in
theorem rj_11 {post : Int64 → Int32 → Int32 → Prop} {v w : Int64} {kd nd rs : Int32} {rv : Int64} {ip cn lk bd bz ir rp hd : Int32} (h1 : vz kd) (h2 : vz rp) (h : post (f_S_pair 15420 v w (plP 15420 kd rp)) bz (if plP 15420 kd rp = 0 then 0 else (if f_S_isTruth 15420 = 0 then 1 else 0))) : wp_R_join post rs rv ip cn lk bd bz ir rp hd 11 v w kd nd := by
  rcases h1 with rfl | rfl <;> rcases h2 with rfl | rfl
  all_goals
    have z0 : vz 0 := Or.inl rfl
    have z1 : vz 1 := Or.inr rfl
    repeat' first | exact z0 | exact z1 | refine br_t (by decide) ?_ | refine br_f (by decide) ?_ | refine ⟨z0, ?_⟩ | refine ⟨z1, ?_⟩ | refine br_c (fun _ => ?_) (fun _ => ?_)
    all_goals exact h
set_option maxHeartbeats 4000000 in
theorem rj_12 {post : Int64 → Int32 → Int32 → Prop} {v w : Int64} {kd nd rs : Int32} {rv : Int64} {ip cn lk bd bz ir rp hd : Int32} (h1 : vz kd) (h2 : vz rp) (h : post (f_S_pair 15934 v w (plP 15934 kd rp)) bz (if plP 15934 kd rp = 0 then 0 else (if f_S_isTruth 15934 = 0 then 1 else 0))) : wp_R_join post rs rv ip cn lk bd bz ir rp hd 12 v w kd nd := by
  rcases h1 with rfl | rfl <;> rcases h2 with rfl | rfl
  all_goals
    have z0 : vz 0 := Or.inl rfl
    have z1 : vz 1 := Or.inr rfl
    repeat' first | exact z0 | exact z1 | refine br_t (by decide) ?_ | refine br_f (by decide) ?_ | refine ⟨z0, ?_⟩ | refine ⟨z1, ?_⟩ | refine br_c (fun _ => ?_) (fun _ => ?_)
    all_goals exact h
set_option maxHeartbeats 4000000 in
theorem rj_13 {post : Int64 → Int32 → Int32 → Prop} {v w : Int64} {kd nd rs : Int32} {rv : Int64} {ip cn lk bd bz ir rp hd : Int32} (h1 : vz kd) (h2 : vz rp) (h : post (f_S_pair 43 v w (plP 43 kd rp)) bz (if plP 43 kd rp = 0 then 0 else (if f_S_isTruth 43 = 0 then 1 else 0))) : wp_R_join post rs rv ip cn lk bd bz ir rp hd 13 v w kd nd := by
  rcases h1 with rfl | rfl <;> rcases h2 with rfl | rfl
  all_goals
    have z0 : vz 0 := Or.inl rfl
    have z1 : vz 1 := Or.inr rfl
    repeat' first | exact z0 | exact z1 | refine br_t (by decide) ?_ | refine br_f (by decide) ?_ | refine ⟨z0, ?_⟩ | refine ⟨z1, ?_⟩ | refine br_c (fun _ => ?_) (fun _ => ?_)
    all_goals exact h
set_option maxHeartbeats 4000000 in
theorem rj_14 {post : Int64 → Int32 → Int32 → Prop} {v w : Int64} {kd nd rs : Int32} {rv : Int64} {ip cn lk bd bz ir rp hd : Int32} (h1 : vz kd) (h2 : vz rp) (h : post (f_S_pair 45 v w (plP 45 kd rp)) bz (if plP 45 kd rp = 0 then 0 else (if f_S_isTruth 45 = 0 then 1 else 0))) : wp_R_join post rs rv ip cn lk bd bz ir rp hd 14 v w kd nd := by
  rcases h1 with rfl | rfl <;> rcases h2 with rfl | rfl
  all_goals
    have z0 : vz 0 := Or.inl rfl
    have z1 : vz 1 := Or.inr rfl
    repeat' first | exact z0 | exact z1 | refine br_t (by decide) ?_ | refine br_f (by decide) ?_ | refine ⟨z0, ?_⟩ | refine ⟨z1, ?_⟩ | refine br_c (fun _ => ?_) (fun _ => ?_)
    all_goals exact h
set_option maxHeartbeats 4000000 in
theorem rj_15 {post : Int64 → Int32 → Int32 → Prop} {v w : Int64} {kd nd rs : Int32} {rv : Int64} {ip cn lk bd bz ir rp hd : Int32} (h1 : vz kd) (h2 : vz rp) (h : post (f_S_pair 42 v w (plP 42 kd rp)) bz (if plP 42 kd rp = 0 then 0 else (if f_S_isTruth 42 = 0 then 1 else 0))) : wp_R_join post rs rv ip cn lk bd bz ir rp hd 15 v w kd nd := by
  rcases h1 with rfl | rfl <;> rcases h2 with rfl | rfl
  all_goals
    have z0 : vz 0 := Or.inl rfl
    have z1 : vz 1 := Or.inr rfl
    repeat' first | exact z0 | exact z1 | refine br_t (by decide) ?_ | refine br_f (by decide) ?_ | refine ⟨z0, ?_⟩ | refine ⟨z1, ?_⟩ | refine br_c (fun _ => ?_) (fun _ => ?_)
    all_goals exact h
