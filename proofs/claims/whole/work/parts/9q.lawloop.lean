/-! the law's loop: both sides answer alike, whatever the script -/
theorem lw_c {L q : Nat} (hL : L ≤ 2048) (hq : 4 * q ≤ 2048) (h : ¬ Int32.ofNat L - 4 < nI (4 * q)) : 4 * q + 4 ≤ L := by
  refine Classical.byContradiction (fun z => h ?_)
  by_cases c : 4 ≤ L
  · obtain ⟨m, rfl⟩ : ∃ m, L = m + 4 := ⟨L - 4, by omega⟩
    have e : Int32.ofNat (m + 4) - 4 = nI m := by
      have e1 : nI (m + 4) = nI m + 4 := (nI_add m 4).symm
      show nI (m + 4) - 4 = nI m
      rw [e1]
      exact Int32.add_sub_cancel _ _
    rw [e]
    exact nI_lt (by omega) (by omega)
  · have : L = 0 ∨ L = 1 ∨ L = 2 ∨ L = 3 := by omega
    have p := nI_pos' (n := 4 * q) (by omega)
    rcases this with rfl | rfl | rfl | rfl
    · exact Int32.lt_of_lt_of_le (by decide) p
    · exact Int32.lt_of_lt_of_le (by decide) p
    · exact Int32.lt_of_lt_of_le (by decide) p
    · exact Int32.lt_of_lt_of_le (by decide) p
theorem lw_8 {k : Nat} {c : Int32} (h1 : 1 ≤ k) (h2 : k ≤ 8) (e : c = nI k) : ¬ (c < 1 ∨ ¬ c ≤ 8) := by
  rw [e]
  intro z
  rcases z with z | z
  · exact nI_nlt (a := k) (b := 1) h1 (by omega) z
  · exact z (nI_le (b := 8) h2 (by omega))
theorem lw_n {k n : Nat} {c : Int32} (h : k ≤ n) (hn : n ≤ 4096) (e : c = nI k) : ¬ (c < 0 ∨ ¬ c ≤ nI n) := by
  rw [e]
  intro z
  rcases z with z | z
  · exact nI_pos (by omega) z
  · exact z (nI_le h (by omega))
theorem lw_go {xs : Nat → Int32} {L : Nat} (hL : L ≤ 2048) : ∀ (f : Nat) {q n : Nat} {lA : Int64} {lP : Int32} {row : Nat → Int32} {start fin kind oT oC : Int32} {amt : Int64} {pln wait held nest skp fmd dvd : Int32} {signs strs skips : Nat → Int32} {amts : Nat → Int64} {plns : Nat → Int32} {cnt look bad byZ inr rpl hld : Int32} {store tAt tSz hSg : Nat → Int32} {hVl : Nat → Int64} {hPl : Nat → Int32}, L ≤ 4 * (q + f) → 4 * q ≤ 2048 → n ≤ 4096 → (∀ j, j < n → row j = store j) → bys store → vz lP → w_Lw_law_18 xs L () (f + 1) (nI (4 * q)) lA lP (nI n) row start fin kind oT oC amt pln wait held nest skp fmd dvd signs strs skips amts plns (nI n) lA lP cnt look bad byZ inr rpl hld store tAt tSz hSg hVl hPl := by
  intro f
  induction f with
  | zero =>
    intro q n lA lP row start fin kind oT oC amt pln wait held nest skp fmd dvd signs strs skips amts plns cnt look bad byZ inr rpl hld store tAt tSz hSg hVl hPl hf hq hn hr hB hz
    refine br_c (fun _ => trivial) (fun c => ?_)
    have := lw_c hL hq c
    exact absurd hf (by omega)
  | succ f ih =>
    intro q n lA lP row start fin kind oT oC amt pln wait held nest skp fmd dvd signs strs skips amts plns cnt look bad byZ inr rpl hld store tAt tSz hSg hVl hPl hf hq hn hr hB hz
    refine br_c (fun _ => trivial) (fun c => ?_)
    have hc := lw_c hL hq c
    have i0 : vp_in (nI (4 * q)) L := pk_in (4 * q) L (by omega) rfl (by omega)
    have i1 : vp_in (nI (4 * q) + 1) L := pk_in (4 * q + 1) L (by omega) (nI_add (4 * q) 1) (by omega)
    have i2 : vp_in (nI (4 * q) + 2) L := pk_in (4 * q + 2) L (by omega) (nI_add (4 * q) 2) (by omega)
    have i3 : vp_in (nI (4 * q) + 3) L := pk_in (4 * q + 3) L (by omega) (nI_add (4 * q) 3) (by omega)
    have e4 : nI (4 * q) + 4 = nI (4 * (q + 1)) := nI_add (4 * q) 4
    have et : tb row n = tb store n := by
      funext j
      unfold tb
      by_cases cj : j < n
      · rw [if_pos cj, if_pos cj, hr j cj]
      · rw [if_neg cj, if_neg cj]
    have f1 : L ≤ 4 * (q + 1 + f) := by omega
    have q1 : 4 * (q + 1) ≤ 2048 := by omega
    refine ⟨i0, br_c (fun _ => ⟨i1, i2, i3, ?_⟩) (fun _ => br_c (fun _ => ⟨i1, ?_⟩) (fun _ => br_c (fun _ => ?_) (fun _ => br_c (fun _ => ?_) (fun _ => br_c (fun _ => ?_) (fun _ => br_c (fun _ => ?_) (fun _ => br_c (fun _ => ⟨i1, i2, ?_⟩) (fun _ => nm_r e4 (ih f1 q1 hn hr hB hz))))))))⟩
    · refine k_feed hn (fun c1 => ⟨i1, i2, i3, r_feed hn hB (fun _ => br_t rfl (nm_r e4 (ih f1 q1 hn hr hB hz))) (fun k k1 k2 e _ => absurd c1 (lw_8 k1 k2 e)) (fun k k1 k2 e _ => absurd c1 (lw_8 k1 k2 e))⟩) (fun k k1 k2 e o => ⟨i1, i2, i3, r_feed hn hB (fun c1 => absurd c1 (lw_8 k1 k2 e)) (fun _ _ _ _ _ => br_t rfl (nm_r e4 (ih f1 q1 hn hr hB hz))) (fun k' k1' k2' e' o' => ?_)⟩) (fun k k1 k2 e o row' w1 w2 => ⟨i1, i2, i3, r_feed hn hB (fun c1 => absurd c1 (lw_8 k1 k2 e)) (fun k' k1' k2' e' o' => ?_) (fun k' k1' k2' e' o' st' v1 v2 hB' => ?_)⟩)
      · have : k = k' := (nI_eq (by omega) (by omega)).mp (e.symm.trans e')
        exact absurd o (by omega)
      · have : k = k' := (nI_eq (by omega) (by omega)).mp (e.symm.trans e')
        exact absurd o (by omega)
      · have ek : k = k' := (nI_eq (by omega) (by omega)).mp (e.symm.trans e')
        subst ek
        refine br_t rfl (nm_r e4 (ih f1 q1 o (fun j hj => ?_) hB' hz))
        by_cases cj : j < n
        · rw [w1 j cj, v1 j cj, hr j cj]
        · obtain ⟨d, rfl⟩ : ∃ d, j = n + d := ⟨j - n, by omega⟩
          rw [w2 d (by omega), v2 d (by omega)]
    · refine k_cut hn (fun c1 => ⟨i1, r_cut hn (fun _ => br_t rfl (nm_r e4 (ih f1 q1 hn hr hB hz))) (fun k hk e => absurd c1 (lw_n hk hn e))⟩) (fun k hk e => ⟨i1, r_cut hn (fun c1 => absurd c1 (lw_n hk hn e)) (fun k' hk' e' => ?_)⟩)
      have ek : k = k' := (nI_eq (by omega) (by omega)).mp (e.symm.trans e')
      subst ek
      exact br_t rfl (nm_r e4 (ih f1 q1 (by omega) (fun j hj => hr j (by omega)) hB hz))
    · refine k_reckon hn (fun s f k t c a p w1 h1 n1 k2 fm dv sg1 st1 sk1 am' pl' => ?_)
      rw [et]
      exact r_reckon hn hB (fun cn lk bd bz ir rp hd tA tS sg hv hp => br_t rfl (nm_r e4 (ih f1 q1 hn hr hB (rkA_z _))))
    · exact br_t ((lg_cmp_eq _ _).mpr rfl) (nm_r e4 (ih f1 q1 hn hr hB hz))
    · exact ⟨hz, hz, br_t rfl (nm_r e4 (ih f1 q1 hn hr hB hz))⟩
    · refine k_tokens hn (fun s f k t c => ?_)
      rw [et]
      exact r_tokens hn hB (fun c tA tS => br_t rfl (nm_r e4 (ih f1 q1 hn hr hB hz)))
    · refine k_token hn (fun s f k t c => ⟨i1, i2, ?_⟩)
      rw [et]
      exact r_token hn hB (fun c tA tS => br_t rfl (nm_r e4 (ih f1 q1 hn hr hB hz)))
