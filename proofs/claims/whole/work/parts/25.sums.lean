abbrev wd_S_isTruth (ad : Nat → Nat) (ck : Nat → ClassId)  : va_W := []
def wp_S_isTruth (post : Int32 → Prop)  (p0 : Int32) : Prop := (p0 = 60 → (post 1)) ∧ (¬ p0 = 60 → ((p0 = 62 → (post 1)) ∧ (¬ p0 = 62 → ((p0 = 9766 → (post 1)) ∧ (¬ p0 = 9766 → ((p0 = 15649 → (post 1)) ∧ (¬ p0 = 15649 → ((p0 = 15676 → (post 1)) ∧ (¬ p0 = 15676 → ((p0 = 15677 → (post 1)) ∧ (¬ p0 = 15677 → ((p0 = 15678 → (post 1)) ∧ (¬ p0 = 15678 → ((p0 = 31868 → (post 1)) ∧ (¬ p0 = 31868 → (post 0))))))))))))))))
set_option maxHeartbeats 4000000 in
set_option maxRecDepth 100000 in
theorem kc_S_isTruth (l : Launch) (dC : Nat → ClassId) (dI : Nat → Nat → Nat) (ad : Nat → Nat) (ck : Nat → ClassId)  (p0 : Int32) {post : Int32 → Prop} (hw : wp_S_isTruth post  p0) : k_Ci l y_S_isTruth ws_S_isTruth ({ frames := 0, cells := 0, slots := 0, locals := 0 } : Room) (dC, dI) vwCl (TYm ck) k_x0 [.int p0] ([]) (fun (r : Int32) (u : Unit) => post r ) (fun (u : Unit) => []) := by
  intro sz
  refine Met.ofW (cc := c_S_isTruth) (maxL := 1) (ret := (some .boolean)) (by decide) rfl ?_
  intro p e s m args below meth c s₁ B hml hv
  obtain ⟨rfl, hsz, hP, hK, hD0, hX⟩ := hv
  have hx := B.exec
  have hb := B.bytes
  have hr := B.returns
  have hts : ∀ w ∈ TB, w.before _ s = true := fun w h => atoms_spec (ws := ws_S_isTruth) B.pre w (List.mem_cons_of_mem _ h)
  have hown : s.vm.findClass R_S = some m.cls := findClass_of_methodNamed B.named
  have hlocks := B.notSynchronized
  subst hsz
  have hD := hD0.self (sz := s.heap.size)
  generalize hAe : va_A ([]) s.heap.size = A at hD hX ⊢
  have hA : ∀ q : Nat, s.heap.size ≤ q → A q := fun q h => by rw [← hAe]; exact Or.inr h
  have hS : va_S A s.heap s.heap [] := va_S.rf
  have hP : va_P (dC, dI) vwCl ([]) s.heap := hP
  have hl := lv_entry ([.int p0]) (n := 1) (Nat.le_of_ble_eq_true rfl)
  rw [lg_entry_eq]
  generalize (lg_sl ([.int p0]) ++ List.replicate (1 - (lg_sl ([.int p0])).length) Slot.unset).toArray = ls at hl ⊢
  have hl : lv_has ls 1 [(0, .int p0)] := hl
  refine lv_iload_n hx hb d_S_isTruth_0 rfl (lv_at hl 0 rfl) ?_
  obtain ⟨hwt, hwf⟩ := hw
  by_cases c_1 : p0 = 60
  · have hw := hwt c_1
    refine lv_lookup (off := 75) (tgt := 76) hx hb d_S_isTruth_1 (by decide) (by rw [c_1]; decide) (by decide) ?_
    refine lv_iconst (v := 1) hx hb d_S_isTruth_76 (by decide) ?_
    exact W.zret (v := 1) hx hb hr (by decide) (fun t ht hW => ⟨⟨1, (), rfl, hw, by rw [ht]; exact hP, va_K.moved hW.alike hK, hD⟩, hS.F ht⟩) hS.2.2 d_S_isTruth_77
  · have hw := hwf c_1
    obtain ⟨hwt, hwf⟩ := hw
    by_cases c_2 : p0 = 62
    · have hw := hwt c_2
      refine lv_lookup (off := 75) (tgt := 76) hx hb d_S_isTruth_1 (by decide) (by rw [c_2]; decide) (by decide) ?_
      refine lv_iconst (v := 1) hx hb d_S_isTruth_76 (by decide) ?_
      exact W.zret (v := 1) hx hb hr (by decide) (fun t ht hW => ⟨⟨1, (), rfl, hw, by rw [ht]; exact hP, va_K.moved hW.alike hK, hD⟩, hS.F ht⟩) hS.2.2 d_S_isTruth_77
    · have hw := hwf c_2
      obtain ⟨hwt, hwf⟩ := hw
      by_cases c_3 : p0 = 9766
      · have hw := hwt c_3
        refine lv_lookup (off := 75) (tgt := 76) hx hb d_S_isTruth_1 (by decide) (by rw [c_3]; decide) (by decide) ?_
        refine lv_iconst (v := 1) hx hb d_S_isTruth_76 (by decide) ?_
        exact W.zret (v := 1) hx hb hr (by decide) (fun t ht hW => ⟨⟨1, (), rfl, hw, by rw [ht]; exact hP, va_K.moved hW.alike hK, hD⟩, hS.F ht⟩) hS.2.2 d_S_isTruth_77
      · have hw := hwf c_3
        obtain ⟨hwt, hwf⟩ := hw
        by_cases c_4 : p0 = 15649
        · have hw := hwt c_4
          refine lv_lookup (off := 75) (tgt := 76) hx hb d_S_isTruth_1 (by decide) (by rw [c_4]; decide) (by decide) ?_
          refine lv_iconst (v := 1) hx hb d_S_isTruth_76 (by decide) ?_
          exact W.zret (v := 1) hx hb hr (by decide) (fun t ht hW => ⟨⟨1, (), rfl, hw, by rw [ht]; exact hP, va_K.moved hW.alike hK, hD⟩, hS.F ht⟩) hS.2.2 d_S_isTruth_77
        · have hw := hwf c_4
          obtain ⟨hwt, hwf⟩ := hw
          by_cases c_5 : p0 = 15676
          · have hw := hwt c_5
            refine lv_lookup (off := 75) (tgt := 76) hx hb d_S_isTruth_1 (by decide) (by rw [c_5]; decide) (by decide) ?_
            refine lv_iconst (v := 1) hx hb d_S_isTruth_76 (by decide) ?_
            exact W.zret (v := 1) hx hb hr (by decide) (fun t ht hW => ⟨⟨1, (), rfl, hw, by rw [ht]; exact hP, va_K.moved hW.alike hK, hD⟩, hS.F ht⟩) hS.2.2 d_S_isTruth_77
          · have hw := hwf c_5
            obtain ⟨hwt, hwf⟩ := hw
            by_cases c_6 : p0 = 15677
            · have hw := hwt c_6
              refine lv_lookup (off := 75) (tgt := 76) hx hb d_S_isTruth_1 (by decide) (by rw [c_6]; decide) (by decide) ?_
              refine lv_iconst (v := 1) hx hb d_S_isTruth_76 (by decide) ?_
              exact W.zret (v := 1) hx hb hr (by decide) (fun t ht hW => ⟨⟨1, (), rfl, hw, by rw [ht]; exact hP, va_K.moved hW.alike hK, hD⟩, hS.F ht⟩) hS.2.2 d_S_isTruth_77
            · have hw := hwf c_6
              obtain ⟨hwt, hwf⟩ := hw
              by_cases c_7 : p0 = 15678
              · have hw := hwt c_7
                refine lv_lookup (off := 75) (tgt := 76) hx hb d_S_isTruth_1 (by decide) (by rw [c_7]; decide) (by decide) ?_
                refine lv_iconst (v := 1) hx hb d_S_isTruth_76 (by decide) ?_
                exact W.zret (v := 1) hx hb hr (by decide) (fun t ht hW => ⟨⟨1, (), rfl, hw, by rw [ht]; exact hP, va_K.moved hW.alike hK, hD⟩, hS.F ht⟩) hS.2.2 d_S_isTruth_77
              · have hw := hwf c_7
                obtain ⟨hwt, hwf⟩ := hw
                by_cases c_8 : p0 = 31868
                · have hw := hwt c_8
                  refine lv_lookup (off := 75) (tgt := 76) hx hb d_S_isTruth_1 (by decide) (by rw [c_8]; decide) (by decide) ?_
                  refine lv_iconst (v := 1) hx hb d_S_isTruth_76 (by decide) ?_
                  exact W.zret (v := 1) hx hb hr (by decide) (fun t ht hW => ⟨⟨1, (), rfl, hw, by rw [ht]; exact hP, va_K.moved hW.alike hK, hD⟩, hS.F ht⟩) hS.2.2 d_S_isTruth_77
                · have hw := hwf c_8
                  refine lv_lookup (off := 77) (tgt := 78) hx hb d_S_isTruth_1 (by decide) (by show Op.lookupswitch.offset _ _ _ = _; rw [lv_osw c_1 (show (60 : Int32).toInt = 60 from rfl), lv_osw c_2 (show (62 : Int32).toInt = 62 from rfl), lv_osw c_3 (show (9766 : Int32).toInt = 9766 from rfl), lv_osw c_4 (show (15649 : Int32).toInt = 15649 from rfl), lv_osw c_5 (show (15676 : Int32).toInt = 15676 from rfl), lv_osw c_6 (show (15677 : Int32).toInt = 15677 from rfl), lv_osw c_7 (show (15678 : Int32).toInt = 15678 from rfl), lv_osw c_8 (show (31868 : Int32).toInt = 31868 from rfl)]; rfl) (by decide) ?_
                  refine lv_iconst (v := 0) hx hb d_S_isTruth_78 (by decide) ?_
                  exact W.zret (v := 0) hx hb hr (by decide) (fun t ht hW => ⟨⟨0, (), rfl, hw, by rw [ht]; exact hP, va_K.moved hW.alike hK, hD⟩, hS.F ht⟩) hS.2.2 d_S_isTruth_79
def f_S_isTruth (p0 : Int32) : Int32 := (if p0 = 60 then 1 else (if p0 = 62 then 1 else (if p0 = 9766 then 1 else (if p0 = 15649 then 1 else (if p0 = 15676 then 1 else (if p0 = 15677 then 1 else (if p0 = 15678 then 1 else (if p0 = 31868 then 1 else 0))))))))
theorem q_S_isTruth {post : Int32 → Prop} {p0 : Int32} (h : post (f_S_isTruth p0)) : wp_S_isTruth post p0 := by
  unfold wp_S_isTruth
  refine br_c (fun c1 => ?_) (fun c1 => ?_)
  · rw [f_S_isTruth, if_pos c1] at h; exact h
  · refine br_c (fun c2 => ?_) (fun c2 => ?_)
    · rw [f_S_isTruth, if_neg c1, if_pos c2] at h; exact h
    · refine br_c (fun c3 => ?_) (fun c3 => ?_)
      · rw [f_S_isTruth, if_neg c1, if_neg c2, if_pos c3] at h; exact h
      · refine br_c (fun c4 => ?_) (fun c4 => ?_)
        · rw [f_S_isTruth, if_neg c1, if_neg c2, if_neg c3, if_pos c4] at h; exact h
        · refine br_c (fun c5 => ?_) (fun c5 => ?_)
          · rw [f_S_isTruth, if_neg c1, if_neg c2, if_neg c3, if_neg c4, if_pos c5] at h; exact h
          · refine br_c (fun c6 => ?_) (fun c6 => ?_)
            · rw [f_S_isTruth, if_neg c1, if_neg c2, if_neg c3, if_neg c4, if_neg c5, if_pos c6] at h; exact h
            · refine br_c (fun c7 => ?_) (fun c7 => ?_)
              · rw [f_S_isTruth, if_neg c1, if_neg c2, if_neg c3, if_neg c4, if_neg c5, if_neg c6, if_pos c7] at h; exact h
              · refine br_c (fun c8 => ?_) (fun c8 => ?_)
                · rw [f_S_isTruth, if_neg c1, if_neg c2, if_neg c3, if_neg c4, if_neg c5, if_neg c6, if_neg c7, if_pos c8] at h; exact h
                · rw [f_S_isTruth, if_neg c1, if_neg c2, if_neg c3, if_neg c4, if_neg c5, if_neg c6, if_neg c7, if_neg c8] at h; exact h

abbrev wd_S_front (ad : Nat → Nat) (ck : Nat → ClassId)  : va_W := []
def wp_S_front (post : Int64 → Prop)  (p0 : Int32) (p1 : Int64) : Prop := (p0 = 33 → (((lg_cmp p1 0) = 0 → (post 1)) ∧ (¬ (lg_cmp p1 0) = 0 → (post 0)))) ∧ (¬ p0 = 33 → ((p0 = 45 → (post (-p1))) ∧ (¬ p0 = 45 → ((p0 = 126 → (post (p1 ^^^ (-1)))) ∧ (¬ p0 = 126 → (post p1))))))
set_option maxHeartbeats 4000000 in
set_option maxRecDepth 100000 in
theorem kc_S_front (l : Launch) (dC : Nat → ClassId) (dI : Nat → Nat → Nat) (ad : Nat → Nat) (ck : Nat → ClassId)  (p0 : Int32) (p1 : Int64) {post : Int64 → Prop} (hw : wp_S_front post  p0 p1) : k_Cl l y_S_front ws_S_front ({ frames := 0, cells := 0, slots := 0, locals := 0 } : Room) (dC, dI) vwCl (TYm ck) k_x0 [.int p0, .long p1] ([]) (fun (r : Int64) (u : Unit) => post r ) (fun (u : Unit) => []) := by
  intro sz
  refine Met.ofW (cc := c_S_front) (maxL := 3) (ret := (some .long)) (by decide) rfl ?_
  intro p e s m args below meth c s₁ B hml hv
  obtain ⟨rfl, hsz, hP, hK, hD0, hX⟩ := hv
  have hx := B.exec
  have hb := B.bytes
  have hr := B.returns
  have hts : ∀ w ∈ TB, w.before _ s = true := fun w h => atoms_spec (ws := ws_S_front) B.pre w (List.mem_cons_of_mem _ h)
  have hown : s.vm.findClass R_S = some m.cls := findClass_of_methodNamed B.named
  have hlocks := B.notSynchronized
  subst hsz
  have hD := hD0.self (sz := s.heap.size)
  generalize hAe : va_A ([]) s.heap.size = A at hD hX ⊢
  have hA : ∀ q : Nat, s.heap.size ≤ q → A q := fun q h => by rw [← hAe]; exact Or.inr h
  have hS : va_S A s.heap s.heap [] := va_S.rf
  have hP : va_P (dC, dI) vwCl ([]) s.heap := hP
  have hl := lv_entry ([.int p0, .long p1]) (n := 3) (Nat.le_of_ble_eq_true rfl)
  rw [lg_entry_eq]
  generalize (lg_sl ([.int p0, .long p1]) ++ List.replicate (3 - (lg_sl ([.int p0, .long p1])).length) Slot.unset).toArray = ls at hl ⊢
  have hl : lv_has ls 3 [(0, .int p0), (1, .long p1)] := hl
  refine lv_iload_n hx hb d_S_front_0 rfl (lv_at hl 0 rfl) ?_
  obtain ⟨hwt, hwf⟩ := hw
  by_cases c_1 : p0 = 33
  · have hw := hwt c_1
    refine lv_lookup (off := 44) (tgt := 45) hx hb d_S_front_1 (by decide) (by rw [c_1]; decide) (by decide) ?_
    refine lv_lload_n hx hb d_S_front_45 rfl (lv_at hl 1 rfl) ?_
    refine lv_lconst (v := 0) hx hb d_S_front_46 (by decide) ?_
    refine W.lcmp hx hb d_S_front_47 ?_
    obtain ⟨hwt, hwf⟩ := hw
    refine lv_if_ne (tgt := 55) hx hb d_S_front_48 (by decide) (fun c_2 => ?_) (fun c_2 => ?_)
    · have hw := hwf c_2
      refine lv_lconst (v := 0) hx hb d_S_front_55 (by decide) ?_
      exact W.lret (v := 0) hx hb hr (fun t ht hW => ⟨⟨0, (), rfl, hw, by rw [ht]; exact hP, va_K.moved hW.alike hK, hD⟩, hS.F ht⟩) hS.2.2 d_S_front_56
    · have hw := hwt c_2
      refine lv_lconst (v := 1) hx hb d_S_front_51 (by decide) ?_
      refine lv_goto (tgt := 56) hx hb d_S_front_52 (by decide) ?_
      exact W.lret (v := 1) hx hb hr (fun t ht hW => ⟨⟨1, (), rfl, hw, by rw [ht]; exact hP, va_K.moved hW.alike hK, hD⟩, hS.F ht⟩) hS.2.2 d_S_front_56
  · have hw := hwf c_1
    obtain ⟨hwt, hwf⟩ := hw
    by_cases c_3 : p0 = 45
    · have hw := hwt c_3
      refine lv_lookup (off := 35) (tgt := 36) hx hb d_S_front_1 (by decide) (by rw [c_3]; decide) (by decide) ?_
      refine lv_lload_n hx hb d_S_front_36 rfl (lv_at hl 1 rfl) ?_
      refine lv_lneg hx hb d_S_front_37 ?_
      exact W.lret (v := (-p1)) hx hb hr (fun t ht hW => ⟨⟨(-p1), (), rfl, hw, by rw [ht]; exact hP, va_K.moved hW.alike hK, hD⟩, hS.F ht⟩) hS.2.2 d_S_front_38
    · have hw := hwf c_3
      obtain ⟨hwt, hwf⟩ := hw
      by_cases c_4 : p0 = 126
      · have hw := hwt c_4
        refine lv_lookup (off := 38) (tgt := 39) hx hb d_S_front_1 (by decide) (by rw [c_4]; decide) (by decide) ?_
        refine lv_lload_n hx hb d_S_front_39 rfl (lv_at hl 1 rfl) ?_
        refine lv_ldc2 (v := (-1)) hx hb hown (hts _ tw_130) d_S_front_40 ?_
        refine lv_lxor hx hb d_S_front_43 ?_
        exact W.lret (v := (p1 ^^^ (-1))) hx hb hr (fun t ht hW => ⟨⟨(p1 ^^^ (-1)), (), rfl, hw, by rw [ht]; exact hP, va_K.moved hW.alike hK, hD⟩, hS.F ht⟩) hS.2.2 d_S_front_44
      · have hw := hwf c_4
        refine lv_lookup (off := 56) (tgt := 57) hx hb d_S_front_1 (by decide) (by show Op.lookupswitch.offset _ _ _ = _; rw [lv_osw c_1 (show (33 : Int32).toInt = 33 from rfl), lv_osw c_3 (show (45 : Int32).toInt = 45 from rfl), lv_osw c_4 (show (126 : Int32).toInt = 126 from rfl)]; rfl) (by decide) ?_
        refine lv_lload_n hx hb d_S_front_57 rfl (lv_at hl 1 rfl) ?_
        exact W.lret (v := p1) hx hb hr (fun t ht hW => ⟨⟨p1, (), rfl, hw, by rw [ht]; exact hP, va_K.moved hW.alike hK, hD⟩, hS.F ht⟩) hS.2.2 d_S_front_58
def f_S_front (p0 : Int32) (p1 : Int64) : Int64 := (if p0 = 33 then (if (lg_cmp p1 0) = 0 then 1 else 0) else (if p0 = 45 then (-p1) else (if p0 = 126 then (p1 ^^^ (-1)) else p1)))
theorem q_S_front {post : Int64 → Prop} {p0 : Int32} {p1 : Int64} (h : post (f_S_front p0 p1)) : wp_S_front post p0 p1 := by
  unfold wp_S_front
  refine br_c (fun c1 => ?_) (fun c1 => ?_)
  · refine br_c (fun c2 => ?_) (fun c2 => ?_)
    · rw [f_S_front, if_pos c1, if_pos c2] at h; exact h
    · rw [f_S_front, if_pos c1, if_neg c2] at h; exact h
  · refine br_c (fun c3 => ?_) (fun c3 => ?_)
    · rw [f_S_front, if_neg c1, if_pos c3] at h; exact h
    · refine br_c (fun c4 => ?_) (fun c4 => ?_)
      · rw [f_S_front, if_neg c1, if_neg c3, if_pos c4] at h; exact h
      · rw [f_S_front, if_neg c1, if_neg c3, if_neg c4] at h; exact h

abbrev wd_S_holds (ad : Nat → Nat) (ck : Nat → ClassId)  : va_W := []
def wp_S_holds (post : Int32 → Prop)  (p0 : Int32) (p1 : Int64) (p2 : Int64) (p3 : Int32) : Prop := (p3 = 0 → ((p0 = 60 → ((0 ≤ (lg_cmp (p1 ^^^ 0) (p2 ^^^ 0)) → (post 0)) ∧ (¬ 0 ≤ (lg_cmp (p1 ^^^ 0) (p2 ^^^ 0)) → (post 1)))) ∧ (¬ p0 = 60 → ((p0 = 62 → (((lg_cmp (p1 ^^^ 0) (p2 ^^^ 0)) ≤ 0 → (post 0)) ∧ (¬ (lg_cmp (p1 ^^^ 0) (p2 ^^^ 0)) ≤ 0 → (post 1)))) ∧ (¬ p0 = 62 → ((p0 = 9766 → (((lg_cmp p1 0) = 0 → (post 0)) ∧ (¬ (lg_cmp p1 0) = 0 → (((lg_cmp p2 0) = 0 → (post 0)) ∧ (¬ (lg_cmp p2 0) = 0 → (post 1)))))) ∧ (¬ p0 = 9766 → ((p0 = 15649 → (((lg_cmp p1 p2) = 0 → (post 0)) ∧ (¬ (lg_cmp p1 p2) = 0 → (post 1)))) ∧ (¬ p0 = 15649 → ((p0 = 15676 → ((0 < (lg_cmp (p1 ^^^ 0) (p2 ^^^ 0)) → (post 0)) ∧ (¬ 0 < (lg_cmp (p1 ^^^ 0) (p2 ^^^ 0)) → (post 1)))) ∧ (¬ p0 = 15676 → ((p0 = 15677 → (((lg_cmp p1 p2) = 0 → (post 1)) ∧ (¬ (lg_cmp p1 p2) = 0 → (post 0)))) ∧ (¬ p0 = 15677 → ((p0 = 15678 → (((lg_cmp (p1 ^^^ 0) (p2 ^^^ 0)) < 0 → (post 0)) ∧ (¬ (lg_cmp (p1 ^^^ 0) (p2 ^^^ 0)) < 0 → (post 1)))) ∧ (¬ p0 = 15678 → ((p0 = 31868 → (((lg_cmp p1 0) = 0 → (((lg_cmp p2 0) = 0 → (post 0)) ∧ (¬ (lg_cmp p2 0) = 0 → (post 1)))) ∧ (¬ (lg_cmp p1 0) = 0 → (post 1)))) ∧ (¬ p0 = 31868 → (post 0)))))))))))))))))) ∧ (¬ p3 = 0 → ((p0 = 60 → ((0 ≤ (lg_cmp (p1 ^^^ (-9223372036854775808)) (p2 ^^^ (-9223372036854775808))) → (post 0)) ∧ (¬ 0 ≤ (lg_cmp (p1 ^^^ (-9223372036854775808)) (p2 ^^^ (-9223372036854775808))) → (post 1)))) ∧ (¬ p0 = 60 → ((p0 = 62 → (((lg_cmp (p1 ^^^ (-9223372036854775808)) (p2 ^^^ (-9223372036854775808))) ≤ 0 → (post 0)) ∧ (¬ (lg_cmp (p1 ^^^ (-9223372036854775808)) (p2 ^^^ (-9223372036854775808))) ≤ 0 → (post 1)))) ∧ (¬ p0 = 62 → ((p0 = 9766 → (((lg_cmp p1 0) = 0 → (post 0)) ∧ (¬ (lg_cmp p1 0) = 0 → (((lg_cmp p2 0) = 0 → (post 0)) ∧ (¬ (lg_cmp p2 0) = 0 → (post 1)))))) ∧ (¬ p0 = 9766 → ((p0 = 15649 → (((lg_cmp p1 p2) = 0 → (post 0)) ∧ (¬ (lg_cmp p1 p2) = 0 → (post 1)))) ∧ (¬ p0 = 15649 → ((p0 = 15676 → ((0 < (lg_cmp (p1 ^^^ (-9223372036854775808)) (p2 ^^^ (-9223372036854775808))) → (post 0)) ∧ (¬ 0 < (lg_cmp (p1 ^^^ (-9223372036854775808)) (p2 ^^^ (-9223372036854775808))) → (post 1)))) ∧ (¬ p0 = 15676 → ((p0 = 15677 → (((lg_cmp p1 p2) = 0 → (post 1)) ∧ (¬ (lg_cmp p1 p2) = 0 → (post 0)))) ∧ (¬ p0 = 15677 → ((p0 = 15678 → (((lg_cmp (p1 ^^^ (-9223372036854775808)) (p2 ^^^ (-9223372036854775808))) < 0 → (post 0)) ∧ (¬ (lg_cmp (p1 ^^^ (-9223372036854775808)) (p2 ^^^ (-9223372036854775808))) < 0 → (post 1)))) ∧ (¬ p0 = 15678 → ((p0 = 31868 → (((lg_cmp p1 0) = 0 → (((lg_cmp p2 0) = 0 → (post 0)) ∧ (¬ (lg_cmp p2 0) = 0 → (post 1)))) ∧ (¬ (lg_cmp p1 0) = 0 → (post 1)))) ∧ (¬ p0 = 31868 → (post 0))))))))))))))))))
set_option maxHeartbeats 4000000 in
set_option maxRecDepth 100000 in
theorem kc_S_holds (l : Launch) (dC : Nat → ClassId) (dI : Nat → Nat → Nat) (ad : Nat → Nat) (ck : Nat → ClassId)  (p0 : Int32) (p1 : Int64) (p2 : Int64) (p3 : Int32) {post : Int32 → Prop} (hw : wp_S_holds post  p0 p1 p2 p3) : k_Ci l y_S_holds ws_S_holds ({ frames := 0, cells := 0, slots := 0, locals := 0 } : Room) (dC, dI) vwCl (TYm ck) k_x0 [.int p0, .long p1, .long p2, .int p3] ([]) (fun (r : Int32) (u : Unit) => post r ) (fun (u : Unit) => []) := by
  intro sz
  refine Met.ofW (cc := c_S_holds) (maxL := 8) (ret := (some .boolean)) (by decide) rfl ?_
  intro p e s m args below meth c s₁ B hml hv
  obtain ⟨rfl, hsz, hP, hK, hD0, hX⟩ := hv
  have hx := B.exec
  have hb := B.bytes
  have hr := B.returns
  have hts : ∀ w ∈ TB, w.before _ s = true := fun w h => atoms_spec (ws := ws_S_holds) B.pre w (List.mem_cons_of_mem _ h)
  have hown : s.vm.findClass R_S = some m.cls := findClass_of_methodNamed B.named
  have hlocks := B.notSynchronized
  subst hsz
  have hD := hD0.self (sz := s.heap.size)
  generalize hAe : va_A ([]) s.heap.size = A at hD hX ⊢
  have hA : ∀ q : Nat, s.heap.size ≤ q → A q := fun q h => by rw [← hAe]; exact Or.inr h
  have hS : va_S A s.heap s.heap [] := va_S.rf
  have hP : va_P (dC, dI) vwCl ([]) s.heap := hP
  have hl := lv_entry ([.int p0, .long p1, .long p2, .int p3]) (n := 8) (Nat.le_of_ble_eq_true rfl)
  rw [lg_entry_eq]
  generalize (lg_sl ([.int p0, .long p1, .long p2, .int p3]) ++ List.replicate (8 - (lg_sl ([.int p0, .long p1, .long p2, .int p3])).length) Slot.unset).toArray = ls at hl ⊢
  have hl : lv_has ls 8 [(0, .int p0), (1, .long p1), (3, .long p2), (5, .int p3)] := hl
  refine lv_iload hx hb d_S_holds_0 (lv_at hl 3 rfl) ?_
  obtain ⟨hwt, hwf⟩ := hw
  refine lv_if_eq (tgt := 11) hx hb d_S_holds_2 (by decide) (fun c_1 => ?_) (fun c_1 => ?_)
  · have hw := hwt c_1
    refine lv_lconst (v := 0) hx hb d_S_holds_11 (by decide) ?_
    refine lv_lstore (lv' := [(6, .long 0), (0, .int p0), (1, .long p1), (3, .long p2), (5, .int p3)]) hx hb d_S_holds_12 hl (by decide) rfl (fun ls hl => ?_)
    refine lv_iload_n hx hb d_S_holds_14 rfl (lv_at hl 1 rfl) ?_
    obtain ⟨hwt, hwf⟩ := hw
    by_cases c_2 : p0 = 60
    · have hw := hwt c_2
      refine lv_lookup (off := 133) (tgt := 148) hx hb d_S_holds_15 (by decide) (by rw [c_2]; decide) (by decide) ?_
      refine lv_lload_n hx hb d_S_holds_148 rfl (lv_at hl 2 rfl) ?_
      refine lv_lload hx hb d_S_holds_149 (lv_at hl 0 rfl) ?_
      refine lv_lxor hx hb d_S_holds_151 ?_
      refine lv_lload_n hx hb d_S_holds_152 rfl (lv_at hl 3 rfl) ?_
      refine lv_lload hx hb d_S_holds_153 (lv_at hl 0 rfl) ?_
      refine lv_lxor hx hb d_S_holds_155 ?_
      refine W.lcmp hx hb d_S_holds_156 ?_
      obtain ⟨hwt, hwf⟩ := hw
      refine lv_if_ge (tgt := 164) hx hb d_S_holds_157 (by decide) (fun c_3 => ?_) (fun c_3 => ?_)
      · have hw := hwt c_3
        refine lv_iconst (v := 0) hx hb d_S_holds_164 (by decide) ?_
        exact W.zret (v := 0) hx hb hr (by decide) (fun t ht hW => ⟨⟨0, (), rfl, hw, by rw [ht]; exact hP, va_K.moved hW.alike hK, hD⟩, hS.F ht⟩) hS.2.2 d_S_holds_165
      · have hw := hwf c_3
        refine lv_iconst (v := 1) hx hb d_S_holds_160 (by decide) ?_
        refine lv_goto (tgt := 165) hx hb d_S_holds_161 (by decide) ?_
        exact W.zret (v := 1) hx hb hr (by decide) (fun t ht hW => ⟨⟨1, (), rfl, hw, by rw [ht]; exact hP, va_K.moved hW.alike hK, hD⟩, hS.F ht⟩) hS.2.2 d_S_holds_165
    · have hw := hwf c_2
      obtain ⟨hwt, hwf⟩ := hw
      by_cases c_4 : p0 = 62
      · have hw := hwt c_4
        refine lv_lookup (off := 151) (tgt := 166) hx hb d_S_holds_15 (by decide) (by rw [c_4]; decide) (by decide) ?_
        refine lv_lload_n hx hb d_S_holds_166 rfl (lv_at hl 2 rfl) ?_
        refine lv_lload hx hb d_S_holds_167 (lv_at hl 0 rfl) ?_
        refine lv_lxor hx hb d_S_holds_169 ?_
        refine lv_lload_n hx hb d_S_holds_170 rfl (lv_at hl 3 rfl) ?_
        refine lv_lload hx hb d_S_holds_171 (lv_at hl 0 rfl) ?_
        refine lv_lxor hx hb d_S_holds_173 ?_
        refine W.lcmp hx hb d_S_holds_174 ?_
        obtain ⟨hwt, hwf⟩ := hw
        refine lv_if_le (tgt := 182) hx hb d_S_holds_175 (by decide) (fun c_5 => ?_) (fun c_5 => ?_)
        · have hw := hwt c_5
          refine lv_iconst (v := 0) hx hb d_S_holds_182 (by decide) ?_
          exact W.zret (v := 0) hx hb hr (by decide) (fun t ht hW => ⟨⟨0, (), rfl, hw, by rw [ht]; exact hP, va_K.moved hW.alike hK, hD⟩, hS.F ht⟩) hS.2.2 d_S_holds_183
        · have hw := hwf c_5
          refine lv_iconst (v := 1) hx hb d_S_holds_178 (by decide) ?_
          refine lv_goto (tgt := 183) hx hb d_S_holds_179 (by decide) ?_
          exact W.zret (v := 1) hx hb hr (by decide) (fun t ht hW => ⟨⟨1, (), rfl, hw, by rw [ht]; exact hP, va_K.moved hW.alike hK, hD⟩, hS.F ht⟩) hS.2.2 d_S_holds_183
      · have hw := hwf c_4
        obtain ⟨hwt, hwf⟩ := hw
        by_cases c_6 : p0 = 9766
        · have hw := hwt c_6
          refine lv_lookup (off := 91) (tgt := 106) hx hb d_S_holds_15 (by decide) (by rw [c_6]; decide) (by decide) ?_
          refine lv_lload_n hx hb d_S_holds_106 rfl (lv_at hl 2 rfl) ?_
          refine lv_lconst (v := 0) hx hb d_S_holds_107 (by decide) ?_
          refine W.lcmp hx hb d_S_holds_108 ?_
          obtain ⟨hwt, hwf⟩ := hw
          refine lv_if_eq (tgt := 122) hx hb d_S_holds_109 (by decide) (fun c_7 => ?_) (fun c_7 => ?_)
          · have hw := hwt c_7
            refine lv_iconst (v := 0) hx hb d_S_holds_122 (by decide) ?_
            exact W.zret (v := 0) hx hb hr (by decide) (fun t ht hW => ⟨⟨0, (), rfl, hw, by rw [ht]; exact hP, va_K.moved hW.alike hK, hD⟩, hS.F ht⟩) hS.2.2 d_S_holds_123
          · have hw := hwf c_7
            refine lv_lload_n hx hb d_S_holds_112 rfl (lv_at hl 3 rfl) ?_
            refine lv_lconst (v := 0) hx hb d_S_holds_113 (by decide) ?_
            refine W.lcmp hx hb d_S_holds_114 ?_
            obtain ⟨hwt, hwf⟩ := hw
            refine lv_if_eq (tgt := 122) hx hb d_S_holds_115 (by decide) (fun c_8 => ?_) (fun c_8 => ?_)
            · have hw := hwt c_8
              refine lv_iconst (v := 0) hx hb d_S_holds_122 (by decide) ?_
              exact W.zret (v := 0) hx hb hr (by decide) (fun t ht hW => ⟨⟨0, (), rfl, hw, by rw [ht]; exact hP, va_K.moved hW.alike hK, hD⟩, hS.F ht⟩) hS.2.2 d_S_holds_123
            · have hw := hwf c_8
              refine lv_iconst (v := 1) hx hb d_S_holds_118 (by decide) ?_
              refine lv_goto (tgt := 123) hx hb d_S_holds_119 (by decide) ?_
              exact W.zret (v := 1) hx hb hr (by decide) (fun t ht hW => ⟨⟨1, (), rfl, hw, by rw [ht]; exact hP, va_K.moved hW.alike hK, hD⟩, hS.F ht⟩) hS.2.2 d_S_holds_123
        · have hw := hwf c_6
          obtain ⟨hwt, hwf⟩ := hw
          by_cases c_9 : p0 = 15649
          · have hw := hwt c_9
            refine lv_lookup (off := 121) (tgt := 136) hx hb d_S_holds_15 (by decide) (by rw [c_9]; decide) (by decide) ?_
            refine lv_lload_n hx hb d_S_holds_136 rfl (lv_at hl 2 rfl) ?_
            refine lv_lload_n hx hb d_S_holds_137 rfl (lv_at hl 3 rfl) ?_
            refine W.lcmp hx hb d_S_holds_138 ?_
            obtain ⟨hwt, hwf⟩ := hw
            refine lv_if_eq (tgt := 146) hx hb d_S_holds_139 (by decide) (fun c_10 => ?_) (fun c_10 => ?_)
            · have hw := hwt c_10
              refine lv_iconst (v := 0) hx hb d_S_holds_146 (by decide) ?_
              exact W.zret (v := 0) hx hb hr (by decide) (fun t ht hW => ⟨⟨0, (), rfl, hw, by rw [ht]; exact hP, va_K.moved hW.alike hK, hD⟩, hS.F ht⟩) hS.2.2 d_S_holds_147
            · have hw := hwf c_10
              refine lv_iconst (v := 1) hx hb d_S_holds_142 (by decide) ?_
              refine lv_goto (tgt := 147) hx hb d_S_holds_143 (by decide) ?_
              exact W.zret (v := 1) hx hb hr (by decide) (fun t ht hW => ⟨⟨1, (), rfl, hw, by rw [ht]; exact hP, va_K.moved hW.alike hK, hD⟩, hS.F ht⟩) hS.2.2 d_S_holds_147
          · have hw := hwf c_9
            obtain ⟨hwt, hwf⟩ := hw
            by_cases c_11 : p0 = 15676
            · have hw := hwt c_11
              refine lv_lookup (off := 169) (tgt := 184) hx hb d_S_holds_15 (by decide) (by rw [c_11]; decide) (by decide) ?_
              refine lv_lload_n hx hb d_S_holds_184 rfl (lv_at hl 2 rfl) ?_
              refine lv_lload hx hb d_S_holds_185 (lv_at hl 0 rfl) ?_
              refine lv_lxor hx hb d_S_holds_187 ?_
              refine lv_lload_n hx hb d_S_holds_188 rfl (lv_at hl 3 rfl) ?_
              refine lv_lload hx hb d_S_holds_189 (lv_at hl 0 rfl) ?_
              refine lv_lxor hx hb d_S_holds_191 ?_
              refine W.lcmp hx hb d_S_holds_192 ?_
              obtain ⟨hwt, hwf⟩ := hw
              refine lv_if_gt (tgt := 200) hx hb d_S_holds_193 (by decide) (fun c_12 => ?_) (fun c_12 => ?_)
              · have hw := hwt c_12
                refine lv_iconst (v := 0) hx hb d_S_holds_200 (by decide) ?_
                exact W.zret (v := 0) hx hb hr (by decide) (fun t ht hW => ⟨⟨0, (), rfl, hw, by rw [ht]; exact hP, va_K.moved hW.alike hK, hD⟩, hS.F ht⟩) hS.2.2 d_S_holds_201
              · have hw := hwf c_12
                refine lv_iconst (v := 1) hx hb d_S_holds_196 (by decide) ?_
                refine lv_goto (tgt := 201) hx hb d_S_holds_197 (by decide) ?_
                exact W.zret (v := 1) hx hb hr (by decide) (fun t ht hW => ⟨⟨1, (), rfl, hw, by rw [ht]; exact hP, va_K.moved hW.alike hK, hD⟩, hS.F ht⟩) hS.2.2 d_S_holds_201
            · have hw := hwf c_11
              obtain ⟨hwt, hwf⟩ := hw
              by_cases c_13 : p0 = 15677
              · have hw := hwt c_13
                refine lv_lookup (off := 109) (tgt := 124) hx hb d_S_holds_15 (by decide) (by rw [c_13]; decide) (by decide) ?_
                refine lv_lload_n hx hb d_S_holds_124 rfl (lv_at hl 2 rfl) ?_
                refine lv_lload_n hx hb d_S_holds_125 rfl (lv_at hl 3 rfl) ?_
                refine W.lcmp hx hb d_S_holds_126 ?_
                obtain ⟨hwt, hwf⟩ := hw
                refine lv_if_ne (tgt := 134) hx hb d_S_holds_127 (by decide) (fun c_14 => ?_) (fun c_14 => ?_)
                · have hw := hwf c_14
                  refine lv_iconst (v := 0) hx hb d_S_holds_134 (by decide) ?_
                  exact W.zret (v := 0) hx hb hr (by decide) (fun t ht hW => ⟨⟨0, (), rfl, hw, by rw [ht]; exact hP, va_K.moved hW.alike hK, hD⟩, hS.F ht⟩) hS.2.2 d_S_holds_135
                · have hw := hwt c_14
                  refine lv_iconst (v := 1) hx hb d_S_holds_130 (by decide) ?_
                  refine lv_goto (tgt := 135) hx hb d_S_holds_131 (by decide) ?_
                  exact W.zret (v := 1) hx hb hr (by decide) (fun t ht hW => ⟨⟨1, (), rfl, hw, by rw [ht]; exact hP, va_K.moved hW.alike hK, hD⟩, hS.F ht⟩) hS.2.2 d_S_holds_135
              · have hw := hwf c_13
                obtain ⟨hwt, hwf⟩ := hw
                by_cases c_15 : p0 = 15678
                · have hw := hwt c_15
                  refine lv_lookup (off := 187) (tgt := 202) hx hb d_S_holds_15 (by decide) (by rw [c_15]; decide) (by decide) ?_
                  refine lv_lload_n hx hb d_S_holds_202 rfl (lv_at hl 2 rfl) ?_
                  refine lv_lload hx hb d_S_holds_203 (lv_at hl 0 rfl) ?_
                  refine lv_lxor hx hb d_S_holds_205 ?_
                  refine lv_lload_n hx hb d_S_holds_206 rfl (lv_at hl 3 rfl) ?_
                  refine lv_lload hx hb d_S_holds_207 (lv_at hl 0 rfl) ?_
                  refine lv_lxor hx hb d_S_holds_209 ?_
                  refine W.lcmp hx hb d_S_holds_210 ?_
                  obtain ⟨hwt, hwf⟩ := hw
                  refine lv_if_lt (tgt := 218) hx hb d_S_holds_211 (by decide) (fun c_16 => ?_) (fun c_16 => ?_)
                  · have hw := hwt c_16
                    refine lv_iconst (v := 0) hx hb d_S_holds_218 (by decide) ?_
                    exact W.zret (v := 0) hx hb hr (by decide) (fun t ht hW => ⟨⟨0, (), rfl, hw, by rw [ht]; exact hP, va_K.moved hW.alike hK, hD⟩, hS.F ht⟩) hS.2.2 d_S_holds_219
                  · have hw := hwf c_16
                    refine lv_iconst (v := 1) hx hb d_S_holds_214 (by decide) ?_
                    refine lv_goto (tgt := 219) hx hb d_S_holds_215 (by decide) ?_
                    exact W.zret (v := 1) hx hb hr (by decide) (fun t ht hW => ⟨⟨1, (), rfl, hw, by rw [ht]; exact hP, va_K.moved hW.alike hK, hD⟩, hS.F ht⟩) hS.2.2 d_S_holds_219
                · have hw := hwf c_15
                  obtain ⟨hwt, hwf⟩ := hw
                  by_cases c_17 : p0 = 31868
                  · have hw := hwt c_17
                    refine lv_lookup (off := 73) (tgt := 88) hx hb d_S_holds_15 (by decide) (by rw [c_17]; decide) (by decide) ?_
                    refine lv_lload_n hx hb d_S_holds_88 rfl (lv_at hl 2 rfl) ?_
                    refine lv_lconst (v := 0) hx hb d_S_holds_89 (by decide) ?_
                    refine W.lcmp hx hb d_S_holds_90 ?_
                    obtain ⟨hwt, hwf⟩ := hw
                    refine lv_if_ne (tgt := 100) hx hb d_S_holds_91 (by decide) (fun c_18 => ?_) (fun c_18 => ?_)
                    · have hw := hwf c_18
                      refine lv_iconst (v := 1) hx hb d_S_holds_100 (by decide) ?_
                      refine lv_goto (tgt := 105) hx hb d_S_holds_101 (by decide) ?_
                      exact W.zret (v := 1) hx hb hr (by decide) (fun t ht hW => ⟨⟨1, (), rfl, hw, by rw [ht]; exact hP, va_K.moved hW.alike hK, hD⟩, hS.F ht⟩) hS.2.2 d_S_holds_105
                    · have hw := hwt c_18
                      refine lv_lload_n hx hb d_S_holds_94 rfl (lv_at hl 3 rfl) ?_
                      refine lv_lconst (v := 0) hx hb d_S_holds_95 (by decide) ?_
                      refine W.lcmp hx hb d_S_holds_96 ?_
                      obtain ⟨hwt, hwf⟩ := hw
                      refine lv_if_eq (tgt := 104) hx hb d_S_holds_97 (by decide) (fun c_19 => ?_) (fun c_19 => ?_)
                      · have hw := hwt c_19
                        refine lv_iconst (v := 0) hx hb d_S_holds_104 (by decide) ?_
                        exact W.zret (v := 0) hx hb hr (by decide) (fun t ht hW => ⟨⟨0, (), rfl, hw, by rw [ht]; exact hP, va_K.moved hW.alike hK, hD⟩, hS.F ht⟩) hS.2.2 d_S_holds_105
                      · have hw := hwf c_19
                        refine lv_iconst (v := 1) hx hb d_S_holds_100 (by decide) ?_
                        refine lv_goto (tgt := 105) hx hb d_S_holds_101 (by decide) ?_
                        exact W.zret (v := 1) hx hb hr (by decide) (fun t ht hW => ⟨⟨1, (), rfl, hw, by rw [ht]; exact hP, va_K.moved hW.alike hK, hD⟩, hS.F ht⟩) hS.2.2 d_S_holds_105
                  · have hw := hwf c_17
                    refine lv_lookup (off := 205) (tgt := 220) hx hb d_S_holds_15 (by decide) (by show Op.lookupswitch.offset _ _ _ = _; rw [lv_osw c_2 (show (60 : Int32).toInt = 60 from rfl), lv_osw c_4 (show (62 : Int32).toInt = 62 from rfl), lv_osw c_6 (show (9766 : Int32).toInt = 9766 from rfl), lv_osw c_9 (show (15649 : Int32).toInt = 15649 from rfl), lv_osw c_11 (show (15676 : Int32).toInt = 15676 from rfl), lv_osw c_13 (show (15677 : Int32).toInt = 15677 from rfl), lv_osw c_15 (show (15678 : Int32).toInt = 15678 from rfl), lv_osw c_17 (show (31868 : Int32).toInt = 31868 from rfl)]; rfl) (by decide) ?_
                    refine lv_iconst (v := 0) hx hb d_S_holds_220 (by decide) ?_
                    exact W.zret (v := 0) hx hb hr (by decide) (fun t ht hW => ⟨⟨0, (), rfl, hw, by rw [ht]; exact hP, va_K.moved hW.alike hK, hD⟩, hS.F ht⟩) hS.2.2 d_S_holds_221
  · have hw := hwf c_1
    refine lv_ldc2 (v := (-9223372036854775808)) hx hb hown (hts _ tw_131) d_S_holds_5 ?_
    refine lv_goto (tgt := 12) hx hb d_S_holds_8 (by decide) ?_
    refine lv_lstore (lv' := [(6, .long (-9223372036854775808)), (0, .int p0), (1, .long p1), (3, .long p2), (5, .int p3)]) hx hb d_S_holds_12 hl (by decide) rfl (fun ls hl => ?_)
    refine lv_iload_n hx hb d_S_holds_14 rfl (lv_at hl 1 rfl) ?_
    obtain ⟨hwt, hwf⟩ := hw
    by_cases c_20 : p0 = 60
    · have hw := hwt c_20
      refine lv_lookup (off := 133) (tgt := 148) hx hb d_S_holds_15 (by decide) (by rw [c_20]; decide) (by decide) ?_
      refine lv_lload_n hx hb d_S_holds_148 rfl (lv_at hl 2 rfl) ?_
      refine lv_lload hx hb d_S_holds_149 (lv_at hl 0 rfl) ?_
      refine lv_lxor hx hb d_S_holds_151 ?_
      refine lv_lload_n hx hb d_S_holds_152 rfl (lv_at hl 3 rfl) ?_
      refine lv_lload hx hb d_S_holds_153 (lv_at hl 0 rfl) ?_
      refine lv_lxor hx hb d_S_holds_155 ?_
      refine W.lcmp hx hb d_S_holds_156 ?_
      obtain ⟨hwt, hwf⟩ := hw
      refine lv_if_ge (tgt := 164) hx hb d_S_holds_157 (by decide) (fun c_21 => ?_) (fun c_21 => ?_)
      · have hw := hwt c_21
        refine lv_iconst (v := 0) hx hb d_S_holds_164 (by decide) ?_
        exact W.zret (v := 0) hx hb hr (by decide) (fun t ht hW => ⟨⟨0, (), rfl, hw, by rw [ht]; exact hP, va_K.moved hW.alike hK, hD⟩, hS.F ht⟩) hS.2.2 d_S_holds_165
      · have hw := hwf c_21
        refine lv_iconst (v := 1) hx hb d_S_holds_160 (by decide) ?_
        refine lv_goto (tgt := 165) hx hb d_S_holds_161 (by decide) ?_
        exact W.zret (v := 1) hx hb hr (by decide) (fun t ht hW => ⟨⟨1, (), rfl, hw, by rw [ht]; exact hP, va_K.moved hW.alike hK, hD⟩, hS.F ht⟩) hS.2.2 d_S_holds_165
    · have hw := hwf c_20
      obtain ⟨hwt, hwf⟩ := hw
      by_cases c_22 : p0 = 62
      · have hw := hwt c_22
        refine lv_lookup (off := 151) (tgt := 166) hx hb d_S_holds_15 (by decide) (by rw [c_22]; decide) (by decide) ?_
        refine lv_lload_n hx hb d_S_holds_166 rfl (lv_at hl 2 rfl) ?_
        refine lv_lload hx hb d_S_holds_167 (lv_at hl 0 rfl) ?_
        refine lv_lxor hx hb d_S_holds_169 ?_
        refine lv_lload_n hx hb d_S_holds_170 rfl (lv_at hl 3 rfl) ?_
        refine lv_lload hx hb d_S_holds_171 (lv_at hl 0 rfl) ?_
        refine lv_lxor hx hb d_S_holds_173 ?_
        refine W.lcmp hx hb d_S_holds_174 ?_
        obtain ⟨hwt, hwf⟩ := hw
        refine lv_if_le (tgt := 182) hx hb d_S_holds_175 (by decide) (fun c_23 => ?_) (fun c_23 => ?_)
        · have hw := hwt c_23
          refine lv_iconst (v := 0) hx hb d_S_holds_182 (by decide) ?_
          exact W.zret (v := 0) hx hb hr (by decide) (fun t ht hW => ⟨⟨0, (), rfl, hw, by rw [ht]; exact hP, va_K.moved hW.alike hK, hD⟩, hS.F ht⟩) hS.2.2 d_S_holds_183
        · have hw := hwf c_23
          refine lv_iconst (v := 1) hx hb d_S_holds_178 (by decide) ?_
          refine lv_goto (tgt := 183) hx hb d_S_holds_179 (by decide) ?_
          exact W.zret (v := 1) hx hb hr (by decide) (fun t ht hW => ⟨⟨1, (), rfl, hw, by rw [ht]; exact hP, va_K.moved hW.alike hK, hD⟩, hS.F ht⟩) hS.2.2 d_S_holds_183
      · have hw := hwf c_22
        obtain ⟨hwt, hwf⟩ := hw
        by_cases c_24 : p0 = 9766
        · have hw := hwt c_24
          refine lv_lookup (off := 91) (tgt := 106) hx hb d_S_holds_15 (by decide) (by rw [c_24]; decide) (by decide) ?_
          refine lv_lload_n hx hb d_S_holds_106 rfl (lv_at hl 2 rfl) ?_
          refine lv_lconst (v := 0) hx hb d_S_holds_107 (by decide) ?_
          refine W.lcmp hx hb d_S_holds_108 ?_
          obtain ⟨hwt, hwf⟩ := hw
          refine lv_if_eq (tgt := 122) hx hb d_S_holds_109 (by decide) (fun c_25 => ?_) (fun c_25 => ?_)
          · have hw := hwt c_25
            refine lv_iconst (v := 0) hx hb d_S_holds_122 (by decide) ?_
            exact W.zret (v := 0) hx hb hr (by decide) (fun t ht hW => ⟨⟨0, (), rfl, hw, by rw [ht]; exact hP, va_K.moved hW.alike hK, hD⟩, hS.F ht⟩) hS.2.2 d_S_holds_123
          · have hw := hwf c_25
            refine lv_lload_n hx hb d_S_holds_112 rfl (lv_at hl 3 rfl) ?_
            refine lv_lconst (v := 0) hx hb d_S_holds_113 (by decide) ?_
            refine W.lcmp hx hb d_S_holds_114 ?_
            obtain ⟨hwt, hwf⟩ := hw
            refine lv_if_eq (tgt := 122) hx hb d_S_holds_115 (by decide) (fun c_26 => ?_) (fun c_26 => ?_)
            · have hw := hwt c_26
              refine lv_iconst (v := 0) hx hb d_S_holds_122 (by decide) ?_
              exact W.zret (v := 0) hx hb hr (by decide) (fun t ht hW => ⟨⟨0, (), rfl, hw, by rw [ht]; exact hP, va_K.moved hW.alike hK, hD⟩, hS.F ht⟩) hS.2.2 d_S_holds_123
            · have hw := hwf c_26
              refine lv_iconst (v := 1) hx hb d_S_holds_118 (by decide) ?_
              refine lv_goto (tgt := 123) hx hb d_S_holds_119 (by decide) ?_
              exact W.zret (v := 1) hx hb hr (by decide) (fun t ht hW => ⟨⟨1, (), rfl, hw, by rw [ht]; exact hP, va_K.moved hW.alike hK, hD⟩, hS.F ht⟩) hS.2.2 d_S_holds_123
        · have hw := hwf c_24
          obtain ⟨hwt, hwf⟩ := hw
          by_cases c_27 : p0 = 15649
          · have hw := hwt c_27
            refine lv_lookup (off := 121) (tgt := 136) hx hb d_S_holds_15 (by decide) (by rw [c_27]; decide) (by decide) ?_
            refine lv_lload_n hx hb d_S_holds_136 rfl (lv_at hl 2 rfl) ?_
            refine lv_lload_n hx hb d_S_holds_137 rfl (lv_at hl 3 rfl) ?_
            refine W.lcmp hx hb d_S_holds_138 ?_
            obtain ⟨hwt, hwf⟩ := hw
            refine lv_if_eq (tgt := 146) hx hb d_S_holds_139 (by decide) (fun c_28 => ?_) (fun c_28 => ?_)
            · have hw := hwt c_28
              refine lv_iconst (v := 0) hx hb d_S_holds_146 (by decide) ?_
              exact W.zret (v := 0) hx hb hr (by decide) (fun t ht hW => ⟨⟨0, (), rfl, hw, by rw [ht]; exact hP, va_K.moved hW.alike hK, hD⟩, hS.F ht⟩) hS.2.2 d_S_holds_147
            · have hw := hwf c_28
              refine lv_iconst (v := 1) hx hb d_S_holds_142 (by decide) ?_
              refine lv_goto (tgt := 147) hx hb d_S_holds_143 (by decide) ?_
              exact W.zret (v := 1) hx hb hr (by decide) (fun t ht hW => ⟨⟨1, (), rfl, hw, by rw [ht]; exact hP, va_K.moved hW.alike hK, hD⟩, hS.F ht⟩) hS.2.2 d_S_holds_147
          · have hw := hwf c_27
            obtain ⟨hwt, hwf⟩ := hw
            by_cases c_29 : p0 = 15676
            · have hw := hwt c_29
              refine lv_lookup (off := 169) (tgt := 184) hx hb d_S_holds_15 (by decide) (by rw [c_29]; decide) (by decide) ?_
              refine lv_lload_n hx hb d_S_holds_184 rfl (lv_at hl 2 rfl) ?_
              refine lv_lload hx hb d_S_holds_185 (lv_at hl 0 rfl) ?_
              refine lv_lxor hx hb d_S_holds_187 ?_
              refine lv_lload_n hx hb d_S_holds_188 rfl (lv_at hl 3 rfl) ?_
              refine lv_lload hx hb d_S_holds_189 (lv_at hl 0 rfl) ?_
              refine lv_lxor hx hb d_S_holds_191 ?_
              refine W.lcmp hx hb d_S_holds_192 ?_
              obtain ⟨hwt, hwf⟩ := hw
              refine lv_if_gt (tgt := 200) hx hb d_S_holds_193 (by decide) (fun c_30 => ?_) (fun c_30 => ?_)
              · have hw := hwt c_30
                refine lv_iconst (v := 0) hx hb d_S_holds_200 (by decide) ?_
                exact W.zret (v := 0) hx hb hr (by decide) (fun t ht hW => ⟨⟨0, (), rfl, hw, by rw [ht]; exact hP, va_K.moved hW.alike hK, hD⟩, hS.F ht⟩) hS.2.2 d_S_holds_201
              · have hw := hwf c_30
                refine lv_iconst (v := 1) hx hb d_S_holds_196 (by decide) ?_
                refine lv_goto (tgt := 201) hx hb d_S_holds_197 (by decide) ?_
                exact W.zret (v := 1) hx hb hr (by decide) (fun t ht hW => ⟨⟨1, (), rfl, hw, by rw [ht]; exact hP, va_K.moved hW.alike hK, hD⟩, hS.F ht⟩) hS.2.2 d_S_holds_201
            · have hw := hwf c_29
              obtain ⟨hwt, hwf⟩ := hw
              by_cases c_31 : p0 = 15677
              · have hw := hwt c_31
                refine lv_lookup (off := 109) (tgt := 124) hx hb d_S_holds_15 (by decide) (by rw [c_31]; decide) (by decide) ?_
                refine lv_lload_n hx hb d_S_holds_124 rfl (lv_at hl 2 rfl) ?_
                refine lv_lload_n hx hb d_S_holds_125 rfl (lv_at hl 3 rfl) ?_
                refine W.lcmp hx hb d_S_holds_126 ?_
                obtain ⟨hwt, hwf⟩ := hw
                refine lv_if_ne (tgt := 134) hx hb d_S_holds_127 (by decide) (fun c_32 => ?_) (fun c_32 => ?_)
                · have hw := hwf c_32
                  refine lv_iconst (v := 0) hx hb d_S_holds_134 (by decide) ?_
                  exact W.zret (v := 0) hx hb hr (by decide) (fun t ht hW => ⟨⟨0, (), rfl, hw, by rw [ht]; exact hP, va_K.moved hW.alike hK, hD⟩, hS.F ht⟩) hS.2.2 d_S_holds_135
                · have hw := hwt c_32
                  refine lv_iconst (v := 1) hx hb d_S_holds_130 (by decide) ?_
                  refine lv_goto (tgt := 135) hx hb d_S_holds_131 (by decide) ?_
                  exact W.zret (v := 1) hx hb hr (by decide) (fun t ht hW => ⟨⟨1, (), rfl, hw, by rw [ht]; exact hP, va_K.moved hW.alike hK, hD⟩, hS.F ht⟩) hS.2.2 d_S_holds_135
              · have hw := hwf c_31
                obtain ⟨hwt, hwf⟩ := hw
                by_cases c_33 : p0 = 15678
                · have hw := hwt c_33
                  refine lv_lookup (off := 187) (tgt := 202) hx hb d_S_holds_15 (by decide) (by rw [c_33]; decide) (by decide) ?_
                  refine lv_lload_n hx hb d_S_holds_202 rfl (lv_at hl 2 rfl) ?_
                  refine lv_lload hx hb d_S_holds_203 (lv_at hl 0 rfl) ?_
                  refine lv_lxor hx hb d_S_holds_205 ?_
                  refine lv_lload_n hx hb d_S_holds_206 rfl (lv_at hl 3 rfl) ?_
                  refine lv_lload hx hb d_S_holds_207 (lv_at hl 0 rfl) ?_
                  refine lv_lxor hx hb d_S_holds_209 ?_
                  refine W.lcmp hx hb d_S_holds_210 ?_
                  obtain ⟨hwt, hwf⟩ := hw
                  refine lv_if_lt (tgt := 218) hx hb d_S_holds_211 (by decide) (fun c_34 => ?_) (fun c_34 => ?_)
                  · have hw := hwt c_34
                    refine lv_iconst (v := 0) hx hb d_S_holds_218 (by decide) ?_
                    exact W.zret (v := 0) hx hb hr (by decide) (fun t ht hW => ⟨⟨0, (), rfl, hw, by rw [ht]; exact hP, va_K.moved hW.alike hK, hD⟩, hS.F ht⟩) hS.2.2 d_S_holds_219
                  · have hw := hwf c_34
                    refine lv_iconst (v := 1) hx hb d_S_holds_214 (by decide) ?_
                    refine lv_goto (tgt := 219) hx hb d_S_holds_215 (by decide) ?_
                    exact W.zret (v := 1) hx hb hr (by decide) (fun t ht hW => ⟨⟨1, (), rfl, hw, by rw [ht]; exact hP, va_K.moved hW.alike hK, hD⟩, hS.F ht⟩) hS.2.2 d_S_holds_219
                · have hw := hwf c_33
                  obtain ⟨hwt, hwf⟩ := hw
                  by_cases c_35 : p0 = 31868
                  · have hw := hwt c_35
                    refine lv_lookup (off := 73) (tgt := 88) hx hb d_S_holds_15 (by decide) (by rw [c_35]; decide) (by decide) ?_
                    refine lv_lload_n hx hb d_S_holds_88 rfl (lv_at hl 2 rfl) ?_
                    refine lv_lconst (v := 0) hx hb d_S_holds_89 (by decide) ?_
                    refine W.lcmp hx hb d_S_holds_90 ?_
                    obtain ⟨hwt, hwf⟩ := hw
                    refine lv_if_ne (tgt := 100) hx hb d_S_holds_91 (by decide) (fun c_36 => ?_) (fun c_36 => ?_)
                    · have hw := hwf c_36
                      refine lv_iconst (v := 1) hx hb d_S_holds_100 (by decide) ?_
                      refine lv_goto (tgt := 105) hx hb d_S_holds_101 (by decide) ?_
                      exact W.zret (v := 1) hx hb hr (by decide) (fun t ht hW => ⟨⟨1, (), rfl, hw, by rw [ht]; exact hP, va_K.moved hW.alike hK, hD⟩, hS.F ht⟩) hS.2.2 d_S_holds_105
                    · have hw := hwt c_36
                      refine lv_lload_n hx hb d_S_holds_94 rfl (lv_at hl 3 rfl) ?_
                      refine lv_lconst (v := 0) hx hb d_S_holds_95 (by decide) ?_
                      refine W.lcmp hx hb d_S_holds_96 ?_
                      obtain ⟨hwt, hwf⟩ := hw
                      refine lv_if_eq (tgt := 104) hx hb d_S_holds_97 (by decide) (fun c_37 => ?_) (fun c_37 => ?_)
                      · have hw := hwt c_37
                        refine lv_iconst (v := 0) hx hb d_S_holds_104 (by decide) ?_
                        exact W.zret (v := 0) hx hb hr (by decide) (fun t ht hW => ⟨⟨0, (), rfl, hw, by rw [ht]; exact hP, va_K.moved hW.alike hK, hD⟩, hS.F ht⟩) hS.2.2 d_S_holds_105
                      · have hw := hwf c_37
                        refine lv_iconst (v := 1) hx hb d_S_holds_100 (by decide) ?_
                        refine lv_goto (tgt := 105) hx hb d_S_holds_101 (by decide) ?_
                        exact W.zret (v := 1) hx hb hr (by decide) (fun t ht hW => ⟨⟨1, (), rfl, hw, by rw [ht]; exact hP, va_K.moved hW.alike hK, hD⟩, hS.F ht⟩) hS.2.2 d_S_holds_105
                  · have hw := hwf c_35
                    refine lv_lookup (off := 205) (tgt := 220) hx hb d_S_holds_15 (by decide) (by show Op.lookupswitch.offset _ _ _ = _; rw [lv_osw c_20 (show (60 : Int32).toInt = 60 from rfl), lv_osw c_22 (show (62 : Int32).toInt = 62 from rfl), lv_osw c_24 (show (9766 : Int32).toInt = 9766 from rfl), lv_osw c_27 (show (15649 : Int32).toInt = 15649 from rfl), lv_osw c_29 (show (15676 : Int32).toInt = 15676 from rfl), lv_osw c_31 (show (15677 : Int32).toInt = 15677 from rfl), lv_osw c_33 (show (15678 : Int32).toInt = 15678 from rfl), lv_osw c_35 (show (31868 : Int32).toInt = 31868 from rfl)]; rfl) (by decide) ?_
                    refine lv_iconst (v := 0) hx hb d_S_holds_220 (by decide) ?_
                    exact W.zret (v := 0) hx hb hr (by decide) (fun t ht hW => ⟨⟨0, (), rfl, hw, by rw [ht]; exact hP, va_K.moved hW.alike hK, hD⟩, hS.F ht⟩) hS.2.2 d_S_holds_221
def f_S_holds (p0 : Int32) (p1 : Int64) (p2 : Int64) (p3 : Int32) : Int32 := (if p3 = 0 then (if p0 = 60 then (if 0 ≤ (lg_cmp (p1 ^^^ 0) (p2 ^^^ 0)) then 0 else 1) else (if p0 = 62 then (if (lg_cmp (p1 ^^^ 0) (p2 ^^^ 0)) ≤ 0 then 0 else 1) else (if p0 = 9766 then (if (lg_cmp p1 0) = 0 then 0 else (if (lg_cmp p2 0) = 0 then 0 else 1)) else (if p0 = 15649 then (if (lg_cmp p1 p2) = 0 then 0 else 1) else (if p0 = 15676 then (if 0 < (lg_cmp (p1 ^^^ 0) (p2 ^^^ 0)) then 0 else 1) else (if p0 = 15677 then (if (lg_cmp p1 p2) = 0 then 1 else 0) else (if p0 = 15678 then (if (lg_cmp (p1 ^^^ 0) (p2 ^^^ 0)) < 0 then 0 else 1) else (if p0 = 31868 then (if (lg_cmp p1 0) = 0 then (if (lg_cmp p2 0) = 0 then 0 else 1) else 1) else 0)))))))) else (if p0 = 60 then (if 0 ≤ (lg_cmp (p1 ^^^ (-9223372036854775808)) (p2 ^^^ (-9223372036854775808))) then 0 else 1) else (if p0 = 62 then (if (lg_cmp (p1 ^^^ (-9223372036854775808)) (p2 ^^^ (-9223372036854775808))) ≤ 0 then 0 else 1) else (if p0 = 9766 then (if (lg_cmp p1 0) = 0 then 0 else (if (lg_cmp p2 0) = 0 then 0 else 1)) else (if p0 = 15649 then (if (lg_cmp p1 p2) = 0 then 0 else 1) else (if p0 = 15676 then (if 0 < (lg_cmp (p1 ^^^ (-9223372036854775808)) (p2 ^^^ (-9223372036854775808))) then 0 else 1) else (if p0 = 15677 then (if (lg_cmp p1 p2) = 0 then 1 else 0) else (if p0 = 15678 then (if (lg_cmp (p1 ^^^ (-9223372036854775808)) (p2 ^^^ (-9223372036854775808))) < 0 then 0 else 1) else (if p0 = 31868 then (if (lg_cmp p1 0) = 0 then (if (lg_cmp p2 0) = 0 then 0 else 1) else 1) else 0)))))))))
theorem q_S_holds {post : Int32 → Prop} {p0 : Int32} {p1 : Int64} {p2 : Int64} {p3 : Int32} (h : post (f_S_holds p0 p1 p2 p3)) : wp_S_holds post p0 p1 p2 p3 := by
  unfold wp_S_holds
  refine br_c (fun c1 => ?_) (fun c1 => ?_)
  · refine br_c (fun c2 => ?_) (fun c2 => ?_)
    · refine br_c (fun c3 => ?_) (fun c3 => ?_)
      · rw [f_S_holds, if_pos c1, if_pos c2, if_pos c3] at h; exact h
      · rw [f_S_holds, if_pos c1, if_pos c2, if_neg c3] at h; exact h
    · refine br_c (fun c4 => ?_) (fun c4 => ?_)
      · refine br_c (fun c5 => ?_) (fun c5 => ?_)
        · rw [f_S_holds, if_pos c1, if_neg c2, if_pos c4, if_pos c5] at h; exact h
        · rw [f_S_holds, if_pos c1, if_neg c2, if_pos c4, if_neg c5] at h; exact h
      · refine br_c (fun c6 => ?_) (fun c6 => ?_)
        · refine br_c (fun c7 => ?_) (fun c7 => ?_)
          · rw [f_S_holds, if_pos c1, if_neg c2, if_neg c4, if_pos c6, if_pos c7] at h; exact h
          · refine br_c (fun c8 => ?_) (fun c8 => ?_)
            · rw [f_S_holds, if_pos c1, if_neg c2, if_neg c4, if_pos c6, if_neg c7, if_pos c8] at h; exact h
            · rw [f_S_holds, if_pos c1, if_neg c2, if_neg c4, if_pos c6, if_neg c7, if_neg c8] at h; exact h
        · refine br_c (fun c9 => ?_) (fun c9 => ?_)
          · refine br_c (fun c10 => ?_) (fun c10 => ?_)
            · rw [f_S_holds, if_pos c1, if_neg c2, if_neg c4, if_neg c6, if_pos c9, if_pos c10] at h; exact h
            · rw [f_S_holds, if_pos c1, if_neg c2, if_neg c4, if_neg c6, if_pos c9, if_neg c10] at h; exact h
          · refine br_c (fun c11 => ?_) (fun c11 => ?_)
            · refine br_c (fun c12 => ?_) (fun c12 => ?_)
              · rw [f_S_holds, if_pos c1, if_neg c2, if_neg c4, if_neg c6, if_neg c9, if_pos c11, if_pos c12] at h; exact h
              · rw [f_S_holds, if_pos c1, if_neg c2, if_neg c4, if_neg c6, if_neg c9, if_pos c11, if_neg c12] at h; exact h
            · refine br_c (fun c13 => ?_) (fun c13 => ?_)
              · refine br_c (fun c14 => ?_) (fun c14 => ?_)
                · rw [f_S_holds, if_pos c1, if_neg c2, if_neg c4, if_neg c6, if_neg c9, if_neg c11, if_pos c13, if_pos c14] at h; exact h
                · rw [f_S_holds, if_pos c1, if_neg c2, if_neg c4, if_neg c6, if_neg c9, if_neg c11, if_pos c13, if_neg c14] at h; exact h
              · refine br_c (fun c15 => ?_) (fun c15 => ?_)
                · refine br_c (fun c16 => ?_) (fun c16 => ?_)
                  · rw [f_S_holds, if_pos c1, if_neg c2, if_neg c4, if_neg c6, if_neg c9, if_neg c11, if_neg c13, if_pos c15, if_pos c16] at h; exact h
                  · rw [f_S_holds, if_pos c1, if_neg c2, if_neg c4, if_neg c6, if_neg c9, if_neg c11, if_neg c13, if_pos c15, if_neg c16] at h; exact h
                · refine br_c (fun c17 => ?_) (fun c17 => ?_)
                  · refine br_c (fun c18 => ?_) (fun c18 => ?_)
                    · refine br_c (fun c19 => ?_) (fun c19 => ?_)
                      · rw [f_S_holds, if_pos c1, if_neg c2, if_neg c4, if_neg c6, if_neg c9, if_neg c11, if_neg c13, if_neg c15, if_pos c17, if_pos c18, if_pos c19] at h; exact h
                      · rw [f_S_holds, if_pos c1, if_neg c2, if_neg c4, if_neg c6, if_neg c9, if_neg c11, if_neg c13, if_neg c15, if_pos c17, if_pos c18, if_neg c19] at h; exact h
                    · rw [f_S_holds, if_pos c1, if_neg c2, if_neg c4, if_neg c6, if_neg c9, if_neg c11, if_neg c13, if_neg c15, if_pos c17, if_neg c18] at h; exact h
                  · rw [f_S_holds, if_pos c1, if_neg c2, if_neg c4, if_neg c6, if_neg c9, if_neg c11, if_neg c13, if_neg c15, if_neg c17] at h; exact h
  · refine br_c (fun c20 => ?_) (fun c20 => ?_)
    · refine br_c (fun c21 => ?_) (fun c21 => ?_)
      · rw [f_S_holds, if_neg c1, if_pos c20, if_pos c21] at h; exact h
      · rw [f_S_holds, if_neg c1, if_pos c20, if_neg c21] at h; exact h
    · refine br_c (fun c22 => ?_) (fun c22 => ?_)
      · refine br_c (fun c23 => ?_) (fun c23 => ?_)
        · rw [f_S_holds, if_neg c1, if_neg c20, if_pos c22, if_pos c23] at h; exact h
        · rw [f_S_holds, if_neg c1, if_neg c20, if_pos c22, if_neg c23] at h; exact h
      · refine br_c (fun c24 => ?_) (fun c24 => ?_)
        · refine br_c (fun c25 => ?_) (fun c25 => ?_)
          · rw [f_S_holds, if_neg c1, if_neg c20, if_neg c22, if_pos c24, if_pos c25] at h; exact h
          · refine br_c (fun c26 => ?_) (fun c26 => ?_)
            · rw [f_S_holds, if_neg c1, if_neg c20, if_neg c22, if_pos c24, if_neg c25, if_pos c26] at h; exact h
            · rw [f_S_holds, if_neg c1, if_neg c20, if_neg c22, if_pos c24, if_neg c25, if_neg c26] at h; exact h
        · refine br_c (fun c27 => ?_) (fun c27 => ?_)
          · refine br_c (fun c28 => ?_) (fun c28 => ?_)
            · rw [f_S_holds, if_neg c1, if_neg c20, if_neg c22, if_neg c24, if_pos c27, if_pos c28] at h; exact h
            · rw [f_S_holds, if_neg c1, if_neg c20, if_neg c22, if_neg c24, if_pos c27, if_neg c28] at h; exact h
          · refine br_c (fun c29 => ?_) (fun c29 => ?_)
            · refine br_c (fun c30 => ?_) (fun c30 => ?_)
              · rw [f_S_holds, if_neg c1, if_neg c20, if_neg c22, if_neg c24, if_neg c27, if_pos c29, if_pos c30] at h; exact h
              · rw [f_S_holds, if_neg c1, if_neg c20, if_neg c22, if_neg c24, if_neg c27, if_pos c29, if_neg c30] at h; exact h
            · refine br_c (fun c31 => ?_) (fun c31 => ?_)
              · refine br_c (fun c32 => ?_) (fun c32 => ?_)
                · rw [f_S_holds, if_neg c1, if_neg c20, if_neg c22, if_neg c24, if_neg c27, if_neg c29, if_pos c31, if_pos c32] at h; exact h
                · rw [f_S_holds, if_neg c1, if_neg c20, if_neg c22, if_neg c24, if_neg c27, if_neg c29, if_pos c31, if_neg c32] at h; exact h
              · refine br_c (fun c33 => ?_) (fun c33 => ?_)
                · refine br_c (fun c34 => ?_) (fun c34 => ?_)
                  · rw [f_S_holds, if_neg c1, if_neg c20, if_neg c22, if_neg c24, if_neg c27, if_neg c29, if_neg c31, if_pos c33, if_pos c34] at h; exact h
                  · rw [f_S_holds, if_neg c1, if_neg c20, if_neg c22, if_neg c24, if_neg c27, if_neg c29, if_neg c31, if_pos c33, if_neg c34] at h; exact h
                · refine br_c (fun c35 => ?_) (fun c35 => ?_)
                  · refine br_c (fun c36 => ?_) (fun c36 => ?_)
                    · refine br_c (fun c37 => ?_) (fun c37 => ?_)
                      · rw [f_S_holds, if_neg c1, if_neg c20, if_neg c22, if_neg c24, if_neg c27, if_neg c29, if_neg c31, if_neg c33, if_pos c35, if_pos c36, if_pos c37] at h; exact h
                      · rw [f_S_holds, if_neg c1, if_neg c20, if_neg c22, if_neg c24, if_neg c27, if_neg c29, if_neg c31, if_neg c33, if_pos c35, if_pos c36, if_neg c37] at h; exact h
                    · rw [f_S_holds, if_neg c1, if_neg c20, if_neg c22, if_neg c24, if_neg c27, if_neg c29, if_neg c31, if_neg c33, if_pos c35, if_neg c36] at h; exact h
                  · rw [f_S_holds, if_neg c1, if_neg c20, if_neg c22, if_neg c24, if_neg c27, if_neg c29, if_neg c31, if_neg c33, if_neg c35] at h; exact h

abbrev wd_S_quotient (ad : Nat → Nat) (ck : Nat → ClassId)  : va_W := []
def wp_S_quotient (post : Int64 → Prop)  (p0 : Int64) (p1 : Int64) (p2 : Int32) : Prop := ((lg_cmp p1 0) = 0 → (post 0)) ∧ (¬ (lg_cmp p1 0) = 0 → ((p2 = 0 → (¬ p1 = 0 ∧ (post (p0 / p1)))) ∧ (¬ p2 = 0 → ((0 ≤ (lg_cmp p1 0) → (¬ p1 = 0 ∧ (∀ x5_5 : Int64, x5_5 = ((((p0.toUInt64 >>> ((1 : Int32).toInt64.toUInt64 &&& Int64.toUInt64 63)).toInt64) / p1) <<< ((1 : Int32).toInt64 &&& 63)) → (∀ x7_6 : Int64, x7_6 = (p0 - (x5_5 * p1)) → (((lg_cmp (x7_6 ^^^ (-9223372036854775808)) (p1 ^^^ (-9223372036854775808))) < 0 → (post x5_5)) ∧ (¬ (lg_cmp (x7_6 ^^^ (-9223372036854775808)) (p1 ^^^ (-9223372036854775808))) < 0 → (post (x5_5 + 1)))))))) ∧ (¬ 0 ≤ (lg_cmp p1 0) → (((lg_cmp (p0 ^^^ (-9223372036854775808)) (p1 ^^^ (-9223372036854775808))) < 0 → (post 0)) ∧ (¬ (lg_cmp (p0 ^^^ (-9223372036854775808)) (p1 ^^^ (-9223372036854775808))) < 0 → (post 1))))))))
set_option maxHeartbeats 4000000 in
set_option maxRecDepth 100000 in
theorem kc_S_quotient (l : Launch) (dC : Nat → ClassId) (dI : Nat → Nat → Nat) (ad : Nat → Nat) (ck : Nat → ClassId)  (p0 : Int64) (p1 : Int64) (p2 : Int32) {post : Int64 → Prop} (hw : wp_S_quotient post  p0 p1 p2) : k_Cl l y_S_quotient ws_S_quotient ({ frames := 0, cells := 0, slots := 0, locals := 0 } : Room) (dC, dI) vwCl (TYm ck) k_x0 [.long p0, .long p1, .int p2] ([]) (fun (r : Int64) (u : Unit) => post r ) (fun (u : Unit) => []) := by
  intro sz
  refine Met.ofW (cc := c_S_quotient) (maxL := 9) (ret := (some .long)) (by decide) rfl ?_
  intro p e s m args below meth c s₁ B hml hv
  obtain ⟨rfl, hsz, hP, hK, hD0, hX⟩ := hv
  have hx := B.exec
  have hb := B.bytes
  have hr := B.returns
  have hts : ∀ w ∈ TB, w.before _ s = true := fun w h => atoms_spec (ws := ws_S_quotient) B.pre w (List.mem_cons_of_mem _ h)
  have hown : s.vm.findClass R_S = some m.cls := findClass_of_methodNamed B.named
  have hlocks := B.notSynchronized
  subst hsz
  have hD := hD0.self (sz := s.heap.size)
  generalize hAe : va_A ([]) s.heap.size = A at hD hX ⊢
  have hA : ∀ q : Nat, s.heap.size ≤ q → A q := fun q h => by rw [← hAe]; exact Or.inr h
  have hS : va_S A s.heap s.heap [] := va_S.rf
  have hP : va_P (dC, dI) vwCl ([]) s.heap := hP
  have hl := lv_entry ([.long p0, .long p1, .int p2]) (n := 9) (Nat.le_of_ble_eq_true rfl)
  rw [lg_entry_eq]
  generalize (lg_sl ([.long p0, .long p1, .int p2]) ++ List.replicate (9 - (lg_sl ([.long p0, .long p1, .int p2])).length) Slot.unset).toArray = ls at hl ⊢
  have hl : lv_has ls 9 [(0, .long p0), (2, .long p1), (4, .int p2)] := hl
  refine lv_lload_n hx hb d_S_quotient_0 rfl (lv_at hl 1 rfl) ?_
  refine lv_lconst (v := 0) hx hb d_S_quotient_1 (by decide) ?_
  refine W.lcmp hx hb d_S_quotient_2 ?_
  obtain ⟨hwt, hwf⟩ := hw
  refine lv_if_ne (tgt := 8) hx hb d_S_quotient_3 (by decide) (fun c_1 => ?_) (fun c_1 => ?_)
  · have hw := hwf c_1
    refine lv_iload hx hb d_S_quotient_8 (lv_at hl 2 rfl) ?_
    obtain ⟨hwt, hwf⟩ := hw
    refine lv_if_ne (tgt := 17) hx hb d_S_quotient_10 (by decide) (fun c_2 => ?_) (fun c_2 => ?_)
    · have hw := hwf c_2
      refine lv_lload_n hx hb d_S_quotient_17 rfl (lv_at hl 1 rfl) ?_
      refine lv_lconst (v := 0) hx hb d_S_quotient_18 (by decide) ?_
      refine W.lcmp hx hb d_S_quotient_19 ?_
      obtain ⟨hwt, hwf⟩ := hw
      refine lv_if_ge (tgt := 43) hx hb d_S_quotient_20 (by decide) (fun c_3 => ?_) (fun c_3 => ?_)
      · have hw := hwt c_3
        refine lv_lload_n hx hb d_S_quotient_43 rfl (lv_at hl 0 rfl) ?_
        refine lv_iconst (v := 1) hx hb d_S_quotient_44 (by decide) ?_
        refine lv_lushr (v := (p0.toUInt64 >>> ((1 : Int32).toInt64.toUInt64 &&& Int64.toUInt64 63)).toInt64) hx hb d_S_quotient_45 rfl ?_
        refine lv_lload_n hx hb d_S_quotient_46 rfl (lv_at hl 1 rfl) ?_
        obtain ⟨hz_4, hw⟩ := hw
        refine lv_ldiv hx hb d_S_quotient_47 hz_4 ?_
        refine lv_iconst (v := 1) hx hb d_S_quotient_48 (by decide) ?_
        refine lv_lshl (v := ((((p0.toUInt64 >>> ((1 : Int32).toInt64.toUInt64 &&& Int64.toUInt64 63)).toInt64) / p1) <<< ((1 : Int32).toInt64 &&& 63))) hx hb d_S_quotient_49 rfl ?_
        refine lv_topl (fun x5_5 ex5_5 => ?_)
        have hw := hw x5_5 ex5_5
        refine lv_lstore (lv' := [(5, .long x5_5), (0, .long p0), (2, .long p1), (4, .int p2)]) hx hb d_S_quotient_50 hl (by decide) rfl (fun ls hl => ?_)
        refine lv_lload_n hx hb d_S_quotient_52 rfl (lv_at hl 1 rfl) ?_
        refine lv_lload hx hb d_S_quotient_53 (lv_at hl 0 rfl) ?_
        refine lv_lload_n hx hb d_S_quotient_55 rfl (lv_at hl 2 rfl) ?_
        refine lv_lmul hx hb d_S_quotient_56 ?_
        refine lv_lsub hx hb d_S_quotient_57 ?_
        refine lv_topl (fun x7_6 ex7_6 => ?_)
        have hw := hw x7_6 ex7_6
        refine lv_lstore (lv' := [(7, .long x7_6), (5, .long x5_5), (0, .long p0), (2, .long p1), (4, .int p2)]) hx hb d_S_quotient_58 hl (by decide) rfl (fun ls hl => ?_)
        refine lv_lload hx hb d_S_quotient_60 (lv_at hl 0 rfl) ?_
        refine lv_ldc2 (v := (-9223372036854775808)) hx hb hown (hts _ tw_131) d_S_quotient_62 ?_
        refine lv_lxor hx hb d_S_quotient_65 ?_
        refine lv_lload_n hx hb d_S_quotient_66 rfl (lv_at hl 3 rfl) ?_
        refine lv_ldc2 (v := (-9223372036854775808)) hx hb hown (hts _ tw_131) d_S_quotient_67 ?_
        refine lv_lxor hx hb d_S_quotient_70 ?_
        refine W.lcmp hx hb d_S_quotient_71 ?_
        obtain ⟨hwt, hwf⟩ := hw
        refine lv_if_lt (tgt := 82) hx hb d_S_quotient_72 (by decide) (fun c_7 => ?_) (fun c_7 => ?_)
        · have hw := hwt c_7
          refine lv_lload hx hb d_S_quotient_82 (lv_at hl 1 rfl) ?_
          exact W.lret (v := x5_5) hx hb hr (fun t ht hW => ⟨⟨x5_5, (), rfl, hw, by rw [ht]; exact hP, va_K.moved hW.alike hK, hD⟩, hS.F ht⟩) hS.2.2 d_S_quotient_84
        · have hw := hwf c_7
          refine lv_lload hx hb d_S_quotient_75 (lv_at hl 1 rfl) ?_
          refine lv_lconst (v := 1) hx hb d_S_quotient_77 (by decide) ?_
          refine lv_ladd hx hb d_S_quotient_78 ?_
          refine lv_goto (tgt := 84) hx hb d_S_quotient_79 (by decide) ?_
          exact W.lret (v := (x5_5 + 1)) hx hb hr (fun t ht hW => ⟨⟨(x5_5 + 1), (), rfl, hw, by rw [ht]; exact hP, va_K.moved hW.alike hK, hD⟩, hS.F ht⟩) hS.2.2 d_S_quotient_84
      · have hw := hwf c_3
        refine lv_lload_n hx hb d_S_quotient_23 rfl (lv_at hl 0 rfl) ?_
        refine lv_ldc2 (v := (-9223372036854775808)) hx hb hown (hts _ tw_131) d_S_quotient_24 ?_
        refine lv_lxor hx hb d_S_quotient_27 ?_
        refine lv_lload_n hx hb d_S_quotient_28 rfl (lv_at hl 1 rfl) ?_
        refine lv_ldc2 (v := (-9223372036854775808)) hx hb hown (hts _ tw_131) d_S_quotient_29 ?_
        refine lv_lxor hx hb d_S_quotient_32 ?_
        refine W.lcmp hx hb d_S_quotient_33 ?_
        obtain ⟨hwt, hwf⟩ := hw
        refine lv_if_lt (tgt := 41) hx hb d_S_quotient_34 (by decide) (fun c_8 => ?_) (fun c_8 => ?_)
        · have hw := hwt c_8
          refine lv_lconst (v := 0) hx hb d_S_quotient_41 (by decide) ?_
          exact W.lret (v := 0) hx hb hr (fun t ht hW => ⟨⟨0, (), rfl, hw, by rw [ht]; exact hP, va_K.moved hW.alike hK, hD⟩, hS.F ht⟩) hS.2.2 d_S_quotient_42
        · have hw := hwf c_8
          refine lv_lconst (v := 1) hx hb d_S_quotient_37 (by decide) ?_
          refine lv_goto (tgt := 42) hx hb d_S_quotient_38 (by decide) ?_
          exact W.lret (v := 1) hx hb hr (fun t ht hW => ⟨⟨1, (), rfl, hw, by rw [ht]; exact hP, va_K.moved hW.alike hK, hD⟩, hS.F ht⟩) hS.2.2 d_S_quotient_42
    · have hw := hwt c_2
      refine lv_lload_n hx hb d_S_quotient_13 rfl (lv_at hl 0 rfl) ?_
      refine lv_lload_n hx hb d_S_quotient_14 rfl (lv_at hl 1 rfl) ?_
      obtain ⟨hz_9, hw⟩ := hw
      refine lv_ldiv hx hb d_S_quotient_15 hz_9 ?_
      exact W.lret (v := (p0 / p1)) hx hb hr (fun t ht hW => ⟨⟨(p0 / p1), (), rfl, hw, by rw [ht]; exact hP, va_K.moved hW.alike hK, hD⟩, hS.F ht⟩) hS.2.2 d_S_quotient_16
  · have hw := hwt c_1
    refine lv_lconst (v := 0) hx hb d_S_quotient_6 (by decide) ?_
    exact W.lret (v := 0) hx hb hr (fun t ht hW => ⟨⟨0, (), rfl, hw, by rw [ht]; exact hP, va_K.moved hW.alike hK, hD⟩, hS.F ht⟩) hS.2.2 d_S_quotient_7
def f_S_quotient (p0 : Int64) (p1 : Int64) (p2 : Int32) : Int64 := (if (lg_cmp p1 0) = 0 then 0 else (if p2 = 0 then (p0 / p1) else (if 0 ≤ (lg_cmp p1 0) then (if (lg_cmp ((p0 - (((((p0.toUInt64 >>> ((1 : Int32).toInt64.toUInt64 &&& Int64.toUInt64 63)).toInt64) / p1) <<< ((1 : Int32).toInt64 &&& 63)) * p1)) ^^^ (-9223372036854775808)) (p1 ^^^ (-9223372036854775808))) < 0 then ((((p0.toUInt64 >>> ((1 : Int32).toInt64.toUInt64 &&& Int64.toUInt64 63)).toInt64) / p1) <<< ((1 : Int32).toInt64 &&& 63)) else (((((p0.toUInt64 >>> ((1 : Int32).toInt64.toUInt64 &&& Int64.toUInt64 63)).toInt64) / p1) <<< ((1 : Int32).toInt64 &&& 63)) + 1)) else (if (lg_cmp (p0 ^^^ (-9223372036854775808)) (p1 ^^^ (-9223372036854775808))) < 0 then 0 else 1))))
theorem q_S_quotient {post : Int64 → Prop} {p0 : Int64} {p1 : Int64} {p2 : Int32} (h : post (f_S_quotient p0 p1 p2)) : wp_S_quotient post p0 p1 p2 := by
  unfold wp_S_quotient
  refine br_c (fun c1 => ?_) (fun c1 => ?_)
  · rw [f_S_quotient, if_pos c1] at h; exact h
  · refine br_c (fun c2 => ?_) (fun c2 => ?_)
    · refine ⟨fun z => by first | (exact absurd ((lg_cmp_eq _ _).mpr z) (by assumption)) | (subst z; contradiction), ?_⟩
      rw [f_S_quotient, if_neg c1, if_pos c2] at h; exact h
    · refine br_c (fun c3 => ?_) (fun c3 => ?_)
      · refine ⟨fun z => by first | (exact absurd ((lg_cmp_eq _ _).mpr z) (by assumption)) | (subst z; contradiction), ?_⟩
        refine nm_e ?_
        refine nm_e ?_
        refine br_c (fun c4 => ?_) (fun c4 => ?_)
        · rw [f_S_quotient, if_neg c1, if_neg c2, if_pos c3, if_pos c4] at h; exact h
        · rw [f_S_quotient, if_neg c1, if_neg c2, if_pos c3, if_neg c4] at h; exact h
      · refine br_c (fun c5 => ?_) (fun c5 => ?_)
        · rw [f_S_quotient, if_neg c1, if_neg c2, if_neg c3, if_pos c5] at h; exact h
        · rw [f_S_quotient, if_neg c1, if_neg c2, if_neg c3, if_neg c5] at h; exact h

abbrev wd_S_pair (ad : Nat → Nat) (ck : Nat → ClassId)  : va_W := []
def wp_S_pair (post : Int64 → Prop)  (p0 : Int32) (p1 : Int64) (p2 : Int64) (p3 : Int32) : Prop := wp_S_isTruth (fun (r_1 : Int32) => (r_1 = 0 → ((p0 = 37 → (wp_S_quotient (fun (r_4 : Int64) => post (p1 - (r_4 * p2))) p1 p2 p3)) ∧ (¬ p0 = 37 → ((p0 = 38 → (post (p1 &&& p2))) ∧ (¬ p0 = 38 → ((p0 = 42 → (post (p1 * p2))) ∧ (¬ p0 = 42 → ((p0 = 43 → (post (p1 + p2))) ∧ (¬ p0 = 43 → ((p0 = 45 → (post (p1 - p2))) ∧ (¬ p0 = 45 → ((p0 = 47 → (wp_S_quotient (fun (r_10 : Int64) => post r_10) p1 p2 p3)) ∧ (¬ p0 = 47 → ((p0 = 94 → (post (p1 ^^^ p2))) ∧ (¬ p0 = 94 → ((p0 = 124 → (post (p1 ||| p2))) ∧ (¬ p0 = 124 → ((p0 = 15420 → (post (p1 <<< (((p2 &&& 63).toInt32).toInt64 &&& 63)))) ∧ (¬ p0 = 15420 → ((p0 = 15934 → ((p3 = 0 → (post (p1 >>> (((p2 &&& 63).toInt32).toInt64 &&& 63)))) ∧ (¬ p3 = 0 → (post ((p1.toUInt64 >>> (((p2 &&& 63).toInt32).toInt64.toUInt64 &&& Int64.toUInt64 63)).toInt64))))) ∧ (¬ p0 = 15934 → (post 0)))))))))))))))))))))) ∧ (¬ r_1 = 0 → (wp_S_holds (fun (r_16 : Int32) => (r_16 = 0 → (post 0)) ∧ (¬ r_16 = 0 → (post 1))) p0 p1 p2 p3))) p0
set_option maxHeartbeats 4000000 in
set_option maxRecDepth 100000 in
theorem kc_S_pair (l : Launch) (dC : Nat → ClassId) (dI : Nat → Nat → Nat) (ad : Nat → Nat) (ck : Nat → ClassId)  (p0 : Int32) (p1 : Int64) (p2 : Int64) (p3 : Int32) {post : Int64 → Prop} (hw : wp_S_pair post  p0 p1 p2 p3) : k_Cl l y_S_pair ws_S_pair ({ frames := 1, cells := 0, slots := 0, locals := 28 } : Room) (dC, dI) vwCl (TYm ck) k_x0 [.int p0, .long p1, .long p2, .int p3] ([]) (fun (r : Int64) (u : Unit) => post r ) (fun (u : Unit) => []) := by
  intro sz
  refine Met.ofW (cc := c_S_pair) (maxL := 6) (ret := (some .long)) (by decide) rfl ?_
  intro p e s m args below meth c s₁ B hml hv
  obtain ⟨rfl, hsz, hP, hK, hD0, hX⟩ := hv
  have hx := B.exec
  have hb := B.bytes
  have hr := B.returns
  have hts : ∀ w ∈ TB, w.before _ s = true := fun w h => atoms_spec (ws := ws_S_pair) B.pre w (List.mem_cons_of_mem _ h)
  have hown : s.vm.findClass R_S = some m.cls := findClass_of_methodNamed B.named
  have hlocks := B.notSynchronized
  subst hsz
  have hD := hD0.self (sz := s.heap.size)
  generalize hAe : va_A ([]) s.heap.size = A at hD hX ⊢
  have hA : ∀ q : Nat, s.heap.size ≤ q → A q := fun q h => by rw [← hAe]; exact Or.inr h
  have hS : va_S A s.heap s.heap [] := va_S.rf
  have hP : va_P (dC, dI) vwCl ([]) s.heap := hP
  have hl := lv_entry ([.int p0, .long p1, .long p2, .int p3]) (n := 6) (Nat.le_of_ble_eq_true rfl)
  rw [lg_entry_eq]
  generalize (lg_sl ([.int p0, .long p1, .long p2, .int p3]) ++ List.replicate (6 - (lg_sl ([.int p0, .long p1, .long p2, .int p3])).length) Slot.unset).toArray = ls at hl ⊢
  have hl : lv_has ls 6 [(0, .int p0), (1, .long p1), (3, .long p2), (5, .int p3)] := hl
  refine lv_iload_n hx hb d_S_pair_0 rfl (lv_at hl 0 rfl) ?_
  refine k_callSi (As := [.int p0]) (rest := []) (fun (u : Unit) => []) ⟨hx, hb, hml, hown, hts⟩ (kc_S_isTruth l dC dI ad ck p0 (hw := hw)) (va_cwS 1 hts (gS tw_132 tw_135 tw_134 tw_133) rfl rfl rfl hd_S_isTruth ⟨Nat.le_of_ble_eq_true rfl, Nat.le_of_ble_eq_true rfl⟩) hK hP hD hS hA k_x0c trivial [] [] [] rfl rfl (by decide) (by decide) (fun _ => rfl) rfl hl.1 rfl (lv_room (Nat.le_of_ble_eq_true rfl)) d_S_pair_1 ⟨Nat.zero_le _, Nat.zero_le _⟩ ?_
  intro r_1 u H locs hw hP hD hS
  have hP : va_P (dC, dI) vwCl ([]) H := hP
  have hD : va_D A ([]) := hD
  try dsimp only at hw
  obtain ⟨hwt, hwf⟩ := hw
  refine lv_if_eq (tgt := 24) hx hb d_S_pair_4 (by decide) (fun c_2 => ?_) (fun c_2 => ?_)
  · have hw := hwt c_2
    refine lv_iload_n hx hb d_S_pair_24 rfl (lv_at hl 0 rfl) ?_
    obtain ⟨hwt, hwf⟩ := hw
    by_cases c_3 : p0 = 37
    · have hw := hwt c_3
      refine lv_lookup (off := 157) (tgt := 182) hx hb d_S_pair_25 (by decide) (by rw [c_3]; decide) (by decide) ?_
      refine lv_lload_n hx hb d_S_pair_182 rfl (lv_at hl 1 rfl) ?_
      refine lv_lload_n hx hb d_S_pair_183 rfl (lv_at hl 1 rfl) ?_
      refine lv_lload_n hx hb d_S_pair_184 rfl (lv_at hl 2 rfl) ?_
      refine lv_iload hx hb d_S_pair_185 (lv_at hl 3 rfl) ?_
      refine k_callSl (As := [.long p1, .long p2, .int p3]) (rest := [.long p1]) (fun (u : Unit) => []) ⟨hx, hb, hml, hown, hts⟩ (kc_S_quotient l dC dI ad ck p1 p2 p3 (hw := hw)) (va_cwS 3 hts (gS tw_136 tw_138 tw_134 tw_137) rfl rfl rfl hd_S_quotient ⟨Nat.le_of_ble_eq_true rfl, Nat.le_of_ble_eq_true rfl⟩) hK hP hD hS hA k_x0c trivial [] [] [] rfl rfl (by decide) (by decide) (fun _ => rfl) rfl hl.1 rfl (lv_room (Nat.le_of_ble_eq_true rfl)) d_S_pair_187 ⟨Nat.zero_le _, Nat.zero_le _⟩ ?_
      intro r_4 u H locs hw hP hD hS
      have hP : va_P (dC, dI) vwCl ([]) H := hP
      have hD : va_D A ([]) := hD
      try dsimp only at hw
      refine lv_lload_n hx hb d_S_pair_190 rfl (lv_at hl 2 rfl) ?_
      refine lv_lmul hx hb d_S_pair_191 ?_
      refine lv_lsub hx hb d_S_pair_192 ?_
      exact W.lret (v := (p1 - (r_4 * p2))) hx hb hr (fun t ht hW => ⟨⟨(p1 - (r_4 * p2)), (), rfl, hw, by rw [ht]; exact hP, va_K.moved hW.alike hK, hD⟩, hS.F ht⟩) hS.2.2 d_S_pair_193
    · have hw := hwf c_3
      obtain ⟨hwt, hwf⟩ := hw
      by_cases c_5 : p0 = 38
      · have hw := hwt c_5
        refine lv_lookup (off := 99) (tgt := 124) hx hb d_S_pair_25 (by decide) (by rw [c_5]; decide) (by decide) ?_
        refine lv_lload_n hx hb d_S_pair_124 rfl (lv_at hl 1 rfl) ?_
        refine lv_lload_n hx hb d_S_pair_125 rfl (lv_at hl 2 rfl) ?_
        refine lv_land hx hb d_S_pair_126 ?_
        exact W.lret (v := (p1 &&& p2)) hx hb hr (fun t ht hW => ⟨⟨(p1 &&& p2), (), rfl, hw, by rw [ht]; exact hP, va_K.moved hW.alike hK, hD⟩, hS.F ht⟩) hS.2.2 d_S_pair_127
      · have hw := hwf c_5
        obtain ⟨hwt, hwf⟩ := hw
        by_cases c_6 : p0 = 42
        · have hw := hwt c_6
          refine lv_lookup (off := 145) (tgt := 170) hx hb d_S_pair_25 (by decide) (by rw [c_6]; decide) (by decide) ?_
          refine lv_lload_n hx hb d_S_pair_170 rfl (lv_at hl 1 rfl) ?_
          refine lv_lload_n hx hb d_S_pair_171 rfl (lv_at hl 2 rfl) ?_
          refine lv_lmul hx hb d_S_pair_172 ?_
          exact W.lret (v := (p1 * p2)) hx hb hr (fun t ht hW => ⟨⟨(p1 * p2), (), rfl, hw, by rw [ht]; exact hP, va_K.moved hW.alike hK, hD⟩, hS.F ht⟩) hS.2.2 d_S_pair_173
        · have hw := hwf c_6
          obtain ⟨hwt, hwf⟩ := hw
          by_cases c_7 : p0 = 43
          · have hw := hwt c_7
            refine lv_lookup (off := 137) (tgt := 162) hx hb d_S_pair_25 (by decide) (by rw [c_7]; decide) (by decide) ?_
            refine lv_lload_n hx hb d_S_pair_162 rfl (lv_at hl 1 rfl) ?_
            refine lv_lload_n hx hb d_S_pair_163 rfl (lv_at hl 2 rfl) ?_
            refine lv_ladd hx hb d_S_pair_164 ?_
            exact W.lret (v := (p1 + p2)) hx hb hr (fun t ht hW => ⟨⟨(p1 + p2), (), rfl, hw, by rw [ht]; exact hP, va_K.moved hW.alike hK, hD⟩, hS.F ht⟩) hS.2.2 d_S_pair_165
          · have hw := hwf c_7
            obtain ⟨hwt, hwf⟩ := hw
            by_cases c_8 : p0 = 45
            · have hw := hwt c_8
              refine lv_lookup (off := 141) (tgt := 166) hx hb d_S_pair_25 (by decide) (by rw [c_8]; decide) (by decide) ?_
              refine lv_lload_n hx hb d_S_pair_166 rfl (lv_at hl 1 rfl) ?_
              refine lv_lload_n hx hb d_S_pair_167 rfl (lv_at hl 2 rfl) ?_
              refine lv_lsub hx hb d_S_pair_168 ?_
              exact W.lret (v := (p1 - p2)) hx hb hr (fun t ht hW => ⟨⟨(p1 - p2), (), rfl, hw, by rw [ht]; exact hP, va_K.moved hW.alike hK, hD⟩, hS.F ht⟩) hS.2.2 d_S_pair_169
            · have hw := hwf c_8
              obtain ⟨hwt, hwf⟩ := hw
              by_cases c_9 : p0 = 47
              · have hw := hwt c_9
                refine lv_lookup (off := 149) (tgt := 174) hx hb d_S_pair_25 (by decide) (by rw [c_9]; decide) (by decide) ?_
                refine lv_lload_n hx hb d_S_pair_174 rfl (lv_at hl 1 rfl) ?_
                refine lv_lload_n hx hb d_S_pair_175 rfl (lv_at hl 2 rfl) ?_
                refine lv_iload hx hb d_S_pair_176 (lv_at hl 3 rfl) ?_
                refine k_callSl (As := [.long p1, .long p2, .int p3]) (rest := []) (fun (u : Unit) => []) ⟨hx, hb, hml, hown, hts⟩ (kc_S_quotient l dC dI ad ck p1 p2 p3 (hw := hw)) (va_cwS 3 hts (gS tw_136 tw_138 tw_134 tw_137) rfl rfl rfl hd_S_quotient ⟨Nat.le_of_ble_eq_true rfl, Nat.le_of_ble_eq_true rfl⟩) hK hP hD hS hA k_x0c trivial [] [] [] rfl rfl (by decide) (by decide) (fun _ => rfl) rfl hl.1 rfl (lv_room (Nat.le_of_ble_eq_true rfl)) d_S_pair_178 ⟨Nat.zero_le _, Nat.zero_le _⟩ ?_
                intro r_10 u H locs hw hP hD hS
                have hP : va_P (dC, dI) vwCl ([]) H := hP
                have hD : va_D A ([]) := hD
                try dsimp only at hw
                exact W.lret (v := r_10) hx hb hr (fun t ht hW => ⟨⟨r_10, (), rfl, hw, by rw [ht]; exact hP, va_K.moved hW.alike hK, hD⟩, hS.F ht⟩) hS.2.2 d_S_pair_181
              · have hw := hwf c_9
                obtain ⟨hwt, hwf⟩ := hw
                by_cases c_11 : p0 = 94
                · have hw := hwt c_11
                  refine lv_lookup (off := 95) (tgt := 120) hx hb d_S_pair_25 (by decide) (by rw [c_11]; decide) (by decide) ?_
                  refine lv_lload_n hx hb d_S_pair_120 rfl (lv_at hl 1 rfl) ?_
                  refine lv_lload_n hx hb d_S_pair_121 rfl (lv_at hl 2 rfl) ?_
                  refine lv_lxor hx hb d_S_pair_122 ?_
                  exact W.lret (v := (p1 ^^^ p2)) hx hb hr (fun t ht hW => ⟨⟨(p1 ^^^ p2), (), rfl, hw, by rw [ht]; exact hP, va_K.moved hW.alike hK, hD⟩, hS.F ht⟩) hS.2.2 d_S_pair_123
                · have hw := hwf c_11
                  obtain ⟨hwt, hwf⟩ := hw
                  by_cases c_12 : p0 = 124
                  · have hw := hwt c_12
                    refine lv_lookup (off := 91) (tgt := 116) hx hb d_S_pair_25 (by decide) (by rw [c_12]; decide) (by decide) ?_
                    refine lv_lload_n hx hb d_S_pair_116 rfl (lv_at hl 1 rfl) ?_
                    refine lv_lload_n hx hb d_S_pair_117 rfl (lv_at hl 2 rfl) ?_
                    refine lv_lor hx hb d_S_pair_118 ?_
                    exact W.lret (v := (p1 ||| p2)) hx hb hr (fun t ht hW => ⟨⟨(p1 ||| p2), (), rfl, hw, by rw [ht]; exact hP, va_K.moved hW.alike hK, hD⟩, hS.F ht⟩) hS.2.2 d_S_pair_119
                  · have hw := hwf c_12
                    obtain ⟨hwt, hwf⟩ := hw
                    by_cases c_13 : p0 = 15420
                    · have hw := hwt c_13
                      refine lv_lookup (off := 103) (tgt := 128) hx hb d_S_pair_25 (by decide) (by rw [c_13]; decide) (by decide) ?_
                      refine lv_lload_n hx hb d_S_pair_128 rfl (lv_at hl 1 rfl) ?_
                      refine lv_lload_n hx hb d_S_pair_129 rfl (lv_at hl 2 rfl) ?_
                      refine lv_ldc2 (v := 63) hx hb hown (hts _ tw_139) d_S_pair_130 ?_
                      refine lv_land hx hb d_S_pair_133 ?_
                      refine lv_l2i (v := (p2 &&& 63).toInt32) hx hb d_S_pair_134 rfl ?_
                      refine lv_lshl (v := (p1 <<< (((p2 &&& 63).toInt32).toInt64 &&& 63))) hx hb d_S_pair_135 rfl ?_
                      exact W.lret (v := (p1 <<< (((p2 &&& 63).toInt32).toInt64 &&& 63))) hx hb hr (fun t ht hW => ⟨⟨(p1 <<< (((p2 &&& 63).toInt32).toInt64 &&& 63)), (), rfl, hw, by rw [ht]; exact hP, va_K.moved hW.alike hK, hD⟩, hS.F ht⟩) hS.2.2 d_S_pair_136
                    · have hw := hwf c_13
                      obtain ⟨hwt, hwf⟩ := hw
                      by_cases c_14 : p0 = 15934
                      · have hw := hwt c_14
                        refine lv_lookup (off := 112) (tgt := 137) hx hb d_S_pair_25 (by decide) (by rw [c_14]; decide) (by decide) ?_
                        refine lv_iload hx hb d_S_pair_137 (lv_at hl 3 rfl) ?_
                        obtain ⟨hwt, hwf⟩ := hw
                        refine lv_if_eq (tgt := 153) hx hb d_S_pair_139 (by decide) (fun c_15 => ?_) (fun c_15 => ?_)
                        · have hw := hwt c_15
                          refine lv_lload_n hx hb d_S_pair_153 rfl (lv_at hl 1 rfl) ?_
                          refine lv_lload_n hx hb d_S_pair_154 rfl (lv_at hl 2 rfl) ?_
                          refine lv_ldc2 (v := 63) hx hb hown (hts _ tw_139) d_S_pair_155 ?_
                          refine lv_land hx hb d_S_pair_158 ?_
                          refine lv_l2i (v := (p2 &&& 63).toInt32) hx hb d_S_pair_159 rfl ?_
                          refine lv_lshr (v := (p1 >>> (((p2 &&& 63).toInt32).toInt64 &&& 63))) hx hb d_S_pair_160 rfl ?_
                          exact W.lret (v := (p1 >>> (((p2 &&& 63).toInt32).toInt64 &&& 63))) hx hb hr (fun t ht hW => ⟨⟨(p1 >>> (((p2 &&& 63).toInt32).toInt64 &&& 63)), (), rfl, hw, by rw [ht]; exact hP, va_K.moved hW.alike hK, hD⟩, hS.F ht⟩) hS.2.2 d_S_pair_161
                        · have hw := hwf c_15
                          refine lv_lload_n hx hb d_S_pair_142 rfl (lv_at hl 1 rfl) ?_
                          refine lv_lload_n hx hb d_S_pair_143 rfl (lv_at hl 2 rfl) ?_
                          refine lv_ldc2 (v := 63) hx hb hown (hts _ tw_139) d_S_pair_144 ?_
                          refine lv_land hx hb d_S_pair_147 ?_
                          refine lv_l2i (v := (p2 &&& 63).toInt32) hx hb d_S_pair_148 rfl ?_
                          refine lv_lushr (v := (p1.toUInt64 >>> (((p2 &&& 63).toInt32).toInt64.toUInt64 &&& Int64.toUInt64 63)).toInt64) hx hb d_S_pair_149 rfl ?_
                          refine lv_goto (tgt := 161) hx hb d_S_pair_150 (by decide) ?_
                          exact W.lret (v := ((p1.toUInt64 >>> (((p2 &&& 63).toInt32).toInt64.toUInt64 &&& Int64.toUInt64 63)).toInt64)) hx hb hr (fun t ht hW => ⟨⟨((p1.toUInt64 >>> (((p2 &&& 63).toInt32).toInt64.toUInt64 &&& Int64.toUInt64 63)).toInt64), (), rfl, hw, by rw [ht]; exact hP, va_K.moved hW.alike hK, hD⟩, hS.F ht⟩) hS.2.2 d_S_pair_161
                      · have hw := hwf c_14
                        refine lv_lookup (off := 169) (tgt := 194) hx hb d_S_pair_25 (by decide) (by show Op.lookupswitch.offset _ _ _ = _; rw [lv_osw c_3 (show (37 : Int32).toInt = 37 from rfl), lv_osw c_5 (show (38 : Int32).toInt = 38 from rfl), lv_osw c_6 (show (42 : Int32).toInt = 42 from rfl), lv_osw c_7 (show (43 : Int32).toInt = 43 from rfl), lv_osw c_8 (show (45 : Int32).toInt = 45 from rfl), lv_osw c_9 (show (47 : Int32).toInt = 47 from rfl), lv_osw c_11 (show (94 : Int32).toInt = 94 from rfl), lv_osw c_12 (show (124 : Int32).toInt = 124 from rfl), lv_osw c_13 (show (15420 : Int32).toInt = 15420 from rfl), lv_osw c_14 (show (15934 : Int32).toInt = 15934 from rfl)]; rfl) (by decide) ?_
                        refine lv_lconst (v := 0) hx hb d_S_pair_194 (by decide) ?_
                        exact W.lret (v := 0) hx hb hr (fun t ht hW => ⟨⟨0, (), rfl, hw, by rw [ht]; exact hP, va_K.moved hW.alike hK, hD⟩, hS.F ht⟩) hS.2.2 d_S_pair_195
  · have hw := hwf c_2
    refine lv_iload_n hx hb d_S_pair_7 rfl (lv_at hl 0 rfl) ?_
    refine lv_lload_n hx hb d_S_pair_8 rfl (lv_at hl 1 rfl) ?_
    refine lv_lload_n hx hb d_S_pair_9 rfl (lv_at hl 2 rfl) ?_
    refine lv_iload hx hb d_S_pair_10 (lv_at hl 3 rfl) ?_
    refine k_callSi (As := [.int p0, .long p1, .long p2, .int p3]) (rest := []) (fun (u : Unit) => []) ⟨hx, hb, hml, hown, hts⟩ (kc_S_holds l dC dI ad ck p0 p1 p2 p3 (hw := hw)) (va_cwS 4 hts (gS tw_140 tw_142 tw_134 tw_141) rfl rfl rfl hd_S_holds ⟨Nat.le_of_ble_eq_true rfl, Nat.le_of_ble_eq_true rfl⟩) hK hP hD hS hA k_x0c trivial [] [] [] rfl rfl (by decide) (by decide) (fun _ => rfl) rfl hl.1 rfl (lv_room (Nat.le_of_ble_eq_true rfl)) d_S_pair_12 ⟨Nat.zero_le _, Nat.zero_le _⟩ ?_
    intro r_16 u H locs hw hP hD hS
    have hP : va_P (dC, dI) vwCl ([]) H := hP
    have hD : va_D A ([]) := hD
    try dsimp only at hw
    obtain ⟨hwt, hwf⟩ := hw
    refine lv_if_eq (tgt := 22) hx hb d_S_pair_15 (by decide) (fun c_17 => ?_) (fun c_17 => ?_)
    · have hw := hwt c_17
      refine lv_lconst (v := 0) hx hb d_S_pair_22 (by decide) ?_
      exact W.lret (v := 0) hx hb hr (fun t ht hW => ⟨⟨0, (), rfl, hw, by rw [ht]; exact hP, va_K.moved hW.alike hK, hD⟩, hS.F ht⟩) hS.2.2 d_S_pair_23
    · have hw := hwf c_17
      refine lv_lconst (v := 1) hx hb d_S_pair_18 (by decide) ?_
      refine lv_goto (tgt := 23) hx hb d_S_pair_19 (by decide) ?_
      exact W.lret (v := 1) hx hb hr (fun t ht hW => ⟨⟨1, (), rfl, hw, by rw [ht]; exact hP, va_K.moved hW.alike hK, hD⟩, hS.F ht⟩) hS.2.2 d_S_pair_23
def f_S_pair (p0 : Int32) (p1 : Int64) (p2 : Int64) (p3 : Int32) : Int64 := (if (f_S_isTruth p0) = 0 then (if p0 = 37 then (p1 - ((f_S_quotient p1 p2 p3) * p2)) else (if p0 = 38 then (p1 &&& p2) else (if p0 = 42 then (p1 * p2) else (if p0 = 43 then (p1 + p2) else (if p0 = 45 then (p1 - p2) else (if p0 = 47 then (f_S_quotient p1 p2 p3) else (if p0 = 94 then (p1 ^^^ p2) else (if p0 = 124 then (p1 ||| p2) else (if p0 = 15420 then (p1 <<< (((p2 &&& 63).toInt32).toInt64 &&& 63)) else (if p0 = 15934 then (if p3 = 0 then (p1 >>> (((p2 &&& 63).toInt32).toInt64 &&& 63)) else ((p1.toUInt64 >>> (((p2 &&& 63).toInt32).toInt64.toUInt64 &&& Int64.toUInt64 63)).toInt64)) else 0)))))))))) else (if (f_S_holds p0 p1 p2 p3) = 0 then 0 else 1))
theorem q_S_pair {post : Int64 → Prop} {p0 : Int32} {p1 : Int64} {p2 : Int64} {p3 : Int32} (h : post (f_S_pair p0 p1 p2 p3)) : wp_S_pair post p0 p1 p2 p3 := by
  unfold wp_S_pair
  refine q_S_isTruth ?_
  refine br_c (fun c1 => ?_) (fun c1 => ?_)
  · refine br_c (fun c2 => ?_) (fun c2 => ?_)
    · refine q_S_quotient ?_
      rw [f_S_pair, if_pos c1, if_pos c2] at h; exact h
    · refine br_c (fun c3 => ?_) (fun c3 => ?_)
      · rw [f_S_pair, if_pos c1, if_neg c2, if_pos c3] at h; exact h
      · refine br_c (fun c4 => ?_) (fun c4 => ?_)
        · rw [f_S_pair, if_pos c1, if_neg c2, if_neg c3, if_pos c4] at h; exact h
        · refine br_c (fun c5 => ?_) (fun c5 => ?_)
          · rw [f_S_pair, if_pos c1, if_neg c2, if_neg c3, if_neg c4, if_pos c5] at h; exact h
          · refine br_c (fun c6 => ?_) (fun c6 => ?_)
            · rw [f_S_pair, if_pos c1, if_neg c2, if_neg c3, if_neg c4, if_neg c5, if_pos c6] at h; exact h
            · refine br_c (fun c7 => ?_) (fun c7 => ?_)
              · refine q_S_quotient ?_
                rw [f_S_pair, if_pos c1, if_neg c2, if_neg c3, if_neg c4, if_neg c5, if_neg c6, if_pos c7] at h; exact h
              · refine br_c (fun c8 => ?_) (fun c8 => ?_)
                · rw [f_S_pair, if_pos c1, if_neg c2, if_neg c3, if_neg c4, if_neg c5, if_neg c6, if_neg c7, if_pos c8] at h; exact h
                · refine br_c (fun c9 => ?_) (fun c9 => ?_)
                  · rw [f_S_pair, if_pos c1, if_neg c2, if_neg c3, if_neg c4, if_neg c5, if_neg c6, if_neg c7, if_neg c8, if_pos c9] at h; exact h
                  · refine br_c (fun c10 => ?_) (fun c10 => ?_)
                    · rw [f_S_pair, if_pos c1, if_neg c2, if_neg c3, if_neg c4, if_neg c5, if_neg c6, if_neg c7, if_neg c8, if_neg c9, if_pos c10] at h; exact h
                    · refine br_c (fun c11 => ?_) (fun c11 => ?_)
                      · refine br_c (fun c12 => ?_) (fun c12 => ?_)
                        · rw [f_S_pair, if_pos c1, if_neg c2, if_neg c3, if_neg c4, if_neg c5, if_neg c6, if_neg c7, if_neg c8, if_neg c9, if_neg c10, if_pos c11, if_pos c12] at h; exact h
                        · rw [f_S_pair, if_pos c1, if_neg c2, if_neg c3, if_neg c4, if_neg c5, if_neg c6, if_neg c7, if_neg c8, if_neg c9, if_neg c10, if_pos c11, if_neg c12] at h; exact h
                      · rw [f_S_pair, if_pos c1, if_neg c2, if_neg c3, if_neg c4, if_neg c5, if_neg c6, if_neg c7, if_neg c8, if_neg c9, if_neg c10, if_neg c11] at h; exact h
  · refine q_S_holds ?_
    refine br_c (fun c13 => ?_) (fun c13 => ?_)
    · rw [f_S_pair, if_neg c1, if_pos c13] at h; exact h
    · rw [f_S_pair, if_neg c1, if_neg c13] at h; exact h
