abbrev wd_W_isBlank (ad : Nat → Nat) (ck : Nat → ClassId)  : va_W := []
def wp_W_isBlank (post : Int32 → Prop)  (p0 : Int32) : Prop := (p0 = 32 → (post 1)) ∧ (¬ p0 = 32 → ((p0 < 9 → (post 0)) ∧ (¬ p0 < 9 → ((13 < p0 → (post 0)) ∧ (¬ 13 < p0 → (post 1))))))
set_option maxHeartbeats 4000000 in
set_option maxRecDepth 100000 in
theorem kc_W_isBlank (l : Launch) (dC : Nat → ClassId) (dI : Nat → Nat → Nat) (ad : Nat → Nat) (ck : Nat → ClassId)  (p0 : Int32) {post : Int32 → Prop} (hw : wp_W_isBlank post  p0) : k_Ci l y_W_isBlank ws_W_isBlank ({ frames := 0, cells := 0, slots := 0, locals := 0 } : Room) (dC, dI) vwCl (TYm ck) k_x0 [.int p0] ([]) (fun (r : Int32) (u : Unit) => post r ) (fun (u : Unit) => []) := by
  intro sz
  refine Met.ofW (cc := c_W_isBlank) (maxL := 1) (ret := (some .boolean)) (by decide) rfl ?_
  intro p e s m args below meth c s₁ B hml hv
  obtain ⟨rfl, hsz, hP, hK, hD0, hX⟩ := hv
  have hx := B.exec
  have hb := B.bytes
  have hr := B.returns
  have hts : ∀ w ∈ TB, w.before _ s = true := fun w h => atoms_spec (ws := ws_W_isBlank) B.pre w (List.mem_cons_of_mem _ h)
  have hown : s.vm.findClass R_W = some m.cls := findClass_of_methodNamed B.named
  have hlocks := B.notSynchronized
  subst hsz
  have hD := hD0.self (sz := s.heap.size)
  generalize hAe : va_A ([]) s.heap.size = A at hD hX ⊢
  have hA : ∀ q : Nat, s.heap.size ≤ q → A q := fun q h => by rw [← hAe]; exact Or.inr h
  have hS : va_S A s.heap s.heap [] := va_S.rf
  have hP : va_P (dC, dI) vwCl ([]) s.heap := hP
  have hl := lv_entry ([.int p0]) (n := 1) (Nat.le_of_ble_eq_true rfl)
  rw [lg_entry_eq]
  generalize (lg_sl ([.int p0]) ++ List.replicate (1 - (lg_sl ([.int p0])).length) Slot.unset).toArray = ls at hl ⊢
  have hl : lv_has ls 1 [(0, .int p0)] := hl
  refine lv_iload_n hx hb d_W_isBlank_0 rfl (lv_at hl 0 rfl) ?_
  refine lv_bipush (v := 32) hx hb d_W_isBlank_1 (by decide) ?_
  obtain ⟨hwt, hwf⟩ := hw
  refine lv_icmp_eq (tgt := 18) hx hb d_W_isBlank_3 (by decide) (fun c_1 => ?_) (fun c_1 => ?_)
  · have hw := hwt c_1
    refine lv_iconst (v := 1) hx hb d_W_isBlank_18 (by decide) ?_
    refine lv_goto (tgt := 23) hx hb d_W_isBlank_19 (by decide) ?_
    exact W.zret (v := 1) hx hb hr (by decide) (fun t ht hW => ⟨⟨1, (), rfl, hw, by rw [ht]; exact hP, va_K.moved hW.alike hK, hD⟩, hS.F ht⟩) hS.2.2 d_W_isBlank_23
  · have hw := hwf c_1
    refine lv_iload_n hx hb d_W_isBlank_6 rfl (lv_at hl 0 rfl) ?_
    refine lv_bipush (v := 9) hx hb d_W_isBlank_7 (by decide) ?_
    obtain ⟨hwt, hwf⟩ := hw
    refine lv_icmp_lt (tgt := 22) hx hb d_W_isBlank_9 (by decide) (fun c_2 => ?_) (fun c_2 => ?_)
    · have hw := hwt c_2
      refine lv_iconst (v := 0) hx hb d_W_isBlank_22 (by decide) ?_
      exact W.zret (v := 0) hx hb hr (by decide) (fun t ht hW => ⟨⟨0, (), rfl, hw, by rw [ht]; exact hP, va_K.moved hW.alike hK, hD⟩, hS.F ht⟩) hS.2.2 d_W_isBlank_23
    · have hw := hwf c_2
      refine lv_iload_n hx hb d_W_isBlank_12 rfl (lv_at hl 0 rfl) ?_
      refine lv_bipush (v := 13) hx hb d_W_isBlank_13 (by decide) ?_
      obtain ⟨hwt, hwf⟩ := hw
      refine lv_icmp_gt (tgt := 22) hx hb d_W_isBlank_15 (by decide) (fun c_3 => ?_) (fun c_3 => ?_)
      · have hw := hwt c_3
        refine lv_iconst (v := 0) hx hb d_W_isBlank_22 (by decide) ?_
        exact W.zret (v := 0) hx hb hr (by decide) (fun t ht hW => ⟨⟨0, (), rfl, hw, by rw [ht]; exact hP, va_K.moved hW.alike hK, hD⟩, hS.F ht⟩) hS.2.2 d_W_isBlank_23
      · have hw := hwf c_3
        refine lv_iconst (v := 1) hx hb d_W_isBlank_18 (by decide) ?_
        refine lv_goto (tgt := 23) hx hb d_W_isBlank_19 (by decide) ?_
        exact W.zret (v := 1) hx hb hr (by decide) (fun t ht hW => ⟨⟨1, (), rfl, hw, by rw [ht]; exact hP, va_K.moved hW.alike hK, hD⟩, hS.F ht⟩) hS.2.2 d_W_isBlank_23
def f_W_isBlank (p0 : Int32) : Int32 := (if p0 = 32 then 1 else (if p0 < 9 then 0 else (if 13 < p0 then 0 else 1)))
theorem q_W_isBlank {post : Int32 → Prop} {p0 : Int32} (h : post (f_W_isBlank p0)) : wp_W_isBlank post p0 := by
  unfold wp_W_isBlank
  refine br_c (fun c1 => ?_) (fun c1 => ?_)
  · rw [f_W_isBlank, if_pos c1] at h; exact h
  · refine br_c (fun c2 => ?_) (fun c2 => ?_)
    · rw [f_W_isBlank, if_neg c1, if_pos c2] at h; exact h
    · refine br_c (fun c3 => ?_) (fun c3 => ?_)
      · rw [f_W_isBlank, if_neg c1, if_neg c2, if_pos c3] at h; exact h
      · rw [f_W_isBlank, if_neg c1, if_neg c2, if_neg c3] at h; exact h

abbrev wd_W_isDigit (ad : Nat → Nat) (ck : Nat → ClassId)  : va_W := []
def wp_W_isDigit (post : Int32 → Prop)  (p0 : Int32) : Prop := (p0 < 48 → (post 0)) ∧ (¬ p0 < 48 → ((57 < p0 → (post 0)) ∧ (¬ 57 < p0 → (post 1))))
set_option maxHeartbeats 4000000 in
set_option maxRecDepth 100000 in
theorem kc_W_isDigit (l : Launch) (dC : Nat → ClassId) (dI : Nat → Nat → Nat) (ad : Nat → Nat) (ck : Nat → ClassId)  (p0 : Int32) {post : Int32 → Prop} (hw : wp_W_isDigit post  p0) : k_Ci l y_W_isDigit ws_W_isDigit ({ frames := 0, cells := 0, slots := 0, locals := 0 } : Room) (dC, dI) vwCl (TYm ck) k_x0 [.int p0] ([]) (fun (r : Int32) (u : Unit) => post r ) (fun (u : Unit) => []) := by
  intro sz
  refine Met.ofW (cc := c_W_isDigit) (maxL := 1) (ret := (some .boolean)) (by decide) rfl ?_
  intro p e s m args below meth c s₁ B hml hv
  obtain ⟨rfl, hsz, hP, hK, hD0, hX⟩ := hv
  have hx := B.exec
  have hb := B.bytes
  have hr := B.returns
  have hts : ∀ w ∈ TB, w.before _ s = true := fun w h => atoms_spec (ws := ws_W_isDigit) B.pre w (List.mem_cons_of_mem _ h)
  have hown : s.vm.findClass R_W = some m.cls := findClass_of_methodNamed B.named
  have hlocks := B.notSynchronized
  subst hsz
  have hD := hD0.self (sz := s.heap.size)
  generalize hAe : va_A ([]) s.heap.size = A at hD hX ⊢
  have hA : ∀ q : Nat, s.heap.size ≤ q → A q := fun q h => by rw [← hAe]; exact Or.inr h
  have hS : va_S A s.heap s.heap [] := va_S.rf
  have hP : va_P (dC, dI) vwCl ([]) s.heap := hP
  have hl := lv_entry ([.int p0]) (n := 1) (Nat.le_of_ble_eq_true rfl)
  rw [lg_entry_eq]
  generalize (lg_sl ([.int p0]) ++ List.replicate (1 - (lg_sl ([.int p0])).length) Slot.unset).toArray = ls at hl ⊢
  have hl : lv_has ls 1 [(0, .int p0)] := hl
  refine lv_iload_n hx hb d_W_isDigit_0 rfl (lv_at hl 0 rfl) ?_
  refine lv_bipush (v := 48) hx hb d_W_isDigit_1 (by decide) ?_
  obtain ⟨hwt, hwf⟩ := hw
  refine lv_icmp_lt (tgt := 16) hx hb d_W_isDigit_3 (by decide) (fun c_1 => ?_) (fun c_1 => ?_)
  · have hw := hwt c_1
    refine lv_iconst (v := 0) hx hb d_W_isDigit_16 (by decide) ?_
    exact W.zret (v := 0) hx hb hr (by decide) (fun t ht hW => ⟨⟨0, (), rfl, hw, by rw [ht]; exact hP, va_K.moved hW.alike hK, hD⟩, hS.F ht⟩) hS.2.2 d_W_isDigit_17
  · have hw := hwf c_1
    refine lv_iload_n hx hb d_W_isDigit_6 rfl (lv_at hl 0 rfl) ?_
    refine lv_bipush (v := 57) hx hb d_W_isDigit_7 (by decide) ?_
    obtain ⟨hwt, hwf⟩ := hw
    refine lv_icmp_gt (tgt := 16) hx hb d_W_isDigit_9 (by decide) (fun c_2 => ?_) (fun c_2 => ?_)
    · have hw := hwt c_2
      refine lv_iconst (v := 0) hx hb d_W_isDigit_16 (by decide) ?_
      exact W.zret (v := 0) hx hb hr (by decide) (fun t ht hW => ⟨⟨0, (), rfl, hw, by rw [ht]; exact hP, va_K.moved hW.alike hK, hD⟩, hS.F ht⟩) hS.2.2 d_W_isDigit_17
    · have hw := hwf c_2
      refine lv_iconst (v := 1) hx hb d_W_isDigit_12 (by decide) ?_
      refine lv_goto (tgt := 17) hx hb d_W_isDigit_13 (by decide) ?_
      exact W.zret (v := 1) hx hb hr (by decide) (fun t ht hW => ⟨⟨1, (), rfl, hw, by rw [ht]; exact hP, va_K.moved hW.alike hK, hD⟩, hS.F ht⟩) hS.2.2 d_W_isDigit_17
def f_W_isDigit (p0 : Int32) : Int32 := (if p0 < 48 then 0 else (if 57 < p0 then 0 else 1))
theorem q_W_isDigit {post : Int32 → Prop} {p0 : Int32} (h : post (f_W_isDigit p0)) : wp_W_isDigit post p0 := by
  unfold wp_W_isDigit
  refine br_c (fun c1 => ?_) (fun c1 => ?_)
  · rw [f_W_isDigit, if_pos c1] at h; exact h
  · refine br_c (fun c2 => ?_) (fun c2 => ?_)
    · rw [f_W_isDigit, if_neg c1, if_pos c2] at h; exact h
    · rw [f_W_isDigit, if_neg c1, if_neg c2] at h; exact h

abbrev wd_W_isLetter (ad : Nat → Nat) (ck : Nat → ClassId)  : va_W := []
def wp_W_isLetter (post : Int32 → Prop)  (p0 : Int32) : Prop := (p0 < 97 → ((p0 < 65 → ((p0 = 95 → (post 1)) ∧ (¬ p0 = 95 → (post 0)))) ∧ (¬ p0 < 65 → ((p0 ≤ 90 → (post 1)) ∧ (¬ p0 ≤ 90 → ((p0 = 95 → (post 1)) ∧ (¬ p0 = 95 → (post 0)))))))) ∧ (¬ p0 < 97 → ((p0 ≤ 122 → (post 1)) ∧ (¬ p0 ≤ 122 → ((p0 < 65 → ((p0 = 95 → (post 1)) ∧ (¬ p0 = 95 → (post 0)))) ∧ (¬ p0 < 65 → ((p0 ≤ 90 → (post 1)) ∧ (¬ p0 ≤ 90 → ((p0 = 95 → (post 1)) ∧ (¬ p0 = 95 → (post 0))))))))))
set_option maxHeartbeats 4000000 in
set_option maxRecDepth 100000 in
theorem kc_W_isLetter (l : Launch) (dC : Nat → ClassId) (dI : Nat → Nat → Nat) (ad : Nat → Nat) (ck : Nat → ClassId)  (p0 : Int32) {post : Int32 → Prop} (hw : wp_W_isLetter post  p0) : k_Ci l y_W_isLetter ws_W_isLetter ({ frames := 0, cells := 0, slots := 0, locals := 0 } : Room) (dC, dI) vwCl (TYm ck) k_x0 [.int p0] ([]) (fun (r : Int32) (u : Unit) => post r ) (fun (u : Unit) => []) := by
  intro sz
  refine Met.ofW (cc := c_W_isLetter) (maxL := 1) (ret := (some .boolean)) (by decide) rfl ?_
  intro p e s m args below meth c s₁ B hml hv
  obtain ⟨rfl, hsz, hP, hK, hD0, hX⟩ := hv
  have hx := B.exec
  have hb := B.bytes
  have hr := B.returns
  have hts : ∀ w ∈ TB, w.before _ s = true := fun w h => atoms_spec (ws := ws_W_isLetter) B.pre w (List.mem_cons_of_mem _ h)
  have hown : s.vm.findClass R_W = some m.cls := findClass_of_methodNamed B.named
  have hlocks := B.notSynchronized
  subst hsz
  have hD := hD0.self (sz := s.heap.size)
  generalize hAe : va_A ([]) s.heap.size = A at hD hX ⊢
  have hA : ∀ q : Nat, s.heap.size ≤ q → A q := fun q h => by rw [← hAe]; exact Or.inr h
  have hS : va_S A s.heap s.heap [] := va_S.rf
  have hP : va_P (dC, dI) vwCl ([]) s.heap := hP
  have hl := lv_entry ([.int p0]) (n := 1) (Nat.le_of_ble_eq_true rfl)
  rw [lg_entry_eq]
  generalize (lg_sl ([.int p0]) ++ List.replicate (1 - (lg_sl ([.int p0])).length) Slot.unset).toArray = ls at hl ⊢
  have hl : lv_has ls 1 [(0, .int p0)] := hl
  refine lv_iload_n hx hb d_W_isLetter_0 rfl (lv_at hl 0 rfl) ?_
  refine lv_bipush (v := 97) hx hb d_W_isLetter_1 (by decide) ?_
  obtain ⟨hwt, hwf⟩ := hw
  refine lv_icmp_lt (tgt := 12) hx hb d_W_isLetter_3 (by decide) (fun c_1 => ?_) (fun c_1 => ?_)
  · have hw := hwt c_1
    refine lv_iload_n hx hb d_W_isLetter_12 rfl (lv_at hl 0 rfl) ?_
    refine lv_bipush (v := 65) hx hb d_W_isLetter_13 (by decide) ?_
    obtain ⟨hwt, hwf⟩ := hw
    refine lv_icmp_lt (tgt := 24) hx hb d_W_isLetter_15 (by decide) (fun c_2 => ?_) (fun c_2 => ?_)
    · have hw := hwt c_2
      refine lv_iload_n hx hb d_W_isLetter_24 rfl (lv_at hl 0 rfl) ?_
      refine lv_bipush (v := 95) hx hb d_W_isLetter_25 (by decide) ?_
      obtain ⟨hwt, hwf⟩ := hw
      refine lv_icmp_ne (tgt := 34) hx hb d_W_isLetter_27 (by decide) (fun c_3 => ?_) (fun c_3 => ?_)
      · have hw := hwf c_3
        refine lv_iconst (v := 0) hx hb d_W_isLetter_34 (by decide) ?_
        exact W.zret (v := 0) hx hb hr (by decide) (fun t ht hW => ⟨⟨0, (), rfl, hw, by rw [ht]; exact hP, va_K.moved hW.alike hK, hD⟩, hS.F ht⟩) hS.2.2 d_W_isLetter_35
      · have hw := hwt c_3
        refine lv_iconst (v := 1) hx hb d_W_isLetter_30 (by decide) ?_
        refine lv_goto (tgt := 35) hx hb d_W_isLetter_31 (by decide) ?_
        exact W.zret (v := 1) hx hb hr (by decide) (fun t ht hW => ⟨⟨1, (), rfl, hw, by rw [ht]; exact hP, va_K.moved hW.alike hK, hD⟩, hS.F ht⟩) hS.2.2 d_W_isLetter_35
    · have hw := hwf c_2
      refine lv_iload_n hx hb d_W_isLetter_18 rfl (lv_at hl 0 rfl) ?_
      refine lv_bipush (v := 90) hx hb d_W_isLetter_19 (by decide) ?_
      obtain ⟨hwt, hwf⟩ := hw
      refine lv_icmp_le (tgt := 30) hx hb d_W_isLetter_21 (by decide) (fun c_4 => ?_) (fun c_4 => ?_)
      · have hw := hwt c_4
        refine lv_iconst (v := 1) hx hb d_W_isLetter_30 (by decide) ?_
        refine lv_goto (tgt := 35) hx hb d_W_isLetter_31 (by decide) ?_
        exact W.zret (v := 1) hx hb hr (by decide) (fun t ht hW => ⟨⟨1, (), rfl, hw, by rw [ht]; exact hP, va_K.moved hW.alike hK, hD⟩, hS.F ht⟩) hS.2.2 d_W_isLetter_35
      · have hw := hwf c_4
        refine lv_iload_n hx hb d_W_isLetter_24 rfl (lv_at hl 0 rfl) ?_
        refine lv_bipush (v := 95) hx hb d_W_isLetter_25 (by decide) ?_
        obtain ⟨hwt, hwf⟩ := hw
        refine lv_icmp_ne (tgt := 34) hx hb d_W_isLetter_27 (by decide) (fun c_5 => ?_) (fun c_5 => ?_)
        · have hw := hwf c_5
          refine lv_iconst (v := 0) hx hb d_W_isLetter_34 (by decide) ?_
          exact W.zret (v := 0) hx hb hr (by decide) (fun t ht hW => ⟨⟨0, (), rfl, hw, by rw [ht]; exact hP, va_K.moved hW.alike hK, hD⟩, hS.F ht⟩) hS.2.2 d_W_isLetter_35
        · have hw := hwt c_5
          refine lv_iconst (v := 1) hx hb d_W_isLetter_30 (by decide) ?_
          refine lv_goto (tgt := 35) hx hb d_W_isLetter_31 (by decide) ?_
          exact W.zret (v := 1) hx hb hr (by decide) (fun t ht hW => ⟨⟨1, (), rfl, hw, by rw [ht]; exact hP, va_K.moved hW.alike hK, hD⟩, hS.F ht⟩) hS.2.2 d_W_isLetter_35
  · have hw := hwf c_1
    refine lv_iload_n hx hb d_W_isLetter_6 rfl (lv_at hl 0 rfl) ?_
    refine lv_bipush (v := 122) hx hb d_W_isLetter_7 (by decide) ?_
    obtain ⟨hwt, hwf⟩ := hw
    refine lv_icmp_le (tgt := 30) hx hb d_W_isLetter_9 (by decide) (fun c_6 => ?_) (fun c_6 => ?_)
    · have hw := hwt c_6
      refine lv_iconst (v := 1) hx hb d_W_isLetter_30 (by decide) ?_
      refine lv_goto (tgt := 35) hx hb d_W_isLetter_31 (by decide) ?_
      exact W.zret (v := 1) hx hb hr (by decide) (fun t ht hW => ⟨⟨1, (), rfl, hw, by rw [ht]; exact hP, va_K.moved hW.alike hK, hD⟩, hS.F ht⟩) hS.2.2 d_W_isLetter_35
    · have hw := hwf c_6
      refine lv_iload_n hx hb d_W_isLetter_12 rfl (lv_at hl 0 rfl) ?_
      refine lv_bipush (v := 65) hx hb d_W_isLetter_13 (by decide) ?_
      obtain ⟨hwt, hwf⟩ := hw
      refine lv_icmp_lt (tgt := 24) hx hb d_W_isLetter_15 (by decide) (fun c_7 => ?_) (fun c_7 => ?_)
      · have hw := hwt c_7
        refine lv_iload_n hx hb d_W_isLetter_24 rfl (lv_at hl 0 rfl) ?_
        refine lv_bipush (v := 95) hx hb d_W_isLetter_25 (by decide) ?_
        obtain ⟨hwt, hwf⟩ := hw
        refine lv_icmp_ne (tgt := 34) hx hb d_W_isLetter_27 (by decide) (fun c_8 => ?_) (fun c_8 => ?_)
        · have hw := hwf c_8
          refine lv_iconst (v := 0) hx hb d_W_isLetter_34 (by decide) ?_
          exact W.zret (v := 0) hx hb hr (by decide) (fun t ht hW => ⟨⟨0, (), rfl, hw, by rw [ht]; exact hP, va_K.moved hW.alike hK, hD⟩, hS.F ht⟩) hS.2.2 d_W_isLetter_35
        · have hw := hwt c_8
          refine lv_iconst (v := 1) hx hb d_W_isLetter_30 (by decide) ?_
          refine lv_goto (tgt := 35) hx hb d_W_isLetter_31 (by decide) ?_
          exact W.zret (v := 1) hx hb hr (by decide) (fun t ht hW => ⟨⟨1, (), rfl, hw, by rw [ht]; exact hP, va_K.moved hW.alike hK, hD⟩, hS.F ht⟩) hS.2.2 d_W_isLetter_35
      · have hw := hwf c_7
        refine lv_iload_n hx hb d_W_isLetter_18 rfl (lv_at hl 0 rfl) ?_
        refine lv_bipush (v := 90) hx hb d_W_isLetter_19 (by decide) ?_
        obtain ⟨hwt, hwf⟩ := hw
        refine lv_icmp_le (tgt := 30) hx hb d_W_isLetter_21 (by decide) (fun c_9 => ?_) (fun c_9 => ?_)
        · have hw := hwt c_9
          refine lv_iconst (v := 1) hx hb d_W_isLetter_30 (by decide) ?_
          refine lv_goto (tgt := 35) hx hb d_W_isLetter_31 (by decide) ?_
          exact W.zret (v := 1) hx hb hr (by decide) (fun t ht hW => ⟨⟨1, (), rfl, hw, by rw [ht]; exact hP, va_K.moved hW.alike hK, hD⟩, hS.F ht⟩) hS.2.2 d_W_isLetter_35
        · have hw := hwf c_9
          refine lv_iload_n hx hb d_W_isLetter_24 rfl (lv_at hl 0 rfl) ?_
          refine lv_bipush (v := 95) hx hb d_W_isLetter_25 (by decide) ?_
          obtain ⟨hwt, hwf⟩ := hw
          refine lv_icmp_ne (tgt := 34) hx hb d_W_isLetter_27 (by decide) (fun c_10 => ?_) (fun c_10 => ?_)
          · have hw := hwf c_10
            refine lv_iconst (v := 0) hx hb d_W_isLetter_34 (by decide) ?_
            exact W.zret (v := 0) hx hb hr (by decide) (fun t ht hW => ⟨⟨0, (), rfl, hw, by rw [ht]; exact hP, va_K.moved hW.alike hK, hD⟩, hS.F ht⟩) hS.2.2 d_W_isLetter_35
          · have hw := hwt c_10
            refine lv_iconst (v := 1) hx hb d_W_isLetter_30 (by decide) ?_
            refine lv_goto (tgt := 35) hx hb d_W_isLetter_31 (by decide) ?_
            exact W.zret (v := 1) hx hb hr (by decide) (fun t ht hW => ⟨⟨1, (), rfl, hw, by rw [ht]; exact hP, va_K.moved hW.alike hK, hD⟩, hS.F ht⟩) hS.2.2 d_W_isLetter_35
def f_W_isLetter (p0 : Int32) : Int32 := (if p0 < 97 then (if p0 < 65 then (if p0 = 95 then 1 else 0) else (if p0 ≤ 90 then 1 else (if p0 = 95 then 1 else 0))) else (if p0 ≤ 122 then 1 else (if p0 < 65 then (if p0 = 95 then 1 else 0) else (if p0 ≤ 90 then 1 else (if p0 = 95 then 1 else 0)))))
theorem q_W_isLetter {post : Int32 → Prop} {p0 : Int32} (h : post (f_W_isLetter p0)) : wp_W_isLetter post p0 := by
  unfold wp_W_isLetter
  refine br_c (fun c1 => ?_) (fun c1 => ?_)
  · refine br_c (fun c2 => ?_) (fun c2 => ?_)
    · refine br_c (fun c3 => ?_) (fun c3 => ?_)
      · rw [f_W_isLetter, if_pos c1, if_pos c2, if_pos c3] at h; exact h
      · rw [f_W_isLetter, if_pos c1, if_pos c2, if_neg c3] at h; exact h
    · refine br_c (fun c4 => ?_) (fun c4 => ?_)
      · rw [f_W_isLetter, if_pos c1, if_neg c2, if_pos c4] at h; exact h
      · refine br_c (fun c5 => ?_) (fun c5 => ?_)
        · rw [f_W_isLetter, if_pos c1, if_neg c2, if_neg c4, if_pos c5] at h; exact h
        · rw [f_W_isLetter, if_pos c1, if_neg c2, if_neg c4, if_neg c5] at h; exact h
  · refine br_c (fun c6 => ?_) (fun c6 => ?_)
    · rw [f_W_isLetter, if_neg c1, if_pos c6] at h; exact h
    · refine br_c (fun c7 => ?_) (fun c7 => ?_)
      · refine br_c (fun c8 => ?_) (fun c8 => ?_)
        · rw [f_W_isLetter, if_neg c1, if_neg c6, if_pos c7, if_pos c8] at h; exact h
        · rw [f_W_isLetter, if_neg c1, if_neg c6, if_pos c7, if_neg c8] at h; exact h
      · refine br_c (fun c9 => ?_) (fun c9 => ?_)
        · rw [f_W_isLetter, if_neg c1, if_neg c6, if_neg c7, if_pos c9] at h; exact h
        · refine br_c (fun c10 => ?_) (fun c10 => ?_)
          · rw [f_W_isLetter, if_neg c1, if_neg c6, if_neg c7, if_neg c9, if_pos c10] at h; exact h
          · rw [f_W_isLetter, if_neg c1, if_neg c6, if_neg c7, if_neg c9, if_neg c10] at h; exact h

abbrev wd_W_take (ad : Nat → Nat) (ck : Nat → ClassId) (start : Int32) (fin : Int32) (kind : Int32) (oT : Int32) (oC : Int32) : va_W := [(ad 3, .inr (3, [.ref (ad 1), .int start, .int fin, .int kind, .int oT, .int oC]))]
def wp_W_take (post : Int32 → Int32 → Prop) (start : Int32) (fin : Int32) (kind : Int32) (oT : Int32) (oC : Int32) (p0 : Int32) (p1 : Int32) : Prop := post p1 p0
set_option maxHeartbeats 4000000 in
set_option maxRecDepth 100000 in
theorem kc_W_take (l : Launch) (dC : Nat → ClassId) (dI : Nat → Nat → Nat) (ad : Nat → Nat) (ck : Nat → ClassId) (start : Int32) (fin : Int32) (kind : Int32) (oT : Int32) (oC : Int32) (p0 : Int32) (p1 : Int32) {post : Int32 → Int32 → Prop} (hw : wp_W_take post start fin kind oT oC p0 p1) : k_Cv l y_W_take ws_W_take ({ frames := 0, cells := 0, slots := 0, locals := 0 } : Room) (dC, dI) vwCl (TYm ck) k_x0 [.ref (ad 3), .int p0, .int p1] (wd_W_take ad ck start fin kind oT oC) (fun (u : Int32 × Int32) => post u.1 u.2) (fun (u : Int32 × Int32) => wd_W_take ad ck start u.1 u.2 oT oC) := by
  intro sz
  refine Met.ofW (cc := c_W_take) (maxL := 3) (ret := none) (by decide) rfl ?_
  intro p e s m args below meth c s₁ B hml hv
  obtain ⟨rfl, hsz, hP, hK, hD0, hX⟩ := hv
  have hx := B.exec
  have hb := B.bytes
  have hr := B.returns
  have hts : ∀ w ∈ TB, w.before _ s = true := fun w h => atoms_spec (ws := ws_W_take) B.pre w (List.mem_cons_of_mem _ h)
  have hown : s.vm.findClass R_W = some m.cls := findClass_of_methodNamed B.named
  have hlocks := B.notSynchronized
  subst hsz
  have hD := hD0.self (sz := s.heap.size)
  generalize hAe : va_A (wd_W_take ad ck start fin kind oT oC) s.heap.size = A at hD hX ⊢
  have hA : ∀ q : Nat, s.heap.size ≤ q → A q := fun q h => by rw [← hAe]; exact Or.inr h
  have hS : va_S A s.heap s.heap [] := va_S.rf
  have hP : va_P (dC, dI) vwCl (wd_W_take ad ck start fin kind oT oC) s.heap := hP
  have hl := lv_entry ([.ref (ad 3), .int p0, .int p1]) (n := 3) (Nat.le_of_ble_eq_true rfl)
  rw [lg_entry_eq]
  generalize (lg_sl ([.ref (ad 3), .int p0, .int p1]) ++ List.replicate (3 - (lg_sl ([.ref (ad 3), .int p0, .int p1])).length) Slot.unset).toArray = ls at hl ⊢
  have hl : lv_has ls 3 [(0, .ref (ad 3)), (1, .int p0), (2, .int p1)] := hl
  refine lv_aload_n hx hb d_W_take_0 rfl (lv_at hl 0 rfl) ?_
  refine lv_iload_n hx hb d_W_take_1 rfl (lv_at hl 1 rfl) ?_
  refine va_put (D := (dC, dI)) (ci := 3) (v := .int p0) (ty := .int) (C := R_W) (T := T_W) (N := 6) hx hb hts in_W ty_W ty_W_ok nm_W hown hK hP hD hS 0 rfl rfl 3 (by decide) (hts _ tw_2) (fun _ h9 => h9) rfl (by decide +kernel) rfl rfl (Nat.le_of_ble_eq_true rfl) d_W_take_2 (fun H locs hP hD hS => ?_)
  have hP : va_P (dC, dI) vwCl (wd_W_take ad ck start fin p0 oT oC) H := hP
  have hD : va_D A (wd_W_take ad ck start fin p0 oT oC) := hD
  refine lv_aload_n hx hb d_W_take_5 rfl (lv_at hl 0 rfl) ?_
  refine lv_iload_n hx hb d_W_take_6 rfl (lv_at hl 2 rfl) ?_
  refine va_put (D := (dC, dI)) (ci := 3) (v := .int p1) (ty := .int) (C := R_W) (T := T_W) (N := 6) hx hb hts in_W ty_W ty_W_ok nm_W hown hK hP hD hS 0 rfl rfl 2 (by decide) (hts _ tw_3) (fun _ h9 => h9) rfl (by decide +kernel) rfl rfl (Nat.le_of_ble_eq_true rfl) d_W_take_7 (fun H locs hP hD hS => ?_)
  have hP : va_P (dC, dI) vwCl (wd_W_take ad ck start p1 p0 oT oC) H := hP
  have hD : va_D A (wd_W_take ad ck start p1 p0 oT oC) := hD
  exact W.vret hx hb hr (fun t ht hW => ⟨⟨(p1, p0), rfl, hw, by rw [ht]; exact hP, va_K.moved hW.alike hK, hD⟩, hS.F ht⟩) hS.2.2 d_W_take_10

abbrev wd_W_goesOnNumber (ad : Nat → Nat) (ck : Nat → ClassId)  : va_W := []
def wp_W_goesOnNumber (post : Int32 → Prop)  (p0 : Int32) (p1 : Int32) : Prop := (p1 = 43 → ((p0 = 101 → (post 1)) ∧ (¬ p0 = 101 → ((p0 = 69 → (post 1)) ∧ (¬ p0 = 69 → ((p0 = 112 → (post 1)) ∧ (¬ p0 = 112 → ((p0 = 80 → (post 1)) ∧ (¬ p0 = 80 → (post 0)))))))))) ∧ (¬ p1 = 43 → ((p1 = 45 → ((p0 = 101 → (post 1)) ∧ (¬ p0 = 101 → ((p0 = 69 → (post 1)) ∧ (¬ p0 = 69 → ((p0 = 112 → (post 1)) ∧ (¬ p0 = 112 → ((p0 = 80 → (post 1)) ∧ (¬ p0 = 80 → (post 0)))))))))) ∧ (¬ p1 = 45 → (wp_W_isDigit (fun (r_7 : Int32) => (r_7 = 0 → (wp_W_isLetter (fun (r_9 : Int32) => (r_9 = 0 → ((p1 = 46 → (post 1)) ∧ (¬ p1 = 46 → (post 0)))) ∧ (¬ r_9 = 0 → (post 1))) p1)) ∧ (¬ r_7 = 0 → (post 1))) p1))))
set_option maxHeartbeats 4000000 in
set_option maxRecDepth 100000 in
theorem kc_W_goesOnNumber (l : Launch) (dC : Nat → ClassId) (dI : Nat → Nat → Nat) (ad : Nat → Nat) (ck : Nat → ClassId)  (p0 : Int32) (p1 : Int32) {post : Int32 → Prop} (hw : wp_W_goesOnNumber post  p0 p1) : k_Ci l y_W_goesOnNumber ws_W_goesOnNumber ({ frames := 1, cells := 0, slots := 0, locals := 20 } : Room) (dC, dI) vwCl (TYm ck) k_x0 [.int p0, .int p1] ([]) (fun (r : Int32) (u : Unit) => post r ) (fun (u : Unit) => []) := by
  intro sz
  refine Met.ofW (cc := c_W_goesOnNumber) (maxL := 2) (ret := (some .boolean)) (by decide) rfl ?_
  intro p e s m args below meth c s₁ B hml hv
  obtain ⟨rfl, hsz, hP, hK, hD0, hX⟩ := hv
  have hx := B.exec
  have hb := B.bytes
  have hr := B.returns
  have hts : ∀ w ∈ TB, w.before _ s = true := fun w h => atoms_spec (ws := ws_W_goesOnNumber) B.pre w (List.mem_cons_of_mem _ h)
  have hown : s.vm.findClass R_W = some m.cls := findClass_of_methodNamed B.named
  have hlocks := B.notSynchronized
  subst hsz
  have hD := hD0.self (sz := s.heap.size)
  generalize hAe : va_A ([]) s.heap.size = A at hD hX ⊢
  have hA : ∀ q : Nat, s.heap.size ≤ q → A q := fun q h => by rw [← hAe]; exact Or.inr h
  have hS : va_S A s.heap s.heap [] := va_S.rf
  have hP : va_P (dC, dI) vwCl ([]) s.heap := hP
  have hl := lv_entry ([.int p0, .int p1]) (n := 2) (Nat.le_of_ble_eq_true rfl)
  rw [lg_entry_eq]
  generalize (lg_sl ([.int p0, .int p1]) ++ List.replicate (2 - (lg_sl ([.int p0, .int p1])).length) Slot.unset).toArray = ls at hl ⊢
  have hl : lv_has ls 2 [(0, .int p0), (1, .int p1)] := hl
  refine lv_iload_n hx hb d_W_goesOnNumber_0 rfl (lv_at hl 1 rfl) ?_
  refine lv_bipush (v := 43) hx hb d_W_goesOnNumber_1 (by decide) ?_
  obtain ⟨hwt, hwf⟩ := hw
  refine lv_icmp_eq (tgt := 12) hx hb d_W_goesOnNumber_3 (by decide) (fun c_1 => ?_) (fun c_1 => ?_)
  · have hw := hwt c_1
    refine lv_iload_n hx hb d_W_goesOnNumber_12 rfl (lv_at hl 0 rfl) ?_
    refine lv_bipush (v := 101) hx hb d_W_goesOnNumber_13 (by decide) ?_
    obtain ⟨hwt, hwf⟩ := hw
    refine lv_icmp_eq (tgt := 36) hx hb d_W_goesOnNumber_15 (by decide) (fun c_2 => ?_) (fun c_2 => ?_)
    · have hw := hwt c_2
      refine lv_iconst (v := 1) hx hb d_W_goesOnNumber_36 (by decide) ?_
      refine lv_goto (tgt := 41) hx hb d_W_goesOnNumber_37 (by decide) ?_
      exact W.zret (v := 1) hx hb hr (by decide) (fun t ht hW => ⟨⟨1, (), rfl, hw, by rw [ht]; exact hP, va_K.moved hW.alike hK, hD⟩, hS.F ht⟩) hS.2.2 d_W_goesOnNumber_41
    · have hw := hwf c_2
      refine lv_iload_n hx hb d_W_goesOnNumber_18 rfl (lv_at hl 0 rfl) ?_
      refine lv_bipush (v := 69) hx hb d_W_goesOnNumber_19 (by decide) ?_
      obtain ⟨hwt, hwf⟩ := hw
      refine lv_icmp_eq (tgt := 36) hx hb d_W_goesOnNumber_21 (by decide) (fun c_3 => ?_) (fun c_3 => ?_)
      · have hw := hwt c_3
        refine lv_iconst (v := 1) hx hb d_W_goesOnNumber_36 (by decide) ?_
        refine lv_goto (tgt := 41) hx hb d_W_goesOnNumber_37 (by decide) ?_
        exact W.zret (v := 1) hx hb hr (by decide) (fun t ht hW => ⟨⟨1, (), rfl, hw, by rw [ht]; exact hP, va_K.moved hW.alike hK, hD⟩, hS.F ht⟩) hS.2.2 d_W_goesOnNumber_41
      · have hw := hwf c_3
        refine lv_iload_n hx hb d_W_goesOnNumber_24 rfl (lv_at hl 0 rfl) ?_
        refine lv_bipush (v := 112) hx hb d_W_goesOnNumber_25 (by decide) ?_
        obtain ⟨hwt, hwf⟩ := hw
        refine lv_icmp_eq (tgt := 36) hx hb d_W_goesOnNumber_27 (by decide) (fun c_4 => ?_) (fun c_4 => ?_)
        · have hw := hwt c_4
          refine lv_iconst (v := 1) hx hb d_W_goesOnNumber_36 (by decide) ?_
          refine lv_goto (tgt := 41) hx hb d_W_goesOnNumber_37 (by decide) ?_
          exact W.zret (v := 1) hx hb hr (by decide) (fun t ht hW => ⟨⟨1, (), rfl, hw, by rw [ht]; exact hP, va_K.moved hW.alike hK, hD⟩, hS.F ht⟩) hS.2.2 d_W_goesOnNumber_41
        · have hw := hwf c_4
          refine lv_iload_n hx hb d_W_goesOnNumber_30 rfl (lv_at hl 0 rfl) ?_
          refine lv_bipush (v := 80) hx hb d_W_goesOnNumber_31 (by decide) ?_
          obtain ⟨hwt, hwf⟩ := hw
          refine lv_icmp_ne (tgt := 40) hx hb d_W_goesOnNumber_33 (by decide) (fun c_5 => ?_) (fun c_5 => ?_)
          · have hw := hwf c_5
            refine lv_iconst (v := 0) hx hb d_W_goesOnNumber_40 (by decide) ?_
            exact W.zret (v := 0) hx hb hr (by decide) (fun t ht hW => ⟨⟨0, (), rfl, hw, by rw [ht]; exact hP, va_K.moved hW.alike hK, hD⟩, hS.F ht⟩) hS.2.2 d_W_goesOnNumber_41
          · have hw := hwt c_5
            refine lv_iconst (v := 1) hx hb d_W_goesOnNumber_36 (by decide) ?_
            refine lv_goto (tgt := 41) hx hb d_W_goesOnNumber_37 (by decide) ?_
            exact W.zret (v := 1) hx hb hr (by decide) (fun t ht hW => ⟨⟨1, (), rfl, hw, by rw [ht]; exact hP, va_K.moved hW.alike hK, hD⟩, hS.F ht⟩) hS.2.2 d_W_goesOnNumber_41
  · have hw := hwf c_1
    refine lv_iload_n hx hb d_W_goesOnNumber_6 rfl (lv_at hl 1 rfl) ?_
    refine lv_bipush (v := 45) hx hb d_W_goesOnNumber_7 (by decide) ?_
    obtain ⟨hwt, hwf⟩ := hw
    refine lv_icmp_ne (tgt := 42) hx hb d_W_goesOnNumber_9 (by decide) (fun c_6 => ?_) (fun c_6 => ?_)
    · have hw := hwf c_6
      refine lv_iload_n hx hb d_W_goesOnNumber_42 rfl (lv_at hl 1 rfl) ?_
      refine k_callSi (As := [.int p1]) (rest := []) (fun (u : Unit) => []) ⟨hx, hb, hml, hown, hts⟩ (kc_W_isDigit l dC dI ad ck p1 (hw := hw)) (va_cwS 1 hts (gS tw_4 tw_7 tw_6 tw_5) rfl rfl rfl hd_W_isDigit ⟨Nat.le_of_ble_eq_true rfl, Nat.le_of_ble_eq_true rfl⟩) hK hP hD hS hA k_x0c trivial [] [] [] rfl rfl (by decide) (by decide) (fun _ => rfl) rfl hl.1 rfl (lv_room (Nat.le_of_ble_eq_true rfl)) d_W_goesOnNumber_43 ⟨Nat.zero_le _, Nat.zero_le _⟩ ?_
      intro r_7 u H locs hw hP hD hS
      have hP : va_P (dC, dI) vwCl ([]) H := hP
      have hD : va_D A ([]) := hD
      try dsimp only at hw
      obtain ⟨hwt, hwf⟩ := hw
      refine lv_if_ne (tgt := 62) hx hb d_W_goesOnNumber_46 (by decide) (fun c_8 => ?_) (fun c_8 => ?_)
      · have hw := hwf c_8
        refine lv_iconst (v := 1) hx hb d_W_goesOnNumber_62 (by decide) ?_
        refine lv_goto (tgt := 67) hx hb d_W_goesOnNumber_63 (by decide) ?_
        exact W.zret (v := 1) hx hb hr (by decide) (fun t ht hW => ⟨⟨1, (), rfl, hw, by rw [ht]; exact hP, va_K.moved hW.alike hK, hD⟩, hS.F ht⟩) hS.2.2 d_W_goesOnNumber_67
      · have hw := hwt c_8
        refine lv_iload_n hx hb d_W_goesOnNumber_49 rfl (lv_at hl 1 rfl) ?_
        refine k_callSi (As := [.int p1]) (rest := []) (fun (u : Unit) => []) ⟨hx, hb, hml, hown, hts⟩ (kc_W_isLetter l dC dI ad ck p1 (hw := hw)) (va_cwS 1 hts (gS tw_8 tw_10 tw_6 tw_9) rfl rfl rfl hd_W_isLetter ⟨Nat.le_of_ble_eq_true rfl, Nat.le_of_ble_eq_true rfl⟩) hK hP hD hS hA k_x0c trivial [] [] [] rfl rfl (by decide) (by decide) (fun _ => rfl) rfl hl.1 rfl (lv_room (Nat.le_of_ble_eq_true rfl)) d_W_goesOnNumber_50 ⟨Nat.zero_le _, Nat.zero_le _⟩ ?_
        intro r_9 u H locs hw hP hD hS
        have hP : va_P (dC, dI) vwCl ([]) H := hP
        have hD : va_D A ([]) := hD
        try dsimp only at hw
        obtain ⟨hwt, hwf⟩ := hw
        refine lv_if_ne (tgt := 62) hx hb d_W_goesOnNumber_53 (by decide) (fun c_10 => ?_) (fun c_10 => ?_)
        · have hw := hwf c_10
          refine lv_iconst (v := 1) hx hb d_W_goesOnNumber_62 (by decide) ?_
          refine lv_goto (tgt := 67) hx hb d_W_goesOnNumber_63 (by decide) ?_
          exact W.zret (v := 1) hx hb hr (by decide) (fun t ht hW => ⟨⟨1, (), rfl, hw, by rw [ht]; exact hP, va_K.moved hW.alike hK, hD⟩, hS.F ht⟩) hS.2.2 d_W_goesOnNumber_67
        · have hw := hwt c_10
          refine lv_iload_n hx hb d_W_goesOnNumber_56 rfl (lv_at hl 1 rfl) ?_
          refine lv_bipush (v := 46) hx hb d_W_goesOnNumber_57 (by decide) ?_
          obtain ⟨hwt, hwf⟩ := hw
          refine lv_icmp_ne (tgt := 66) hx hb d_W_goesOnNumber_59 (by decide) (fun c_11 => ?_) (fun c_11 => ?_)
          · have hw := hwf c_11
            refine lv_iconst (v := 0) hx hb d_W_goesOnNumber_66 (by decide) ?_
            exact W.zret (v := 0) hx hb hr (by decide) (fun t ht hW => ⟨⟨0, (), rfl, hw, by rw [ht]; exact hP, va_K.moved hW.alike hK, hD⟩, hS.F ht⟩) hS.2.2 d_W_goesOnNumber_67
          · have hw := hwt c_11
            refine lv_iconst (v := 1) hx hb d_W_goesOnNumber_62 (by decide) ?_
            refine lv_goto (tgt := 67) hx hb d_W_goesOnNumber_63 (by decide) ?_
            exact W.zret (v := 1) hx hb hr (by decide) (fun t ht hW => ⟨⟨1, (), rfl, hw, by rw [ht]; exact hP, va_K.moved hW.alike hK, hD⟩, hS.F ht⟩) hS.2.2 d_W_goesOnNumber_67
    · have hw := hwt c_6
      refine lv_iload_n hx hb d_W_goesOnNumber_12 rfl (lv_at hl 0 rfl) ?_
      refine lv_bipush (v := 101) hx hb d_W_goesOnNumber_13 (by decide) ?_
      obtain ⟨hwt, hwf⟩ := hw
      refine lv_icmp_eq (tgt := 36) hx hb d_W_goesOnNumber_15 (by decide) (fun c_12 => ?_) (fun c_12 => ?_)
      · have hw := hwt c_12
        refine lv_iconst (v := 1) hx hb d_W_goesOnNumber_36 (by decide) ?_
        refine lv_goto (tgt := 41) hx hb d_W_goesOnNumber_37 (by decide) ?_
        exact W.zret (v := 1) hx hb hr (by decide) (fun t ht hW => ⟨⟨1, (), rfl, hw, by rw [ht]; exact hP, va_K.moved hW.alike hK, hD⟩, hS.F ht⟩) hS.2.2 d_W_goesOnNumber_41
      · have hw := hwf c_12
        refine lv_iload_n hx hb d_W_goesOnNumber_18 rfl (lv_at hl 0 rfl) ?_
        refine lv_bipush (v := 69) hx hb d_W_goesOnNumber_19 (by decide) ?_
        obtain ⟨hwt, hwf⟩ := hw
        refine lv_icmp_eq (tgt := 36) hx hb d_W_goesOnNumber_21 (by decide) (fun c_13 => ?_) (fun c_13 => ?_)
        · have hw := hwt c_13
          refine lv_iconst (v := 1) hx hb d_W_goesOnNumber_36 (by decide) ?_
          refine lv_goto (tgt := 41) hx hb d_W_goesOnNumber_37 (by decide) ?_
          exact W.zret (v := 1) hx hb hr (by decide) (fun t ht hW => ⟨⟨1, (), rfl, hw, by rw [ht]; exact hP, va_K.moved hW.alike hK, hD⟩, hS.F ht⟩) hS.2.2 d_W_goesOnNumber_41
        · have hw := hwf c_13
          refine lv_iload_n hx hb d_W_goesOnNumber_24 rfl (lv_at hl 0 rfl) ?_
          refine lv_bipush (v := 112) hx hb d_W_goesOnNumber_25 (by decide) ?_
          obtain ⟨hwt, hwf⟩ := hw
          refine lv_icmp_eq (tgt := 36) hx hb d_W_goesOnNumber_27 (by decide) (fun c_14 => ?_) (fun c_14 => ?_)
          · have hw := hwt c_14
            refine lv_iconst (v := 1) hx hb d_W_goesOnNumber_36 (by decide) ?_
            refine lv_goto (tgt := 41) hx hb d_W_goesOnNumber_37 (by decide) ?_
            exact W.zret (v := 1) hx hb hr (by decide) (fun t ht hW => ⟨⟨1, (), rfl, hw, by rw [ht]; exact hP, va_K.moved hW.alike hK, hD⟩, hS.F ht⟩) hS.2.2 d_W_goesOnNumber_41
          · have hw := hwf c_14
            refine lv_iload_n hx hb d_W_goesOnNumber_30 rfl (lv_at hl 0 rfl) ?_
            refine lv_bipush (v := 80) hx hb d_W_goesOnNumber_31 (by decide) ?_
            obtain ⟨hwt, hwf⟩ := hw
            refine lv_icmp_ne (tgt := 40) hx hb d_W_goesOnNumber_33 (by decide) (fun c_15 => ?_) (fun c_15 => ?_)
            · have hw := hwf c_15
              refine lv_iconst (v := 0) hx hb d_W_goesOnNumber_40 (by decide) ?_
              exact W.zret (v := 0) hx hb hr (by decide) (fun t ht hW => ⟨⟨0, (), rfl, hw, by rw [ht]; exact hP, va_K.moved hW.alike hK, hD⟩, hS.F ht⟩) hS.2.2 d_W_goesOnNumber_41
            · have hw := hwt c_15
              refine lv_iconst (v := 1) hx hb d_W_goesOnNumber_36 (by decide) ?_
              refine lv_goto (tgt := 41) hx hb d_W_goesOnNumber_37 (by decide) ?_
              exact W.zret (v := 1) hx hb hr (by decide) (fun t ht hW => ⟨⟨1, (), rfl, hw, by rw [ht]; exact hP, va_K.moved hW.alike hK, hD⟩, hS.F ht⟩) hS.2.2 d_W_goesOnNumber_41
def f_W_goesOnNumber (p0 : Int32) (p1 : Int32) : Int32 := (if p1 = 43 then (if p0 = 101 then 1 else (if p0 = 69 then 1 else (if p0 = 112 then 1 else (if p0 = 80 then 1 else 0)))) else (if p1 = 45 then (if p0 = 101 then 1 else (if p0 = 69 then 1 else (if p0 = 112 then 1 else (if p0 = 80 then 1 else 0)))) else (if (f_W_isDigit p1) = 0 then (if (f_W_isLetter p1) = 0 then (if p1 = 46 then 1 else 0) else 1) else 1)))
theorem q_W_goesOnNumber {post : Int32 → Prop} {p0 : Int32} {p1 : Int32} (h : post (f_W_goesOnNumber p0 p1)) : wp_W_goesOnNumber post p0 p1 := by
  unfold wp_W_goesOnNumber
  refine br_c (fun c1 => ?_) (fun c1 => ?_)
  · refine br_c (fun c2 => ?_) (fun c2 => ?_)
    · rw [f_W_goesOnNumber, if_pos c1, if_pos c2] at h; exact h
    · refine br_c (fun c3 => ?_) (fun c3 => ?_)
      · rw [f_W_goesOnNumber, if_pos c1, if_neg c2, if_pos c3] at h; exact h
      · refine br_c (fun c4 => ?_) (fun c4 => ?_)
        · rw [f_W_goesOnNumber, if_pos c1, if_neg c2, if_neg c3, if_pos c4] at h; exact h
        · refine br_c (fun c5 => ?_) (fun c5 => ?_)
          · rw [f_W_goesOnNumber, if_pos c1, if_neg c2, if_neg c3, if_neg c4, if_pos c5] at h; exact h
          · rw [f_W_goesOnNumber, if_pos c1, if_neg c2, if_neg c3, if_neg c4, if_neg c5] at h; exact h
  · refine br_c (fun c6 => ?_) (fun c6 => ?_)
    · refine br_c (fun c7 => ?_) (fun c7 => ?_)
      · rw [f_W_goesOnNumber, if_neg c1, if_pos c6, if_pos c7] at h; exact h
      · refine br_c (fun c8 => ?_) (fun c8 => ?_)
        · rw [f_W_goesOnNumber, if_neg c1, if_pos c6, if_neg c7, if_pos c8] at h; exact h
        · refine br_c (fun c9 => ?_) (fun c9 => ?_)
          · rw [f_W_goesOnNumber, if_neg c1, if_pos c6, if_neg c7, if_neg c8, if_pos c9] at h; exact h
          · refine br_c (fun c10 => ?_) (fun c10 => ?_)
            · rw [f_W_goesOnNumber, if_neg c1, if_pos c6, if_neg c7, if_neg c8, if_neg c9, if_pos c10] at h; exact h
            · rw [f_W_goesOnNumber, if_neg c1, if_pos c6, if_neg c7, if_neg c8, if_neg c9, if_neg c10] at h; exact h
    · refine q_W_isDigit ?_
      refine br_c (fun c11 => ?_) (fun c11 => ?_)
      · refine q_W_isLetter ?_
        refine br_c (fun c12 => ?_) (fun c12 => ?_)
        · refine br_c (fun c13 => ?_) (fun c13 => ?_)
          · rw [f_W_goesOnNumber, if_neg c1, if_neg c6, if_pos c11, if_pos c12, if_pos c13] at h; exact h
          · rw [f_W_goesOnNumber, if_neg c1, if_neg c6, if_pos c11, if_pos c12, if_neg c13] at h; exact h
        · rw [f_W_goesOnNumber, if_neg c1, if_neg c6, if_pos c11, if_neg c12] at h; exact h
      · rw [f_W_goesOnNumber, if_neg c1, if_neg c6, if_neg c11] at h; exact h

abbrev wd_W_isTriple (ad : Nat → Nat) (ck : Nat → ClassId)  : va_W := []
def wp_W_isTriple (post : Int32 → Prop)  (p0 : Int32) (p1 : Int32) (p2 : Int32) : Prop := (p0 = p1 → ((p0 = 46 → ((p2 = 46 → (post 1)) ∧ (¬ p2 = 46 → (post 0)))) ∧ (¬ p0 = 46 → ((p0 = 60 → ((p2 = 61 → (post 1)) ∧ (¬ p2 = 61 → (post 0)))) ∧ (¬ p0 = 60 → ((p0 = 62 → ((p2 = 61 → (post 1)) ∧ (¬ p2 = 61 → (post 0)))) ∧ (¬ p0 = 62 → (post 0)))))))) ∧ (¬ p0 = p1 → (post 0))
set_option maxHeartbeats 4000000 in
set_option maxRecDepth 100000 in
theorem kc_W_isTriple (l : Launch) (dC : Nat → ClassId) (dI : Nat → Nat → Nat) (ad : Nat → Nat) (ck : Nat → ClassId)  (p0 : Int32) (p1 : Int32) (p2 : Int32) {post : Int32 → Prop} (hw : wp_W_isTriple post  p0 p1 p2) : k_Ci l y_W_isTriple ws_W_isTriple ({ frames := 0, cells := 0, slots := 0, locals := 0 } : Room) (dC, dI) vwCl (TYm ck) k_x0 [.int p0, .int p1, .int p2] ([]) (fun (r : Int32) (u : Unit) => post r ) (fun (u : Unit) => []) := by
  intro sz
  refine Met.ofW (cc := c_W_isTriple) (maxL := 3) (ret := (some .boolean)) (by decide) rfl ?_
  intro p e s m args below meth c s₁ B hml hv
  obtain ⟨rfl, hsz, hP, hK, hD0, hX⟩ := hv
  have hx := B.exec
  have hb := B.bytes
  have hr := B.returns
  have hts : ∀ w ∈ TB, w.before _ s = true := fun w h => atoms_spec (ws := ws_W_isTriple) B.pre w (List.mem_cons_of_mem _ h)
  have hown : s.vm.findClass R_W = some m.cls := findClass_of_methodNamed B.named
  have hlocks := B.notSynchronized
  subst hsz
  have hD := hD0.self (sz := s.heap.size)
  generalize hAe : va_A ([]) s.heap.size = A at hD hX ⊢
  have hA : ∀ q : Nat, s.heap.size ≤ q → A q := fun q h => by rw [← hAe]; exact Or.inr h
  have hS : va_S A s.heap s.heap [] := va_S.rf
  have hP : va_P (dC, dI) vwCl ([]) s.heap := hP
  have hl := lv_entry ([.int p0, .int p1, .int p2]) (n := 3) (Nat.le_of_ble_eq_true rfl)
  rw [lg_entry_eq]
  generalize (lg_sl ([.int p0, .int p1, .int p2]) ++ List.replicate (3 - (lg_sl ([.int p0, .int p1, .int p2])).length) Slot.unset).toArray = ls at hl ⊢
  have hl : lv_has ls 3 [(0, .int p0), (1, .int p1), (2, .int p2)] := hl
  refine lv_iload_n hx hb d_W_isTriple_0 rfl (lv_at hl 0 rfl) ?_
  refine lv_iload_n hx hb d_W_isTriple_1 rfl (lv_at hl 1 rfl) ?_
  obtain ⟨hwt, hwf⟩ := hw
  refine lv_icmp_eq (tgt := 7) hx hb d_W_isTriple_2 (by decide) (fun c_1 => ?_) (fun c_1 => ?_)
  · have hw := hwt c_1
    refine lv_iload_n hx hb d_W_isTriple_7 rfl (lv_at hl 0 rfl) ?_
    refine lv_bipush (v := 46) hx hb d_W_isTriple_8 (by decide) ?_
    obtain ⟨hwt, hwf⟩ := hw
    refine lv_icmp_ne (tgt := 27) hx hb d_W_isTriple_10 (by decide) (fun c_2 => ?_) (fun c_2 => ?_)
    · have hw := hwf c_2
      refine lv_iload_n hx hb d_W_isTriple_27 rfl (lv_at hl 0 rfl) ?_
      refine lv_bipush (v := 60) hx hb d_W_isTriple_28 (by decide) ?_
      obtain ⟨hwt, hwf⟩ := hw
      refine lv_icmp_eq (tgt := 39) hx hb d_W_isTriple_30 (by decide) (fun c_3 => ?_) (fun c_3 => ?_)
      · have hw := hwt c_3
        refine lv_iload_n hx hb d_W_isTriple_39 rfl (lv_at hl 2 rfl) ?_
        refine lv_bipush (v := 61) hx hb d_W_isTriple_40 (by decide) ?_
        obtain ⟨hwt, hwf⟩ := hw
        refine lv_icmp_ne (tgt := 49) hx hb d_W_isTriple_42 (by decide) (fun c_4 => ?_) (fun c_4 => ?_)
        · have hw := hwf c_4
          refine lv_iconst (v := 0) hx hb d_W_isTriple_49 (by decide) ?_
          exact W.zret (v := 0) hx hb hr (by decide) (fun t ht hW => ⟨⟨0, (), rfl, hw, by rw [ht]; exact hP, va_K.moved hW.alike hK, hD⟩, hS.F ht⟩) hS.2.2 d_W_isTriple_50
        · have hw := hwt c_4
          refine lv_iconst (v := 1) hx hb d_W_isTriple_45 (by decide) ?_
          refine lv_goto (tgt := 50) hx hb d_W_isTriple_46 (by decide) ?_
          exact W.zret (v := 1) hx hb hr (by decide) (fun t ht hW => ⟨⟨1, (), rfl, hw, by rw [ht]; exact hP, va_K.moved hW.alike hK, hD⟩, hS.F ht⟩) hS.2.2 d_W_isTriple_50
      · have hw := hwf c_3
        refine lv_iload_n hx hb d_W_isTriple_33 rfl (lv_at hl 0 rfl) ?_
        refine lv_bipush (v := 62) hx hb d_W_isTriple_34 (by decide) ?_
        obtain ⟨hwt, hwf⟩ := hw
        refine lv_icmp_ne (tgt := 49) hx hb d_W_isTriple_36 (by decide) (fun c_5 => ?_) (fun c_5 => ?_)
        · have hw := hwf c_5
          refine lv_iconst (v := 0) hx hb d_W_isTriple_49 (by decide) ?_
          exact W.zret (v := 0) hx hb hr (by decide) (fun t ht hW => ⟨⟨0, (), rfl, hw, by rw [ht]; exact hP, va_K.moved hW.alike hK, hD⟩, hS.F ht⟩) hS.2.2 d_W_isTriple_50
        · have hw := hwt c_5
          refine lv_iload_n hx hb d_W_isTriple_39 rfl (lv_at hl 2 rfl) ?_
          refine lv_bipush (v := 61) hx hb d_W_isTriple_40 (by decide) ?_
          obtain ⟨hwt, hwf⟩ := hw
          refine lv_icmp_ne (tgt := 49) hx hb d_W_isTriple_42 (by decide) (fun c_6 => ?_) (fun c_6 => ?_)
          · have hw := hwf c_6
            refine lv_iconst (v := 0) hx hb d_W_isTriple_49 (by decide) ?_
            exact W.zret (v := 0) hx hb hr (by decide) (fun t ht hW => ⟨⟨0, (), rfl, hw, by rw [ht]; exact hP, va_K.moved hW.alike hK, hD⟩, hS.F ht⟩) hS.2.2 d_W_isTriple_50
          · have hw := hwt c_6
            refine lv_iconst (v := 1) hx hb d_W_isTriple_45 (by decide) ?_
            refine lv_goto (tgt := 50) hx hb d_W_isTriple_46 (by decide) ?_
            exact W.zret (v := 1) hx hb hr (by decide) (fun t ht hW => ⟨⟨1, (), rfl, hw, by rw [ht]; exact hP, va_K.moved hW.alike hK, hD⟩, hS.F ht⟩) hS.2.2 d_W_isTriple_50
    · have hw := hwt c_2
      refine lv_iload_n hx hb d_W_isTriple_13 rfl (lv_at hl 2 rfl) ?_
      refine lv_bipush (v := 46) hx hb d_W_isTriple_14 (by decide) ?_
      obtain ⟨hwt, hwf⟩ := hw
      refine lv_icmp_ne (tgt := 23) hx hb d_W_isTriple_16 (by decide) (fun c_7 => ?_) (fun c_7 => ?_)
      · have hw := hwf c_7
        refine lv_iconst (v := 0) hx hb d_W_isTriple_23 (by decide) ?_
        refine lv_goto (tgt := 50) hx hb d_W_isTriple_24 (by decide) ?_
        exact W.zret (v := 0) hx hb hr (by decide) (fun t ht hW => ⟨⟨0, (), rfl, hw, by rw [ht]; exact hP, va_K.moved hW.alike hK, hD⟩, hS.F ht⟩) hS.2.2 d_W_isTriple_50
      · have hw := hwt c_7
        refine lv_iconst (v := 1) hx hb d_W_isTriple_19 (by decide) ?_
        refine lv_goto (tgt := 50) hx hb d_W_isTriple_20 (by decide) ?_
        exact W.zret (v := 1) hx hb hr (by decide) (fun t ht hW => ⟨⟨1, (), rfl, hw, by rw [ht]; exact hP, va_K.moved hW.alike hK, hD⟩, hS.F ht⟩) hS.2.2 d_W_isTriple_50
  · have hw := hwf c_1
    refine lv_iconst (v := 0) hx hb d_W_isTriple_5 (by decide) ?_
    exact W.zret (v := 0) hx hb hr (by decide) (fun t ht hW => ⟨⟨0, (), rfl, hw, by rw [ht]; exact hP, va_K.moved hW.alike hK, hD⟩, hS.F ht⟩) hS.2.2 d_W_isTriple_6
def f_W_isTriple (p0 : Int32) (p1 : Int32) (p2 : Int32) : Int32 := (if p0 = p1 then (if p0 = 46 then (if p2 = 46 then 1 else 0) else (if p0 = 60 then (if p2 = 61 then 1 else 0) else (if p0 = 62 then (if p2 = 61 then 1 else 0) else 0))) else 0)
theorem q_W_isTriple {post : Int32 → Prop} {p0 : Int32} {p1 : Int32} {p2 : Int32} (h : post (f_W_isTriple p0 p1 p2)) : wp_W_isTriple post p0 p1 p2 := by
  unfold wp_W_isTriple
  refine br_c (fun c1 => ?_) (fun c1 => ?_)
  · refine br_c (fun c2 => ?_) (fun c2 => ?_)
    · refine br_c (fun c3 => ?_) (fun c3 => ?_)
      · rw [f_W_isTriple, if_pos c1, if_pos c2, if_pos c3] at h; exact h
      · rw [f_W_isTriple, if_pos c1, if_pos c2, if_neg c3] at h; exact h
    · refine br_c (fun c4 => ?_) (fun c4 => ?_)
      · refine br_c (fun c5 => ?_) (fun c5 => ?_)
        · rw [f_W_isTriple, if_pos c1, if_neg c2, if_pos c4, if_pos c5] at h; exact h
        · rw [f_W_isTriple, if_pos c1, if_neg c2, if_pos c4, if_neg c5] at h; exact h
      · refine br_c (fun c6 => ?_) (fun c6 => ?_)
        · refine br_c (fun c7 => ?_) (fun c7 => ?_)
          · rw [f_W_isTriple, if_pos c1, if_neg c2, if_neg c4, if_pos c6, if_pos c7] at h; exact h
          · rw [f_W_isTriple, if_pos c1, if_neg c2, if_neg c4, if_pos c6, if_neg c7] at h; exact h
        · rw [f_W_isTriple, if_pos c1, if_neg c2, if_neg c4, if_neg c6] at h; exact h
  · rw [f_W_isTriple, if_neg c1] at h; exact h

abbrev wd_W_isPair (ad : Nat → Nat) (ck : Nat → ClassId)  : va_W := []
def wp_W_isPair (post : Int32 → Prop)  (p0 : Int32) (p1 : Int32) : Prop := (p0 = 33 → ((p1 = 61 → (post 1)) ∧ (¬ p1 = 61 → (post 0)))) ∧ (¬ p0 = 33 → ((p0 = 35 → ((p1 = 35 → (post 1)) ∧ (¬ p1 = 35 → (post 0)))) ∧ (¬ p0 = 35 → ((p0 = 37 → ((p1 = 61 → (post 1)) ∧ (¬ p1 = 61 → (post 0)))) ∧ (¬ p0 = 37 → ((p0 = 38 → ((p1 = p0 → (post 1)) ∧ (¬ p1 = p0 → ((p1 = 61 → (post 1)) ∧ (¬ p1 = 61 → (post 0)))))) ∧ (¬ p0 = 38 → ((p0 = 42 → ((p1 = 61 → (post 1)) ∧ (¬ p1 = 61 → (post 0)))) ∧ (¬ p0 = 42 → ((p0 = 43 → ((p1 = p0 → (post 1)) ∧ (¬ p1 = p0 → ((p1 = 61 → (post 1)) ∧ (¬ p1 = 61 → (post 0)))))) ∧ (¬ p0 = 43 → ((p0 = 45 → ((p1 = 62 → (post 1)) ∧ (¬ p1 = 62 → ((p1 = 45 → (post 1)) ∧ (¬ p1 = 45 → ((p1 = 61 → (post 1)) ∧ (¬ p1 = 61 → (post 0)))))))) ∧ (¬ p0 = 45 → ((p0 = 47 → ((p1 = 61 → (post 1)) ∧ (¬ p1 = 61 → (post 0)))) ∧ (¬ p0 = 47 → ((p0 = 60 → ((p1 = p0 → (post 1)) ∧ (¬ p1 = p0 → ((p1 = 61 → (post 1)) ∧ (¬ p1 = 61 → (post 0)))))) ∧ (¬ p0 = 60 → ((p0 = 61 → ((p1 = 61 → (post 1)) ∧ (¬ p1 = 61 → (post 0)))) ∧ (¬ p0 = 61 → ((p0 = 62 → ((p1 = p0 → (post 1)) ∧ (¬ p1 = p0 → ((p1 = 61 → (post 1)) ∧ (¬ p1 = 61 → (post 0)))))) ∧ (¬ p0 = 62 → ((p0 = 94 → ((p1 = 61 → (post 1)) ∧ (¬ p1 = 61 → (post 0)))) ∧ (¬ p0 = 94 → ((p0 = 124 → ((p1 = p0 → (post 1)) ∧ (¬ p1 = p0 → ((p1 = 61 → (post 1)) ∧ (¬ p1 = 61 → (post 0)))))) ∧ (¬ p0 = 124 → (post 0))))))))))))))))))))))))))
set_option maxHeartbeats 4000000 in
set_option maxRecDepth 100000 in
theorem kc_W_isPair (l : Launch) (dC : Nat → ClassId) (dI : Nat → Nat → Nat) (ad : Nat → Nat) (ck : Nat → ClassId)  (p0 : Int32) (p1 : Int32) {post : Int32 → Prop} (hw : wp_W_isPair post  p0 p1) : k_Ci l y_W_isPair ws_W_isPair ({ frames := 0, cells := 0, slots := 0, locals := 0 } : Room) (dC, dI) vwCl (TYm ck) k_x0 [.int p0, .int p1] ([]) (fun (r : Int32) (u : Unit) => post r ) (fun (u : Unit) => []) := by
  intro sz
  refine Met.ofW (cc := c_W_isPair) (maxL := 2) (ret := (some .boolean)) (by decide) rfl ?_
  intro p e s m args below meth c s₁ B hml hv
  obtain ⟨rfl, hsz, hP, hK, hD0, hX⟩ := hv
  have hx := B.exec
  have hb := B.bytes
  have hr := B.returns
  have hts : ∀ w ∈ TB, w.before _ s = true := fun w h => atoms_spec (ws := ws_W_isPair) B.pre w (List.mem_cons_of_mem _ h)
  have hown : s.vm.findClass R_W = some m.cls := findClass_of_methodNamed B.named
  have hlocks := B.notSynchronized
  subst hsz
  have hD := hD0.self (sz := s.heap.size)
  generalize hAe : va_A ([]) s.heap.size = A at hD hX ⊢
  have hA : ∀ q : Nat, s.heap.size ≤ q → A q := fun q h => by rw [← hAe]; exact Or.inr h
  have hS : va_S A s.heap s.heap [] := va_S.rf
  have hP : va_P (dC, dI) vwCl ([]) s.heap := hP
  have hl := lv_entry ([.int p0, .int p1]) (n := 2) (Nat.le_of_ble_eq_true rfl)
  rw [lg_entry_eq]
  generalize (lg_sl ([.int p0, .int p1]) ++ List.replicate (2 - (lg_sl ([.int p0, .int p1])).length) Slot.unset).toArray = ls at hl ⊢
  have hl : lv_has ls 2 [(0, .int p0), (1, .int p1)] := hl
  refine lv_iload_n hx hb d_W_isPair_0 rfl (lv_at hl 0 rfl) ?_
  obtain ⟨hwt, hwf⟩ := hw
  by_cases c_1 : p0 = 33
  · have hw := hwt c_1
    refine lv_lookup (off := 156) (tgt := 157) hx hb d_W_isPair_1 (by decide) (by rw [c_1]; decide) (by decide) ?_
    refine lv_iload_n hx hb d_W_isPair_157 rfl (lv_at hl 1 rfl) ?_
    refine lv_bipush (v := 61) hx hb d_W_isPair_158 (by decide) ?_
    obtain ⟨hwt, hwf⟩ := hw
    refine lv_icmp_ne (tgt := 167) hx hb d_W_isPair_160 (by decide) (fun c_2 => ?_) (fun c_2 => ?_)
    · have hw := hwf c_2
      refine lv_iconst (v := 0) hx hb d_W_isPair_167 (by decide) ?_
      exact W.zret (v := 0) hx hb hr (by decide) (fun t ht hW => ⟨⟨0, (), rfl, hw, by rw [ht]; exact hP, va_K.moved hW.alike hK, hD⟩, hS.F ht⟩) hS.2.2 d_W_isPair_168
    · have hw := hwt c_2
      refine lv_iconst (v := 1) hx hb d_W_isPair_163 (by decide) ?_
      refine lv_goto (tgt := 168) hx hb d_W_isPair_164 (by decide) ?_
      exact W.zret (v := 1) hx hb hr (by decide) (fun t ht hW => ⟨⟨1, (), rfl, hw, by rw [ht]; exact hP, va_K.moved hW.alike hK, hD⟩, hS.F ht⟩) hS.2.2 d_W_isPair_168
  · have hw := hwf c_1
    obtain ⟨hwt, hwf⟩ := hw
    by_cases c_3 : p0 = 35
    · have hw := hwt c_3
      refine lv_lookup (off := 168) (tgt := 169) hx hb d_W_isPair_1 (by decide) (by rw [c_3]; decide) (by decide) ?_
      refine lv_iload_n hx hb d_W_isPair_169 rfl (lv_at hl 1 rfl) ?_
      refine lv_bipush (v := 35) hx hb d_W_isPair_170 (by decide) ?_
      obtain ⟨hwt, hwf⟩ := hw
      refine lv_icmp_ne (tgt := 179) hx hb d_W_isPair_172 (by decide) (fun c_4 => ?_) (fun c_4 => ?_)
      · have hw := hwf c_4
        refine lv_iconst (v := 0) hx hb d_W_isPair_179 (by decide) ?_
        exact W.zret (v := 0) hx hb hr (by decide) (fun t ht hW => ⟨⟨0, (), rfl, hw, by rw [ht]; exact hP, va_K.moved hW.alike hK, hD⟩, hS.F ht⟩) hS.2.2 d_W_isPair_180
      · have hw := hwt c_4
        refine lv_iconst (v := 1) hx hb d_W_isPair_175 (by decide) ?_
        refine lv_goto (tgt := 180) hx hb d_W_isPair_176 (by decide) ?_
        exact W.zret (v := 1) hx hb hr (by decide) (fun t ht hW => ⟨⟨1, (), rfl, hw, by rw [ht]; exact hP, va_K.moved hW.alike hK, hD⟩, hS.F ht⟩) hS.2.2 d_W_isPair_180
    · have hw := hwf c_3
      obtain ⟨hwt, hwf⟩ := hw
      by_cases c_5 : p0 = 37
      · have hw := hwt c_5
        refine lv_lookup (off := 156) (tgt := 157) hx hb d_W_isPair_1 (by decide) (by rw [c_5]; decide) (by decide) ?_
        refine lv_iload_n hx hb d_W_isPair_157 rfl (lv_at hl 1 rfl) ?_
        refine lv_bipush (v := 61) hx hb d_W_isPair_158 (by decide) ?_
        obtain ⟨hwt, hwf⟩ := hw
        refine lv_icmp_ne (tgt := 167) hx hb d_W_isPair_160 (by decide) (fun c_6 => ?_) (fun c_6 => ?_)
        · have hw := hwf c_6
          refine lv_iconst (v := 0) hx hb d_W_isPair_167 (by decide) ?_
          exact W.zret (v := 0) hx hb hr (by decide) (fun t ht hW => ⟨⟨0, (), rfl, hw, by rw [ht]; exact hP, va_K.moved hW.alike hK, hD⟩, hS.F ht⟩) hS.2.2 d_W_isPair_168
        · have hw := hwt c_6
          refine lv_iconst (v := 1) hx hb d_W_isPair_163 (by decide) ?_
          refine lv_goto (tgt := 168) hx hb d_W_isPair_164 (by decide) ?_
          exact W.zret (v := 1) hx hb hr (by decide) (fun t ht hW => ⟨⟨1, (), rfl, hw, by rw [ht]; exact hP, va_K.moved hW.alike hK, hD⟩, hS.F ht⟩) hS.2.2 d_W_isPair_168
      · have hw := hwf c_5
        obtain ⟨hwt, hwf⟩ := hw
        by_cases c_7 : p0 = 38
        · have hw := hwt c_7
          refine lv_lookup (off := 139) (tgt := 140) hx hb d_W_isPair_1 (by decide) (by rw [c_7]; decide) (by decide) ?_
          refine lv_iload_n hx hb d_W_isPair_140 rfl (lv_at hl 1 rfl) ?_
          refine lv_iload_n hx hb d_W_isPair_141 rfl (lv_at hl 0 rfl) ?_
          obtain ⟨hwt, hwf⟩ := hw
          refine lv_icmp_eq (tgt := 151) hx hb d_W_isPair_142 (by decide) (fun c_8 => ?_) (fun c_8 => ?_)
          · have hw := hwt c_8
            refine lv_iconst (v := 1) hx hb d_W_isPair_151 (by decide) ?_
            refine lv_goto (tgt := 156) hx hb d_W_isPair_152 (by decide) ?_
            exact W.zret (v := 1) hx hb hr (by decide) (fun t ht hW => ⟨⟨1, (), rfl, hw, by rw [ht]; exact hP, va_K.moved hW.alike hK, hD⟩, hS.F ht⟩) hS.2.2 d_W_isPair_156
          · have hw := hwf c_8
            refine lv_iload_n hx hb d_W_isPair_145 rfl (lv_at hl 1 rfl) ?_
            refine lv_bipush (v := 61) hx hb d_W_isPair_146 (by decide) ?_
            obtain ⟨hwt, hwf⟩ := hw
            refine lv_icmp_ne (tgt := 155) hx hb d_W_isPair_148 (by decide) (fun c_9 => ?_) (fun c_9 => ?_)
            · have hw := hwf c_9
              refine lv_iconst (v := 0) hx hb d_W_isPair_155 (by decide) ?_
              exact W.zret (v := 0) hx hb hr (by decide) (fun t ht hW => ⟨⟨0, (), rfl, hw, by rw [ht]; exact hP, va_K.moved hW.alike hK, hD⟩, hS.F ht⟩) hS.2.2 d_W_isPair_156
            · have hw := hwt c_9
              refine lv_iconst (v := 1) hx hb d_W_isPair_151 (by decide) ?_
              refine lv_goto (tgt := 156) hx hb d_W_isPair_152 (by decide) ?_
              exact W.zret (v := 1) hx hb hr (by decide) (fun t ht hW => ⟨⟨1, (), rfl, hw, by rw [ht]; exact hP, va_K.moved hW.alike hK, hD⟩, hS.F ht⟩) hS.2.2 d_W_isPair_156
        · have hw := hwf c_7
          obtain ⟨hwt, hwf⟩ := hw
          by_cases c_10 : p0 = 42
          · have hw := hwt c_10
            refine lv_lookup (off := 156) (tgt := 157) hx hb d_W_isPair_1 (by decide) (by rw [c_10]; decide) (by decide) ?_
            refine lv_iload_n hx hb d_W_isPair_157 rfl (lv_at hl 1 rfl) ?_
            refine lv_bipush (v := 61) hx hb d_W_isPair_158 (by decide) ?_
            obtain ⟨hwt, hwf⟩ := hw
            refine lv_icmp_ne (tgt := 167) hx hb d_W_isPair_160 (by decide) (fun c_11 => ?_) (fun c_11 => ?_)
            · have hw := hwf c_11
              refine lv_iconst (v := 0) hx hb d_W_isPair_167 (by decide) ?_
              exact W.zret (v := 0) hx hb hr (by decide) (fun t ht hW => ⟨⟨0, (), rfl, hw, by rw [ht]; exact hP, va_K.moved hW.alike hK, hD⟩, hS.F ht⟩) hS.2.2 d_W_isPair_168
            · have hw := hwt c_11
              refine lv_iconst (v := 1) hx hb d_W_isPair_163 (by decide) ?_
              refine lv_goto (tgt := 168) hx hb d_W_isPair_164 (by decide) ?_
              exact W.zret (v := 1) hx hb hr (by decide) (fun t ht hW => ⟨⟨1, (), rfl, hw, by rw [ht]; exact hP, va_K.moved hW.alike hK, hD⟩, hS.F ht⟩) hS.2.2 d_W_isPair_168
          · have hw := hwf c_10
            obtain ⟨hwt, hwf⟩ := hw
            by_cases c_12 : p0 = 43
            · have hw := hwt c_12
              refine lv_lookup (off := 139) (tgt := 140) hx hb d_W_isPair_1 (by decide) (by rw [c_12]; decide) (by decide) ?_
              refine lv_iload_n hx hb d_W_isPair_140 rfl (lv_at hl 1 rfl) ?_
              refine lv_iload_n hx hb d_W_isPair_141 rfl (lv_at hl 0 rfl) ?_
              obtain ⟨hwt, hwf⟩ := hw
              refine lv_icmp_eq (tgt := 151) hx hb d_W_isPair_142 (by decide) (fun c_13 => ?_) (fun c_13 => ?_)
              · have hw := hwt c_13
                refine lv_iconst (v := 1) hx hb d_W_isPair_151 (by decide) ?_
                refine lv_goto (tgt := 156) hx hb d_W_isPair_152 (by decide) ?_
                exact W.zret (v := 1) hx hb hr (by decide) (fun t ht hW => ⟨⟨1, (), rfl, hw, by rw [ht]; exact hP, va_K.moved hW.alike hK, hD⟩, hS.F ht⟩) hS.2.2 d_W_isPair_156
              · have hw := hwf c_13
                refine lv_iload_n hx hb d_W_isPair_145 rfl (lv_at hl 1 rfl) ?_
                refine lv_bipush (v := 61) hx hb d_W_isPair_146 (by decide) ?_
                obtain ⟨hwt, hwf⟩ := hw
                refine lv_icmp_ne (tgt := 155) hx hb d_W_isPair_148 (by decide) (fun c_14 => ?_) (fun c_14 => ?_)
                · have hw := hwf c_14
                  refine lv_iconst (v := 0) hx hb d_W_isPair_155 (by decide) ?_
                  exact W.zret (v := 0) hx hb hr (by decide) (fun t ht hW => ⟨⟨0, (), rfl, hw, by rw [ht]; exact hP, va_K.moved hW.alike hK, hD⟩, hS.F ht⟩) hS.2.2 d_W_isPair_156
                · have hw := hwt c_14
                  refine lv_iconst (v := 1) hx hb d_W_isPair_151 (by decide) ?_
                  refine lv_goto (tgt := 156) hx hb d_W_isPair_152 (by decide) ?_
                  exact W.zret (v := 1) hx hb hr (by decide) (fun t ht hW => ⟨⟨1, (), rfl, hw, by rw [ht]; exact hP, va_K.moved hW.alike hK, hD⟩, hS.F ht⟩) hS.2.2 d_W_isPair_156
            · have hw := hwf c_12
              obtain ⟨hwt, hwf⟩ := hw
              by_cases c_15 : p0 = 45
              · have hw := hwt c_15
                refine lv_lookup (off := 115) (tgt := 116) hx hb d_W_isPair_1 (by decide) (by rw [c_15]; decide) (by decide) ?_
                refine lv_iload_n hx hb d_W_isPair_116 rfl (lv_at hl 1 rfl) ?_
                refine lv_bipush (v := 62) hx hb d_W_isPair_117 (by decide) ?_
                obtain ⟨hwt, hwf⟩ := hw
                refine lv_icmp_eq (tgt := 134) hx hb d_W_isPair_119 (by decide) (fun c_16 => ?_) (fun c_16 => ?_)
                · have hw := hwt c_16
                  refine lv_iconst (v := 1) hx hb d_W_isPair_134 (by decide) ?_
                  refine lv_goto (tgt := 139) hx hb d_W_isPair_135 (by decide) ?_
                  exact W.zret (v := 1) hx hb hr (by decide) (fun t ht hW => ⟨⟨1, (), rfl, hw, by rw [ht]; exact hP, va_K.moved hW.alike hK, hD⟩, hS.F ht⟩) hS.2.2 d_W_isPair_139
                · have hw := hwf c_16
                  refine lv_iload_n hx hb d_W_isPair_122 rfl (lv_at hl 1 rfl) ?_
                  refine lv_bipush (v := 45) hx hb d_W_isPair_123 (by decide) ?_
                  obtain ⟨hwt, hwf⟩ := hw
                  refine lv_icmp_eq (tgt := 134) hx hb d_W_isPair_125 (by decide) (fun c_17 => ?_) (fun c_17 => ?_)
                  · have hw := hwt c_17
                    refine lv_iconst (v := 1) hx hb d_W_isPair_134 (by decide) ?_
                    refine lv_goto (tgt := 139) hx hb d_W_isPair_135 (by decide) ?_
                    exact W.zret (v := 1) hx hb hr (by decide) (fun t ht hW => ⟨⟨1, (), rfl, hw, by rw [ht]; exact hP, va_K.moved hW.alike hK, hD⟩, hS.F ht⟩) hS.2.2 d_W_isPair_139
                  · have hw := hwf c_17
                    refine lv_iload_n hx hb d_W_isPair_128 rfl (lv_at hl 1 rfl) ?_
                    refine lv_bipush (v := 61) hx hb d_W_isPair_129 (by decide) ?_
                    obtain ⟨hwt, hwf⟩ := hw
                    refine lv_icmp_ne (tgt := 138) hx hb d_W_isPair_131 (by decide) (fun c_18 => ?_) (fun c_18 => ?_)
                    · have hw := hwf c_18
                      refine lv_iconst (v := 0) hx hb d_W_isPair_138 (by decide) ?_
                      exact W.zret (v := 0) hx hb hr (by decide) (fun t ht hW => ⟨⟨0, (), rfl, hw, by rw [ht]; exact hP, va_K.moved hW.alike hK, hD⟩, hS.F ht⟩) hS.2.2 d_W_isPair_139
                    · have hw := hwt c_18
                      refine lv_iconst (v := 1) hx hb d_W_isPair_134 (by decide) ?_
                      refine lv_goto (tgt := 139) hx hb d_W_isPair_135 (by decide) ?_
                      exact W.zret (v := 1) hx hb hr (by decide) (fun t ht hW => ⟨⟨1, (), rfl, hw, by rw [ht]; exact hP, va_K.moved hW.alike hK, hD⟩, hS.F ht⟩) hS.2.2 d_W_isPair_139
              · have hw := hwf c_15
                obtain ⟨hwt, hwf⟩ := hw
                by_cases c_19 : p0 = 47
                · have hw := hwt c_19
                  refine lv_lookup (off := 156) (tgt := 157) hx hb d_W_isPair_1 (by decide) (by rw [c_19]; decide) (by decide) ?_
                  refine lv_iload_n hx hb d_W_isPair_157 rfl (lv_at hl 1 rfl) ?_
                  refine lv_bipush (v := 61) hx hb d_W_isPair_158 (by decide) ?_
                  obtain ⟨hwt, hwf⟩ := hw
                  refine lv_icmp_ne (tgt := 167) hx hb d_W_isPair_160 (by decide) (fun c_20 => ?_) (fun c_20 => ?_)
                  · have hw := hwf c_20
                    refine lv_iconst (v := 0) hx hb d_W_isPair_167 (by decide) ?_
                    exact W.zret (v := 0) hx hb hr (by decide) (fun t ht hW => ⟨⟨0, (), rfl, hw, by rw [ht]; exact hP, va_K.moved hW.alike hK, hD⟩, hS.F ht⟩) hS.2.2 d_W_isPair_168
                  · have hw := hwt c_20
                    refine lv_iconst (v := 1) hx hb d_W_isPair_163 (by decide) ?_
                    refine lv_goto (tgt := 168) hx hb d_W_isPair_164 (by decide) ?_
                    exact W.zret (v := 1) hx hb hr (by decide) (fun t ht hW => ⟨⟨1, (), rfl, hw, by rw [ht]; exact hP, va_K.moved hW.alike hK, hD⟩, hS.F ht⟩) hS.2.2 d_W_isPair_168
                · have hw := hwf c_19
                  obtain ⟨hwt, hwf⟩ := hw
                  by_cases c_21 : p0 = 60
                  · have hw := hwt c_21
                    refine lv_lookup (off := 139) (tgt := 140) hx hb d_W_isPair_1 (by decide) (by rw [c_21]; decide) (by decide) ?_
                    refine lv_iload_n hx hb d_W_isPair_140 rfl (lv_at hl 1 rfl) ?_
                    refine lv_iload_n hx hb d_W_isPair_141 rfl (lv_at hl 0 rfl) ?_
                    obtain ⟨hwt, hwf⟩ := hw
                    refine lv_icmp_eq (tgt := 151) hx hb d_W_isPair_142 (by decide) (fun c_22 => ?_) (fun c_22 => ?_)
                    · have hw := hwt c_22
                      refine lv_iconst (v := 1) hx hb d_W_isPair_151 (by decide) ?_
                      refine lv_goto (tgt := 156) hx hb d_W_isPair_152 (by decide) ?_
                      exact W.zret (v := 1) hx hb hr (by decide) (fun t ht hW => ⟨⟨1, (), rfl, hw, by rw [ht]; exact hP, va_K.moved hW.alike hK, hD⟩, hS.F ht⟩) hS.2.2 d_W_isPair_156
                    · have hw := hwf c_22
                      refine lv_iload_n hx hb d_W_isPair_145 rfl (lv_at hl 1 rfl) ?_
                      refine lv_bipush (v := 61) hx hb d_W_isPair_146 (by decide) ?_
                      obtain ⟨hwt, hwf⟩ := hw
                      refine lv_icmp_ne (tgt := 155) hx hb d_W_isPair_148 (by decide) (fun c_23 => ?_) (fun c_23 => ?_)
                      · have hw := hwf c_23
                        refine lv_iconst (v := 0) hx hb d_W_isPair_155 (by decide) ?_
                        exact W.zret (v := 0) hx hb hr (by decide) (fun t ht hW => ⟨⟨0, (), rfl, hw, by rw [ht]; exact hP, va_K.moved hW.alike hK, hD⟩, hS.F ht⟩) hS.2.2 d_W_isPair_156
                      · have hw := hwt c_23
                        refine lv_iconst (v := 1) hx hb d_W_isPair_151 (by decide) ?_
                        refine lv_goto (tgt := 156) hx hb d_W_isPair_152 (by decide) ?_
                        exact W.zret (v := 1) hx hb hr (by decide) (fun t ht hW => ⟨⟨1, (), rfl, hw, by rw [ht]; exact hP, va_K.moved hW.alike hK, hD⟩, hS.F ht⟩) hS.2.2 d_W_isPair_156
                  · have hw := hwf c_21
                    obtain ⟨hwt, hwf⟩ := hw
                    by_cases c_24 : p0 = 61
                    · have hw := hwt c_24
                      refine lv_lookup (off := 156) (tgt := 157) hx hb d_W_isPair_1 (by decide) (by rw [c_24]; decide) (by decide) ?_
                      refine lv_iload_n hx hb d_W_isPair_157 rfl (lv_at hl 1 rfl) ?_
                      refine lv_bipush (v := 61) hx hb d_W_isPair_158 (by decide) ?_
                      obtain ⟨hwt, hwf⟩ := hw
                      refine lv_icmp_ne (tgt := 167) hx hb d_W_isPair_160 (by decide) (fun c_25 => ?_) (fun c_25 => ?_)
                      · have hw := hwf c_25
                        refine lv_iconst (v := 0) hx hb d_W_isPair_167 (by decide) ?_
                        exact W.zret (v := 0) hx hb hr (by decide) (fun t ht hW => ⟨⟨0, (), rfl, hw, by rw [ht]; exact hP, va_K.moved hW.alike hK, hD⟩, hS.F ht⟩) hS.2.2 d_W_isPair_168
                      · have hw := hwt c_25
                        refine lv_iconst (v := 1) hx hb d_W_isPair_163 (by decide) ?_
                        refine lv_goto (tgt := 168) hx hb d_W_isPair_164 (by decide) ?_
                        exact W.zret (v := 1) hx hb hr (by decide) (fun t ht hW => ⟨⟨1, (), rfl, hw, by rw [ht]; exact hP, va_K.moved hW.alike hK, hD⟩, hS.F ht⟩) hS.2.2 d_W_isPair_168
                    · have hw := hwf c_24
                      obtain ⟨hwt, hwf⟩ := hw
                      by_cases c_26 : p0 = 62
                      · have hw := hwt c_26
                        refine lv_lookup (off := 139) (tgt := 140) hx hb d_W_isPair_1 (by decide) (by rw [c_26]; decide) (by decide) ?_
                        refine lv_iload_n hx hb d_W_isPair_140 rfl (lv_at hl 1 rfl) ?_
                        refine lv_iload_n hx hb d_W_isPair_141 rfl (lv_at hl 0 rfl) ?_
                        obtain ⟨hwt, hwf⟩ := hw
                        refine lv_icmp_eq (tgt := 151) hx hb d_W_isPair_142 (by decide) (fun c_27 => ?_) (fun c_27 => ?_)
                        · have hw := hwt c_27
                          refine lv_iconst (v := 1) hx hb d_W_isPair_151 (by decide) ?_
                          refine lv_goto (tgt := 156) hx hb d_W_isPair_152 (by decide) ?_
                          exact W.zret (v := 1) hx hb hr (by decide) (fun t ht hW => ⟨⟨1, (), rfl, hw, by rw [ht]; exact hP, va_K.moved hW.alike hK, hD⟩, hS.F ht⟩) hS.2.2 d_W_isPair_156
                        · have hw := hwf c_27
                          refine lv_iload_n hx hb d_W_isPair_145 rfl (lv_at hl 1 rfl) ?_
                          refine lv_bipush (v := 61) hx hb d_W_isPair_146 (by decide) ?_
                          obtain ⟨hwt, hwf⟩ := hw
                          refine lv_icmp_ne (tgt := 155) hx hb d_W_isPair_148 (by decide) (fun c_28 => ?_) (fun c_28 => ?_)
                          · have hw := hwf c_28
                            refine lv_iconst (v := 0) hx hb d_W_isPair_155 (by decide) ?_
                            exact W.zret (v := 0) hx hb hr (by decide) (fun t ht hW => ⟨⟨0, (), rfl, hw, by rw [ht]; exact hP, va_K.moved hW.alike hK, hD⟩, hS.F ht⟩) hS.2.2 d_W_isPair_156
                          · have hw := hwt c_28
                            refine lv_iconst (v := 1) hx hb d_W_isPair_151 (by decide) ?_
                            refine lv_goto (tgt := 156) hx hb d_W_isPair_152 (by decide) ?_
                            exact W.zret (v := 1) hx hb hr (by decide) (fun t ht hW => ⟨⟨1, (), rfl, hw, by rw [ht]; exact hP, va_K.moved hW.alike hK, hD⟩, hS.F ht⟩) hS.2.2 d_W_isPair_156
                      · have hw := hwf c_26
                        obtain ⟨hwt, hwf⟩ := hw
                        by_cases c_29 : p0 = 94
                        · have hw := hwt c_29
                          refine lv_lookup (off := 156) (tgt := 157) hx hb d_W_isPair_1 (by decide) (by rw [c_29]; decide) (by decide) ?_
                          refine lv_iload_n hx hb d_W_isPair_157 rfl (lv_at hl 1 rfl) ?_
                          refine lv_bipush (v := 61) hx hb d_W_isPair_158 (by decide) ?_
                          obtain ⟨hwt, hwf⟩ := hw
                          refine lv_icmp_ne (tgt := 167) hx hb d_W_isPair_160 (by decide) (fun c_30 => ?_) (fun c_30 => ?_)
                          · have hw := hwf c_30
                            refine lv_iconst (v := 0) hx hb d_W_isPair_167 (by decide) ?_
                            exact W.zret (v := 0) hx hb hr (by decide) (fun t ht hW => ⟨⟨0, (), rfl, hw, by rw [ht]; exact hP, va_K.moved hW.alike hK, hD⟩, hS.F ht⟩) hS.2.2 d_W_isPair_168
                          · have hw := hwt c_30
                            refine lv_iconst (v := 1) hx hb d_W_isPair_163 (by decide) ?_
                            refine lv_goto (tgt := 168) hx hb d_W_isPair_164 (by decide) ?_
                            exact W.zret (v := 1) hx hb hr (by decide) (fun t ht hW => ⟨⟨1, (), rfl, hw, by rw [ht]; exact hP, va_K.moved hW.alike hK, hD⟩, hS.F ht⟩) hS.2.2 d_W_isPair_168
                        · have hw := hwf c_29
                          obtain ⟨hwt, hwf⟩ := hw
                          by_cases c_31 : p0 = 124
                          · have hw := hwt c_31
                            refine lv_lookup (off := 139) (tgt := 140) hx hb d_W_isPair_1 (by decide) (by rw [c_31]; decide) (by decide) ?_
                            refine lv_iload_n hx hb d_W_isPair_140 rfl (lv_at hl 1 rfl) ?_
                            refine lv_iload_n hx hb d_W_isPair_141 rfl (lv_at hl 0 rfl) ?_
                            obtain ⟨hwt, hwf⟩ := hw
                            refine lv_icmp_eq (tgt := 151) hx hb d_W_isPair_142 (by decide) (fun c_32 => ?_) (fun c_32 => ?_)
                            · have hw := hwt c_32
                              refine lv_iconst (v := 1) hx hb d_W_isPair_151 (by decide) ?_
                              refine lv_goto (tgt := 156) hx hb d_W_isPair_152 (by decide) ?_
                              exact W.zret (v := 1) hx hb hr (by decide) (fun t ht hW => ⟨⟨1, (), rfl, hw, by rw [ht]; exact hP, va_K.moved hW.alike hK, hD⟩, hS.F ht⟩) hS.2.2 d_W_isPair_156
                            · have hw := hwf c_32
                              refine lv_iload_n hx hb d_W_isPair_145 rfl (lv_at hl 1 rfl) ?_
                              refine lv_bipush (v := 61) hx hb d_W_isPair_146 (by decide) ?_
                              obtain ⟨hwt, hwf⟩ := hw
                              refine lv_icmp_ne (tgt := 155) hx hb d_W_isPair_148 (by decide) (fun c_33 => ?_) (fun c_33 => ?_)
                              · have hw := hwf c_33
                                refine lv_iconst (v := 0) hx hb d_W_isPair_155 (by decide) ?_
                                exact W.zret (v := 0) hx hb hr (by decide) (fun t ht hW => ⟨⟨0, (), rfl, hw, by rw [ht]; exact hP, va_K.moved hW.alike hK, hD⟩, hS.F ht⟩) hS.2.2 d_W_isPair_156
                              · have hw := hwt c_33
                                refine lv_iconst (v := 1) hx hb d_W_isPair_151 (by decide) ?_
                                refine lv_goto (tgt := 156) hx hb d_W_isPair_152 (by decide) ?_
                                exact W.zret (v := 1) hx hb hr (by decide) (fun t ht hW => ⟨⟨1, (), rfl, hw, by rw [ht]; exact hP, va_K.moved hW.alike hK, hD⟩, hS.F ht⟩) hS.2.2 d_W_isPair_156
                          · have hw := hwf c_31
                            refine lv_lookup (off := 180) (tgt := 181) hx hb d_W_isPair_1 (by decide) (by show Op.lookupswitch.offset _ _ _ = _; rw [lv_osw c_1 (show (33 : Int32).toInt = 33 from rfl), lv_osw c_3 (show (35 : Int32).toInt = 35 from rfl), lv_osw c_5 (show (37 : Int32).toInt = 37 from rfl), lv_osw c_7 (show (38 : Int32).toInt = 38 from rfl), lv_osw c_10 (show (42 : Int32).toInt = 42 from rfl), lv_osw c_12 (show (43 : Int32).toInt = 43 from rfl), lv_osw c_15 (show (45 : Int32).toInt = 45 from rfl), lv_osw c_19 (show (47 : Int32).toInt = 47 from rfl), lv_osw c_21 (show (60 : Int32).toInt = 60 from rfl), lv_osw c_24 (show (61 : Int32).toInt = 61 from rfl), lv_osw c_26 (show (62 : Int32).toInt = 62 from rfl), lv_osw c_29 (show (94 : Int32).toInt = 94 from rfl), lv_osw c_31 (show (124 : Int32).toInt = 124 from rfl)]; rfl) (by decide) ?_
                            refine lv_iconst (v := 0) hx hb d_W_isPair_181 (by decide) ?_
                            exact W.zret (v := 0) hx hb hr (by decide) (fun t ht hW => ⟨⟨0, (), rfl, hw, by rw [ht]; exact hP, va_K.moved hW.alike hK, hD⟩, hS.F ht⟩) hS.2.2 d_W_isPair_182
def f_W_isPair (p0 : Int32) (p1 : Int32) : Int32 := (if p0 = 33 then (if p1 = 61 then 1 else 0) else (if p0 = 35 then (if p1 = 35 then 1 else 0) else (if p0 = 37 then (if p1 = 61 then 1 else 0) else (if p0 = 38 then (if p1 = p0 then 1 else (if p1 = 61 then 1 else 0)) else (if p0 = 42 then (if p1 = 61 then 1 else 0) else (if p0 = 43 then (if p1 = p0 then 1 else (if p1 = 61 then 1 else 0)) else (if p0 = 45 then (if p1 = 62 then 1 else (if p1 = 45 then 1 else (if p1 = 61 then 1 else 0))) else (if p0 = 47 then (if p1 = 61 then 1 else 0) else (if p0 = 60 then (if p1 = p0 then 1 else (if p1 = 61 then 1 else 0)) else (if p0 = 61 then (if p1 = 61 then 1 else 0) else (if p0 = 62 then (if p1 = p0 then 1 else (if p1 = 61 then 1 else 0)) else (if p0 = 94 then (if p1 = 61 then 1 else 0) else (if p0 = 124 then (if p1 = p0 then 1 else (if p1 = 61 then 1 else 0)) else 0)))))))))))))
theorem q_W_isPair {post : Int32 → Prop} {p0 : Int32} {p1 : Int32} (h : post (f_W_isPair p0 p1)) : wp_W_isPair post p0 p1 := by
  unfold wp_W_isPair
  refine br_c (fun c1 => ?_) (fun c1 => ?_)
  · refine br_c (fun c2 => ?_) (fun c2 => ?_)
    · rw [f_W_isPair, if_pos c1, if_pos c2] at h; exact h
    · rw [f_W_isPair, if_pos c1, if_neg c2] at h; exact h
  · refine br_c (fun c3 => ?_) (fun c3 => ?_)
    · refine br_c (fun c4 => ?_) (fun c4 => ?_)
      · rw [f_W_isPair, if_neg c1, if_pos c3, if_pos c4] at h; exact h
      · rw [f_W_isPair, if_neg c1, if_pos c3, if_neg c4] at h; exact h
    · refine br_c (fun c5 => ?_) (fun c5 => ?_)
      · refine br_c (fun c6 => ?_) (fun c6 => ?_)
        · rw [f_W_isPair, if_neg c1, if_neg c3, if_pos c5, if_pos c6] at h; exact h
        · rw [f_W_isPair, if_neg c1, if_neg c3, if_pos c5, if_neg c6] at h; exact h
      · refine br_c (fun c7 => ?_) (fun c7 => ?_)
        · refine br_c (fun c8 => ?_) (fun c8 => ?_)
          · rw [f_W_isPair, if_neg c1, if_neg c3, if_neg c5, if_pos c7, if_pos c8] at h; exact h
          · refine br_c (fun c9 => ?_) (fun c9 => ?_)
            · rw [f_W_isPair, if_neg c1, if_neg c3, if_neg c5, if_pos c7, if_neg c8, if_pos c9] at h; exact h
            · rw [f_W_isPair, if_neg c1, if_neg c3, if_neg c5, if_pos c7, if_neg c8, if_neg c9] at h; exact h
        · refine br_c (fun c10 => ?_) (fun c10 => ?_)
          · refine br_c (fun c11 => ?_) (fun c11 => ?_)
            · rw [f_W_isPair, if_neg c1, if_neg c3, if_neg c5, if_neg c7, if_pos c10, if_pos c11] at h; exact h
            · rw [f_W_isPair, if_neg c1, if_neg c3, if_neg c5, if_neg c7, if_pos c10, if_neg c11] at h; exact h
          · refine br_c (fun c12 => ?_) (fun c12 => ?_)
            · refine br_c (fun c13 => ?_) (fun c13 => ?_)
              · rw [f_W_isPair, if_neg c1, if_neg c3, if_neg c5, if_neg c7, if_neg c10, if_pos c12, if_pos c13] at h; exact h
              · refine br_c (fun c14 => ?_) (fun c14 => ?_)
                · rw [f_W_isPair, if_neg c1, if_neg c3, if_neg c5, if_neg c7, if_neg c10, if_pos c12, if_neg c13, if_pos c14] at h; exact h
                · rw [f_W_isPair, if_neg c1, if_neg c3, if_neg c5, if_neg c7, if_neg c10, if_pos c12, if_neg c13, if_neg c14] at h; exact h
            · refine br_c (fun c15 => ?_) (fun c15 => ?_)
              · refine br_c (fun c16 => ?_) (fun c16 => ?_)
                · rw [f_W_isPair, if_neg c1, if_neg c3, if_neg c5, if_neg c7, if_neg c10, if_neg c12, if_pos c15, if_pos c16] at h; exact h
                · refine br_c (fun c17 => ?_) (fun c17 => ?_)
                  · rw [f_W_isPair, if_neg c1, if_neg c3, if_neg c5, if_neg c7, if_neg c10, if_neg c12, if_pos c15, if_neg c16, if_pos c17] at h; exact h
                  · refine br_c (fun c18 => ?_) (fun c18 => ?_)
                    · rw [f_W_isPair, if_neg c1, if_neg c3, if_neg c5, if_neg c7, if_neg c10, if_neg c12, if_pos c15, if_neg c16, if_neg c17, if_pos c18] at h; exact h
                    · rw [f_W_isPair, if_neg c1, if_neg c3, if_neg c5, if_neg c7, if_neg c10, if_neg c12, if_pos c15, if_neg c16, if_neg c17, if_neg c18] at h; exact h
              · refine br_c (fun c19 => ?_) (fun c19 => ?_)
                · refine br_c (fun c20 => ?_) (fun c20 => ?_)
                  · rw [f_W_isPair, if_neg c1, if_neg c3, if_neg c5, if_neg c7, if_neg c10, if_neg c12, if_neg c15, if_pos c19, if_pos c20] at h; exact h
                  · rw [f_W_isPair, if_neg c1, if_neg c3, if_neg c5, if_neg c7, if_neg c10, if_neg c12, if_neg c15, if_pos c19, if_neg c20] at h; exact h
                · refine br_c (fun c21 => ?_) (fun c21 => ?_)
                  · refine br_c (fun c22 => ?_) (fun c22 => ?_)
                    · rw [f_W_isPair, if_neg c1, if_neg c3, if_neg c5, if_neg c7, if_neg c10, if_neg c12, if_neg c15, if_neg c19, if_pos c21, if_pos c22] at h; exact h
                    · refine br_c (fun c23 => ?_) (fun c23 => ?_)
                      · rw [f_W_isPair, if_neg c1, if_neg c3, if_neg c5, if_neg c7, if_neg c10, if_neg c12, if_neg c15, if_neg c19, if_pos c21, if_neg c22, if_pos c23] at h; exact h
                      · rw [f_W_isPair, if_neg c1, if_neg c3, if_neg c5, if_neg c7, if_neg c10, if_neg c12, if_neg c15, if_neg c19, if_pos c21, if_neg c22, if_neg c23] at h; exact h
                  · refine br_c (fun c24 => ?_) (fun c24 => ?_)
                    · refine br_c (fun c25 => ?_) (fun c25 => ?_)
                      · rw [f_W_isPair, if_neg c1, if_neg c3, if_neg c5, if_neg c7, if_neg c10, if_neg c12, if_neg c15, if_neg c19, if_neg c21, if_pos c24, if_pos c25] at h; exact h
                      · rw [f_W_isPair, if_neg c1, if_neg c3, if_neg c5, if_neg c7, if_neg c10, if_neg c12, if_neg c15, if_neg c19, if_neg c21, if_pos c24, if_neg c25] at h; exact h
                    · refine br_c (fun c26 => ?_) (fun c26 => ?_)
                      · refine br_c (fun c27 => ?_) (fun c27 => ?_)
                        · rw [f_W_isPair, if_neg c1, if_neg c3, if_neg c5, if_neg c7, if_neg c10, if_neg c12, if_neg c15, if_neg c19, if_neg c21, if_neg c24, if_pos c26, if_pos c27] at h; exact h
                        · refine br_c (fun c28 => ?_) (fun c28 => ?_)
                          · rw [f_W_isPair, if_neg c1, if_neg c3, if_neg c5, if_neg c7, if_neg c10, if_neg c12, if_neg c15, if_neg c19, if_neg c21, if_neg c24, if_pos c26, if_neg c27, if_pos c28] at h; exact h
                          · rw [f_W_isPair, if_neg c1, if_neg c3, if_neg c5, if_neg c7, if_neg c10, if_neg c12, if_neg c15, if_neg c19, if_neg c21, if_neg c24, if_pos c26, if_neg c27, if_neg c28] at h; exact h
                      · refine br_c (fun c29 => ?_) (fun c29 => ?_)
                        · refine br_c (fun c30 => ?_) (fun c30 => ?_)
                          · rw [f_W_isPair, if_neg c1, if_neg c3, if_neg c5, if_neg c7, if_neg c10, if_neg c12, if_neg c15, if_neg c19, if_neg c21, if_neg c24, if_neg c26, if_pos c29, if_pos c30] at h; exact h
                          · rw [f_W_isPair, if_neg c1, if_neg c3, if_neg c5, if_neg c7, if_neg c10, if_neg c12, if_neg c15, if_neg c19, if_neg c21, if_neg c24, if_neg c26, if_pos c29, if_neg c30] at h; exact h
                        · refine br_c (fun c31 => ?_) (fun c31 => ?_)
                          · refine br_c (fun c32 => ?_) (fun c32 => ?_)
                            · rw [f_W_isPair, if_neg c1, if_neg c3, if_neg c5, if_neg c7, if_neg c10, if_neg c12, if_neg c15, if_neg c19, if_neg c21, if_neg c24, if_neg c26, if_neg c29, if_pos c31, if_pos c32] at h; exact h
                            · refine br_c (fun c33 => ?_) (fun c33 => ?_)
                              · rw [f_W_isPair, if_neg c1, if_neg c3, if_neg c5, if_neg c7, if_neg c10, if_neg c12, if_neg c15, if_neg c19, if_neg c21, if_neg c24, if_neg c26, if_neg c29, if_pos c31, if_neg c32, if_pos c33] at h; exact h
                              · rw [f_W_isPair, if_neg c1, if_neg c3, if_neg c5, if_neg c7, if_neg c10, if_neg c12, if_neg c15, if_neg c19, if_neg c21, if_neg c24, if_neg c26, if_neg c29, if_pos c31, if_neg c32, if_neg c33] at h; exact h
                          · rw [f_W_isPair, if_neg c1, if_neg c3, if_neg c5, if_neg c7, if_neg c10, if_neg c12, if_neg c15, if_neg c19, if_neg c21, if_neg c24, if_neg c26, if_neg c29, if_neg c31] at h; exact h

abbrev wd_W_restart (ad : Nat → Nat) (ck : Nat → ClassId) (start : Int32) (fin : Int32) (kind : Int32) (oT : Int32) (oC : Int32) : va_W := [(ad 3, .inr (3, [.ref (ad 1), .int start, .int fin, .int kind, .int oT, .int oC]))]
def wp_W_restart (post : Int32 → Int32 → Int32 → Int32 → Int32 → Prop) (start : Int32) (fin : Int32) (kind : Int32) (oT : Int32) (oC : Int32)  : Prop := post 0 0 6 0 0
set_option maxHeartbeats 4000000 in
set_option maxRecDepth 100000 in
theorem kc_W_restart (l : Launch) (dC : Nat → ClassId) (dI : Nat → Nat → Nat) (ad : Nat → Nat) (ck : Nat → ClassId) (start : Int32) (fin : Int32) (kind : Int32) (oT : Int32) (oC : Int32)  {post : Int32 → Int32 → Int32 → Int32 → Int32 → Prop} (hw : wp_W_restart post start fin kind oT oC ) : k_Cv l y_W_restart ws_W_restart ({ frames := 0, cells := 0, slots := 0, locals := 0 } : Room) (dC, dI) vwCl (TYm ck) k_x0 [.ref (ad 3)] (wd_W_restart ad ck start fin kind oT oC) (fun (u : Int32 × Int32 × Int32 × Int32 × Int32) => post u.1 u.2.1 u.2.2.1 u.2.2.2.1 u.2.2.2.2) (fun (u : Int32 × Int32 × Int32 × Int32 × Int32) => wd_W_restart ad ck u.1 u.2.1 u.2.2.1 u.2.2.2.1 u.2.2.2.2) := by
  intro sz
  refine Met.ofW (cc := c_W_restart) (maxL := 1) (ret := none) (by decide) rfl ?_
  intro p e s m args below meth c s₁ B hml hv
  obtain ⟨rfl, hsz, hP, hK, hD0, hX⟩ := hv
  have hx := B.exec
  have hb := B.bytes
  have hr := B.returns
  have hts : ∀ w ∈ TB, w.before _ s = true := fun w h => atoms_spec (ws := ws_W_restart) B.pre w (List.mem_cons_of_mem _ h)
  have hown : s.vm.findClass R_W = some m.cls := findClass_of_methodNamed B.named
  have hlocks := B.notSynchronized
  subst hsz
  have hD := hD0.self (sz := s.heap.size)
  generalize hAe : va_A (wd_W_restart ad ck start fin kind oT oC) s.heap.size = A at hD hX ⊢
  have hA : ∀ q : Nat, s.heap.size ≤ q → A q := fun q h => by rw [← hAe]; exact Or.inr h
  have hS : va_S A s.heap s.heap [] := va_S.rf
  have hP : va_P (dC, dI) vwCl (wd_W_restart ad ck start fin kind oT oC) s.heap := hP
  have hl := lv_entry ([.ref (ad 3)]) (n := 1) (Nat.le_of_ble_eq_true rfl)
  rw [lg_entry_eq]
  generalize (lg_sl ([.ref (ad 3)]) ++ List.replicate (1 - (lg_sl ([.ref (ad 3)])).length) Slot.unset).toArray = ls at hl ⊢
  have hl : lv_has ls 1 [(0, .ref (ad 3))] := hl
  refine lv_aload_n hx hb d_W_restart_0 rfl (lv_at hl 0 rfl) ?_
  refine lv_iconst (v := 0) hx hb d_W_restart_1 (by decide) ?_
  refine va_put (D := (dC, dI)) (ci := 3) (v := .int 0) (ty := .int) (C := R_W) (T := T_W) (N := 6) hx hb hts in_W ty_W ty_W_ok nm_W hown hK hP hD hS 0 rfl rfl 1 (by decide) (hts _ tw_11) (fun _ h9 => h9) rfl (by decide +kernel) rfl rfl (Nat.le_of_ble_eq_true rfl) d_W_restart_2 (fun H locs hP hD hS => ?_)
  have hP : va_P (dC, dI) vwCl (wd_W_restart ad ck 0 fin kind oT oC) H := hP
  have hD : va_D A (wd_W_restart ad ck 0 fin kind oT oC) := hD
  refine lv_aload_n hx hb d_W_restart_5 rfl (lv_at hl 0 rfl) ?_
  refine lv_iconst (v := 0) hx hb d_W_restart_6 (by decide) ?_
  refine va_put (D := (dC, dI)) (ci := 3) (v := .int 0) (ty := .int) (C := R_W) (T := T_W) (N := 6) hx hb hts in_W ty_W ty_W_ok nm_W hown hK hP hD hS 0 rfl rfl 2 (by decide) (hts _ tw_3) (fun _ h9 => h9) rfl (by decide +kernel) rfl rfl (Nat.le_of_ble_eq_true rfl) d_W_restart_7 (fun H locs hP hD hS => ?_)
  have hP : va_P (dC, dI) vwCl (wd_W_restart ad ck 0 0 kind oT oC) H := hP
  have hD : va_D A (wd_W_restart ad ck 0 0 kind oT oC) := hD
  refine lv_aload_n hx hb d_W_restart_10 rfl (lv_at hl 0 rfl) ?_
  refine lv_bipush (v := 6) hx hb d_W_restart_11 (by decide) ?_
  refine va_put (D := (dC, dI)) (ci := 3) (v := .int 6) (ty := .int) (C := R_W) (T := T_W) (N := 6) hx hb hts in_W ty_W ty_W_ok nm_W hown hK hP hD hS 0 rfl rfl 3 (by decide) (hts _ tw_2) (fun _ h9 => h9) rfl (by decide +kernel) rfl rfl (Nat.le_of_ble_eq_true rfl) d_W_restart_13 (fun H locs hP hD hS => ?_)
  have hP : va_P (dC, dI) vwCl (wd_W_restart ad ck 0 0 6 oT oC) H := hP
  have hD : va_D A (wd_W_restart ad ck 0 0 6 oT oC) := hD
  refine lv_aload_n hx hb d_W_restart_16 rfl (lv_at hl 0 rfl) ?_
  refine lv_iconst (v := 0) hx hb d_W_restart_17 (by decide) ?_
  refine va_put (D := (dC, dI)) (ci := 3) (v := .int 0) (ty := .int) (C := R_W) (T := T_W) (N := 6) hx hb hts in_W ty_W ty_W_ok nm_W hown hK hP hD hS 0 rfl rfl 4 (by decide) (hts _ tw_12) (fun _ h9 => h9) rfl (by decide +kernel) rfl rfl (Nat.le_of_ble_eq_true rfl) d_W_restart_18 (fun H locs hP hD hS => ?_)
  have hP : va_P (dC, dI) vwCl (wd_W_restart ad ck 0 0 6 0 oC) H := hP
  have hD : va_D A (wd_W_restart ad ck 0 0 6 0 oC) := hD
  refine lv_aload_n hx hb d_W_restart_21 rfl (lv_at hl 0 rfl) ?_
  refine lv_iconst (v := 0) hx hb d_W_restart_22 (by decide) ?_
  refine va_put (D := (dC, dI)) (ci := 3) (v := .int 0) (ty := .int) (C := R_W) (T := T_W) (N := 6) hx hb hts in_W ty_W ty_W_ok nm_W hown hK hP hD hS 0 rfl rfl 5 (by decide) (hts _ tw_13) (fun _ h9 => h9) rfl (by decide +kernel) rfl rfl (Nat.le_of_ble_eq_true rfl) d_W_restart_23 (fun H locs hP hD hS => ?_)
  have hP : va_P (dC, dI) vwCl (wd_W_restart ad ck 0 0 6 0 0) H := hP
  have hD : va_D A (wd_W_restart ad ck 0 0 6 0 0) := hD
  exact W.vret hx hb hr (fun t ht hW => ⟨⟨(0, 0, 6, 0, 0), rfl, hw, by rw [ht]; exact hP, va_K.moved hW.alike hK, hD⟩, hS.F ht⟩) hS.2.2 d_W_restart_26
