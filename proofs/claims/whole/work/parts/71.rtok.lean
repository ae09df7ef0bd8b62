abbrev wd_R_isLetter (ad : Nat → Nat) (ck : Nat → ClassId)  : va_W := []
def wp_R_isLetter (post : Int32 → Prop)  (p0 : Int32) : Prop := (p0 < 65 → ((p0 < 97 → ((p0 = 95 → (post 1)) ∧ (¬ p0 = 95 → (post 0)))) ∧ (¬ p0 < 97 → ((p0 ≤ 122 → (post 1)) ∧ (¬ p0 ≤ 122 → ((p0 = 95 → (post 1)) ∧ (¬ p0 = 95 → (post 0)))))))) ∧ (¬ p0 < 65 → ((p0 ≤ 90 → (post 1)) ∧ (¬ p0 ≤ 90 → ((p0 < 97 → ((p0 = 95 → (post 1)) ∧ (¬ p0 = 95 → (post 0)))) ∧ (¬ p0 < 97 → ((p0 ≤ 122 → (post 1)) ∧ (¬ p0 ≤ 122 → ((p0 = 95 → (post 1)) ∧ (¬ p0 = 95 → (post 0))))))))))
set_option maxHeartbeats 4000000 in
set_option maxRecDepth 100000 in
theorem kc_R_isLetter (l : Launch) (dC : Nat → ClassId) (dI : Nat → Nat → Nat) (ad : Nat → Nat) (ck : Nat → ClassId)  (p0 : Int32) {post : Int32 → Prop} (hw : wp_R_isLetter post  p0) : k_Ci l y_R_isLetter ws_R_isLetter ({ frames := 0, cells := 0, slots := 0, locals := 0 } : Room) (dC, dI) vwCl (TYr ck) k_x0 [.int p0] ([]) (fun (r : Int32) (u : Unit) => post r ) (fun (u : Unit) => []) := by
  intro sz
  refine Met.ofW (cc := c_R_isLetter) (maxL := 1) (ret := (some .boolean)) (by decide) rfl ?_
  intro p e s m args below meth c s₁ B hml hv
  obtain ⟨rfl, hsz, hP, hK, hD0, hX⟩ := hv
  have hx := B.exec
  have hb := B.bytes
  have hr := B.returns
  have hts : ∀ w ∈ TB, w.before _ s = true := fun w h => atoms_spec (ws := ws_R_isLetter) B.pre w (List.mem_cons_of_mem _ h)
  have hown : s.vm.findClass R_R = some m.cls := findClass_of_methodNamed B.named
  have hlocks := B.notSynchronized
  subst hsz
  have hD := hD0.self (sz := s.heap.size)
  generalize hAe : va_A ([]) s.heap.size = A at hD hX ⊢
  have hA : ∀ q : Nat, s.heap.size ≤ q → A q := fun q h => by rw [← hAe]; exact Or.inr h
  have hS : va_S A s.heap s.heap [] := va_S.rf
  have hP : va_P (dC, dI) vwCl ([]) s.heap := hP
  have hl := lv_entry ([.int p0]) (n := 1) (Nat.le_of_ble_eq_true rfl)
  rw [lg_entry_eq]
  generalize (lg_sl ([.int p0]) ++ List.replicate (1 - (lg_sl ([.int p0])).length) Slot.unset).toArray = ls at hl ⊢
  have hl : lv_has ls 1 [(0, .int p0)] := hl
  refine lv_iload_n hx hb d_R_isLetter_0 rfl (lv_at hl 0 rfl) ?_
  refine lv_bipush (v := 65) hx hb d_R_isLetter_1 (by decide) ?_
  obtain ⟨hwt, hwf⟩ := hw
  refine lv_icmp_lt (tgt := 12) hx hb d_R_isLetter_3 (by decide) (fun c_1 => ?_) (fun c_1 => ?_)
  · have hw := hwt c_1
    refine lv_iload_n hx hb d_R_isLetter_12 rfl (lv_at hl 0 rfl) ?_
    refine lv_bipush (v := 97) hx hb d_R_isLetter_13 (by decide) ?_
    obtain ⟨hwt, hwf⟩ := hw
    refine lv_icmp_lt (tgt := 24) hx hb d_R_isLetter_15 (by decide) (fun c_2 => ?_) (fun c_2 => ?_)
    · have hw := hwt c_2
      refine lv_iload_n hx hb d_R_isLetter_24 rfl (lv_at hl 0 rfl) ?_
      refine lv_bipush (v := 95) hx hb d_R_isLetter_25 (by decide) ?_
      obtain ⟨hwt, hwf⟩ := hw
      refine lv_icmp_ne (tgt := 34) hx hb d_R_isLetter_27 (by decide) (fun c_3 => ?_) (fun c_3 => ?_)
      · have hw := hwf c_3
        refine lv_iconst (v := 0) hx hb d_R_isLetter_34 (by decide) ?_
        exact W.zret (v := 0) hx hb hr (by decide) (fun t ht hW => ⟨⟨0, (), rfl, hw, by rw [ht]; exact hP, va_K.moved hW.alike hK, hD⟩, hS.F ht⟩) hS.2.2 d_R_isLetter_35
      · have hw := hwt c_3
        refine lv_iconst (v := 1) hx hb d_R_isLetter_30 (by decide) ?_
        refine lv_goto (tgt := 35) hx hb d_R_isLetter_31 (by decide) ?_
        exact W.zret (v := 1) hx hb hr (by decide) (fun t ht hW => ⟨⟨1, (), rfl, hw, by rw [ht]; exact hP, va_K.moved hW.alike hK, hD⟩, hS.F ht⟩) hS.2.2 d_R_isLetter_35
    · have hw := hwf c_2
      refine lv_iload_n hx hb d_R_isLetter_18 rfl (lv_at hl 0 rfl) ?_
      refine lv_bipush (v := 122) hx hb d_R_isLetter_19 (by decide) ?_
      obtain ⟨hwt, hwf⟩ := hw
      refine lv_icmp_le (tgt := 30) hx hb d_R_isLetter_21 (by decide) (fun c_4 => ?_) (fun c_4 => ?_)
      · have hw := hwt c_4
        refine lv_iconst (v := 1) hx hb d_R_isLetter_30 (by decide) ?_
        refine lv_goto (tgt := 35) hx hb d_R_isLetter_31 (by decide) ?_
        exact W.zret (v := 1) hx hb hr (by decide) (fun t ht hW => ⟨⟨1, (), rfl, hw, by rw [ht]; exact hP, va_K.moved hW.alike hK, hD⟩, hS.F ht⟩) hS.2.2 d_R_isLetter_35
      · have hw := hwf c_4
        refine lv_iload_n hx hb d_R_isLetter_24 rfl (lv_at hl 0 rfl) ?_
        refine lv_bipush (v := 95) hx hb d_R_isLetter_25 (by decide) ?_
        obtain ⟨hwt, hwf⟩ := hw
        refine lv_icmp_ne (tgt := 34) hx hb d_R_isLetter_27 (by decide) (fun c_5 => ?_) (fun c_5 => ?_)
        · have hw := hwf c_5
          refine lv_iconst (v := 0) hx hb d_R_isLetter_34 (by decide) ?_
          exact W.zret (v := 0) hx hb hr (by decide) (fun t ht hW => ⟨⟨0, (), rfl, hw, by rw [ht]; exact hP, va_K.moved hW.alike hK, hD⟩, hS.F ht⟩) hS.2.2 d_R_isLetter_35
        · have hw := hwt c_5
          refine lv_iconst (v := 1) hx hb d_R_isLetter_30 (by decide) ?_
          refine lv_goto (tgt := 35) hx hb d_R_isLetter_31 (by decide) ?_
          exact W.zret (v := 1) hx hb hr (by decide) (fun t ht hW => ⟨⟨1, (), rfl, hw, by rw [ht]; exact hP, va_K.moved hW.alike hK, hD⟩, hS.F ht⟩) hS.2.2 d_R_isLetter_35
  · have hw := hwf c_1
    refine lv_iload_n hx hb d_R_isLetter_6 rfl (lv_at hl 0 rfl) ?_
    refine lv_bipush (v := 90) hx hb d_R_isLetter_7 (by decide) ?_
    obtain ⟨hwt, hwf⟩ := hw
    refine lv_icmp_le (tgt := 30) hx hb d_R_isLetter_9 (by decide) (fun c_6 => ?_) (fun c_6 => ?_)
    · have hw := hwt c_6
      refine lv_iconst (v := 1) hx hb d_R_isLetter_30 (by decide) ?_
      refine lv_goto (tgt := 35) hx hb d_R_isLetter_31 (by decide) ?_
      exact W.zret (v := 1) hx hb hr (by decide) (fun t ht hW => ⟨⟨1, (), rfl, hw, by rw [ht]; exact hP, va_K.moved hW.alike hK, hD⟩, hS.F ht⟩) hS.2.2 d_R_isLetter_35
    · have hw := hwf c_6
      refine lv_iload_n hx hb d_R_isLetter_12 rfl (lv_at hl 0 rfl) ?_
      refine lv_bipush (v := 97) hx hb d_R_isLetter_13 (by decide) ?_
      obtain ⟨hwt, hwf⟩ := hw
      refine lv_icmp_lt (tgt := 24) hx hb d_R_isLetter_15 (by decide) (fun c_7 => ?_) (fun c_7 => ?_)
      · have hw := hwt c_7
        refine lv_iload_n hx hb d_R_isLetter_24 rfl (lv_at hl 0 rfl) ?_
        refine lv_bipush (v := 95) hx hb d_R_isLetter_25 (by decide) ?_
        obtain ⟨hwt, hwf⟩ := hw
        refine lv_icmp_ne (tgt := 34) hx hb d_R_isLetter_27 (by decide) (fun c_8 => ?_) (fun c_8 => ?_)
        · have hw := hwf c_8
          refine lv_iconst (v := 0) hx hb d_R_isLetter_34 (by decide) ?_
          exact W.zret (v := 0) hx hb hr (by decide) (fun t ht hW => ⟨⟨0, (), rfl, hw, by rw [ht]; exact hP, va_K.moved hW.alike hK, hD⟩, hS.F ht⟩) hS.2.2 d_R_isLetter_35
        · have hw := hwt c_8
          refine lv_iconst (v := 1) hx hb d_R_isLetter_30 (by decide) ?_
          refine lv_goto (tgt := 35) hx hb d_R_isLetter_31 (by decide) ?_
          exact W.zret (v := 1) hx hb hr (by decide) (fun t ht hW => ⟨⟨1, (), rfl, hw, by rw [ht]; exact hP, va_K.moved hW.alike hK, hD⟩, hS.F ht⟩) hS.2.2 d_R_isLetter_35
      · have hw := hwf c_7
        refine lv_iload_n hx hb d_R_isLetter_18 rfl (lv_at hl 0 rfl) ?_
        refine lv_bipush (v := 122) hx hb d_R_isLetter_19 (by decide) ?_
        obtain ⟨hwt, hwf⟩ := hw
        refine lv_icmp_le (tgt := 30) hx hb d_R_isLetter_21 (by decide) (fun c_9 => ?_) (fun c_9 => ?_)
        · have hw := hwt c_9
          refine lv_iconst (v := 1) hx hb d_R_isLetter_30 (by decide) ?_
          refine lv_goto (tgt := 35) hx hb d_R_isLetter_31 (by decide) ?_
          exact W.zret (v := 1) hx hb hr (by decide) (fun t ht hW => ⟨⟨1, (), rfl, hw, by rw [ht]; exact hP, va_K.moved hW.alike hK, hD⟩, hS.F ht⟩) hS.2.2 d_R_isLetter_35
        · have hw := hwf c_9
          refine lv_iload_n hx hb d_R_isLetter_24 rfl (lv_at hl 0 rfl) ?_
          refine lv_bipush (v := 95) hx hb d_R_isLetter_25 (by decide) ?_
          obtain ⟨hwt, hwf⟩ := hw
          refine lv_icmp_ne (tgt := 34) hx hb d_R_isLetter_27 (by decide) (fun c_10 => ?_) (fun c_10 => ?_)
          · have hw := hwf c_10
            refine lv_iconst (v := 0) hx hb d_R_isLetter_34 (by decide) ?_
            exact W.zret (v := 0) hx hb hr (by decide) (fun t ht hW => ⟨⟨0, (), rfl, hw, by rw [ht]; exact hP, va_K.moved hW.alike hK, hD⟩, hS.F ht⟩) hS.2.2 d_R_isLetter_35
          · have hw := hwt c_10
            refine lv_iconst (v := 1) hx hb d_R_isLetter_30 (by decide) ?_
            refine lv_goto (tgt := 35) hx hb d_R_isLetter_31 (by decide) ?_
            exact W.zret (v := 1) hx hb hr (by decide) (fun t ht hW => ⟨⟨1, (), rfl, hw, by rw [ht]; exact hP, va_K.moved hW.alike hK, hD⟩, hS.F ht⟩) hS.2.2 d_R_isLetter_35
def f_R_isLetter (p0 : Int32) : Int32 := (if p0 < 65 then (if p0 < 97 then (if p0 = 95 then 1 else 0) else (if p0 ≤ 122 then 1 else (if p0 = 95 then 1 else 0))) else (if p0 ≤ 90 then 1 else (if p0 < 97 then (if p0 = 95 then 1 else 0) else (if p0 ≤ 122 then 1 else (if p0 = 95 then 1 else 0)))))
theorem q_R_isLetter {post : Int32 → Prop} {p0 : Int32} (h : post (f_R_isLetter p0)) : wp_R_isLetter post p0 := by
  unfold wp_R_isLetter
  refine br_c (fun c1 => ?_) (fun c1 => ?_)
  · refine br_c (fun c2 => ?_) (fun c2 => ?_)
    · refine br_c (fun c3 => ?_) (fun c3 => ?_)
      · rw [f_R_isLetter, if_pos c1, if_pos c2, if_pos c3] at h; exact h
      · rw [f_R_isLetter, if_pos c1, if_pos c2, if_neg c3] at h; exact h
    · refine br_c (fun c4 => ?_) (fun c4 => ?_)
      · rw [f_R_isLetter, if_pos c1, if_neg c2, if_pos c4] at h; exact h
      · refine br_c (fun c5 => ?_) (fun c5 => ?_)
        · rw [f_R_isLetter, if_pos c1, if_neg c2, if_neg c4, if_pos c5] at h; exact h
        · rw [f_R_isLetter, if_pos c1, if_neg c2, if_neg c4, if_neg c5] at h; exact h
  · refine br_c (fun c6 => ?_) (fun c6 => ?_)
    · rw [f_R_isLetter, if_neg c1, if_pos c6] at h; exact h
    · refine br_c (fun c7 => ?_) (fun c7 => ?_)
      · refine br_c (fun c8 => ?_) (fun c8 => ?_)
        · rw [f_R_isLetter, if_neg c1, if_neg c6, if_pos c7, if_pos c8] at h; exact h
        · rw [f_R_isLetter, if_neg c1, if_neg c6, if_pos c7, if_neg c8] at h; exact h
      · refine br_c (fun c9 => ?_) (fun c9 => ?_)
        · rw [f_R_isLetter, if_neg c1, if_neg c6, if_neg c7, if_pos c9] at h; exact h
        · refine br_c (fun c10 => ?_) (fun c10 => ?_)
          · rw [f_R_isLetter, if_neg c1, if_neg c6, if_neg c7, if_neg c9, if_pos c10] at h; exact h
          · rw [f_R_isLetter, if_neg c1, if_neg c6, if_neg c7, if_neg c9, if_neg c10] at h; exact h

abbrev wd_R_isDigit (ad : Nat → Nat) (ck : Nat → ClassId)  : va_W := []
def wp_R_isDigit (post : Int32 → Prop)  (p0 : Int32) : Prop := (p0 < 48 → (post 0)) ∧ (¬ p0 < 48 → ((57 < p0 → (post 0)) ∧ (¬ 57 < p0 → (post 1))))
set_option maxHeartbeats 4000000 in
set_option maxRecDepth 100000 in
theorem kc_R_isDigit (l : Launch) (dC : Nat → ClassId) (dI : Nat → Nat → Nat) (ad : Nat → Nat) (ck : Nat → ClassId)  (p0 : Int32) {post : Int32 → Prop} (hw : wp_R_isDigit post  p0) : k_Ci l y_R_isDigit ws_R_isDigit ({ frames := 0, cells := 0, slots := 0, locals := 0 } : Room) (dC, dI) vwCl (TYr ck) k_x0 [.int p0] ([]) (fun (r : Int32) (u : Unit) => post r ) (fun (u : Unit) => []) := by
  intro sz
  refine Met.ofW (cc := c_R_isDigit) (maxL := 1) (ret := (some .boolean)) (by decide) rfl ?_
  intro p e s m args below meth c s₁ B hml hv
  obtain ⟨rfl, hsz, hP, hK, hD0, hX⟩ := hv
  have hx := B.exec
  have hb := B.bytes
  have hr := B.returns
  have hts : ∀ w ∈ TB, w.before _ s = true := fun w h => atoms_spec (ws := ws_R_isDigit) B.pre w (List.mem_cons_of_mem _ h)
  have hown : s.vm.findClass R_R = some m.cls := findClass_of_methodNamed B.named
  have hlocks := B.notSynchronized
  subst hsz
  have hD := hD0.self (sz := s.heap.size)
  generalize hAe : va_A ([]) s.heap.size = A at hD hX ⊢
  have hA : ∀ q : Nat, s.heap.size ≤ q → A q := fun q h => by rw [← hAe]; exact Or.inr h
  have hS : va_S A s.heap s.heap [] := va_S.rf
  have hP : va_P (dC, dI) vwCl ([]) s.heap := hP
  have hl := lv_entry ([.int p0]) (n := 1) (Nat.le_of_ble_eq_true rfl)
  rw [lg_entry_eq]
  generalize (lg_sl ([.int p0]) ++ List.replicate (1 - (lg_sl ([.int p0])).length) Slot.unset).toArray = ls at hl ⊢
  have hl : lv_has ls 1 [(0, .int p0)] := hl
  refine lv_iload_n hx hb d_R_isDigit_0 rfl (lv_at hl 0 rfl) ?_
  refine lv_bipush (v := 48) hx hb d_R_isDigit_1 (by decide) ?_
  obtain ⟨hwt, hwf⟩ := hw
  refine lv_icmp_lt (tgt := 16) hx hb d_R_isDigit_3 (by decide) (fun c_1 => ?_) (fun c_1 => ?_)
  · have hw := hwt c_1
    refine lv_iconst (v := 0) hx hb d_R_isDigit_16 (by decide) ?_
    exact W.zret (v := 0) hx hb hr (by decide) (fun t ht hW => ⟨⟨0, (), rfl, hw, by rw [ht]; exact hP, va_K.moved hW.alike hK, hD⟩, hS.F ht⟩) hS.2.2 d_R_isDigit_17
  · have hw := hwf c_1
    refine lv_iload_n hx hb d_R_isDigit_6 rfl (lv_at hl 0 rfl) ?_
    refine lv_bipush (v := 57) hx hb d_R_isDigit_7 (by decide) ?_
    obtain ⟨hwt, hwf⟩ := hw
    refine lv_icmp_gt (tgt := 16) hx hb d_R_isDigit_9 (by decide) (fun c_2 => ?_) (fun c_2 => ?_)
    · have hw := hwt c_2
      refine lv_iconst (v := 0) hx hb d_R_isDigit_16 (by decide) ?_
      exact W.zret (v := 0) hx hb hr (by decide) (fun t ht hW => ⟨⟨0, (), rfl, hw, by rw [ht]; exact hP, va_K.moved hW.alike hK, hD⟩, hS.F ht⟩) hS.2.2 d_R_isDigit_17
    · have hw := hwf c_2
      refine lv_iconst (v := 1) hx hb d_R_isDigit_12 (by decide) ?_
      refine lv_goto (tgt := 17) hx hb d_R_isDigit_13 (by decide) ?_
      exact W.zret (v := 1) hx hb hr (by decide) (fun t ht hW => ⟨⟨1, (), rfl, hw, by rw [ht]; exact hP, va_K.moved hW.alike hK, hD⟩, hS.F ht⟩) hS.2.2 d_R_isDigit_17
def f_R_isDigit (p0 : Int32) : Int32 := (if p0 < 48 then 0 else (if 57 < p0 then 0 else 1))
theorem q_R_isDigit {post : Int32 → Prop} {p0 : Int32} (h : post (f_R_isDigit p0)) : wp_R_isDigit post p0 := by
  unfold wp_R_isDigit
  refine br_c (fun c1 => ?_) (fun c1 => ?_)
  · rw [f_R_isDigit, if_pos c1] at h; exact h
  · refine br_c (fun c2 => ?_) (fun c2 => ?_)
    · rw [f_R_isDigit, if_neg c1, if_pos c2] at h; exact h
    · rw [f_R_isDigit, if_neg c1, if_neg c2] at h; exact h

abbrev wd_R_isBlank (ad : Nat → Nat) (ck : Nat → ClassId)  : va_W := []
def wp_R_isBlank (post : Int32 → Prop)  (p0 : Int32) : Prop := (p0 = 32 → (post 1)) ∧ (¬ p0 = 32 → ((p0 ≤ 8 → (post 0)) ∧ (¬ p0 ≤ 8 → ((14 ≤ p0 → (post 0)) ∧ (¬ 14 ≤ p0 → (post 1))))))
set_option maxHeartbeats 4000000 in
set_option maxRecDepth 100000 in
theorem kc_R_isBlank (l : Launch) (dC : Nat → ClassId) (dI : Nat → Nat → Nat) (ad : Nat → Nat) (ck : Nat → ClassId)  (p0 : Int32) {post : Int32 → Prop} (hw : wp_R_isBlank post  p0) : k_Ci l y_R_isBlank ws_R_isBlank ({ frames := 0, cells := 0, slots := 0, locals := 0 } : Room) (dC, dI) vwCl (TYr ck) k_x0 [.int p0] ([]) (fun (r : Int32) (u : Unit) => post r ) (fun (u : Unit) => []) := by
  intro sz
  refine Met.ofW (cc := c_R_isBlank) (maxL := 1) (ret := (some .boolean)) (by decide) rfl ?_
  intro p e s m args below meth c s₁ B hml hv
  obtain ⟨rfl, hsz, hP, hK, hD0, hX⟩ := hv
  have hx := B.exec
  have hb := B.bytes
  have hr := B.returns
  have hts : ∀ w ∈ TB, w.before _ s = true := fun w h => atoms_spec (ws := ws_R_isBlank) B.pre w (List.mem_cons_of_mem _ h)
  have hown : s.vm.findClass R_R = some m.cls := findClass_of_methodNamed B.named
  have hlocks := B.notSynchronized
  subst hsz
  have hD := hD0.self (sz := s.heap.size)
  generalize hAe : va_A ([]) s.heap.size = A at hD hX ⊢
  have hA : ∀ q : Nat, s.heap.size ≤ q → A q := fun q h => by rw [← hAe]; exact Or.inr h
  have hS : va_S A s.heap s.heap [] := va_S.rf
  have hP : va_P (dC, dI) vwCl ([]) s.heap := hP
  have hl := lv_entry ([.int p0]) (n := 1) (Nat.le_of_ble_eq_true rfl)
  rw [lg_entry_eq]
  generalize (lg_sl ([.int p0]) ++ List.replicate (1 - (lg_sl ([.int p0])).length) Slot.unset).toArray = ls at hl ⊢
  have hl : lv_has ls 1 [(0, .int p0)] := hl
  refine lv_iload_n hx hb d_R_isBlank_0 rfl (lv_at hl 0 rfl) ?_
  refine lv_bipush (v := 32) hx hb d_R_isBlank_1 (by decide) ?_
  obtain ⟨hwt, hwf⟩ := hw
  refine lv_icmp_eq (tgt := 18) hx hb d_R_isBlank_3 (by decide) (fun c_1 => ?_) (fun c_1 => ?_)
  · have hw := hwt c_1
    refine lv_iconst (v := 1) hx hb d_R_isBlank_18 (by decide) ?_
    refine lv_goto (tgt := 23) hx hb d_R_isBlank_19 (by decide) ?_
    exact W.zret (v := 1) hx hb hr (by decide) (fun t ht hW => ⟨⟨1, (), rfl, hw, by rw [ht]; exact hP, va_K.moved hW.alike hK, hD⟩, hS.F ht⟩) hS.2.2 d_R_isBlank_23
  · have hw := hwf c_1
    refine lv_iload_n hx hb d_R_isBlank_6 rfl (lv_at hl 0 rfl) ?_
    refine lv_bipush (v := 8) hx hb d_R_isBlank_7 (by decide) ?_
    obtain ⟨hwt, hwf⟩ := hw
    refine lv_icmp_le (tgt := 22) hx hb d_R_isBlank_9 (by decide) (fun c_2 => ?_) (fun c_2 => ?_)
    · have hw := hwt c_2
      refine lv_iconst (v := 0) hx hb d_R_isBlank_22 (by decide) ?_
      exact W.zret (v := 0) hx hb hr (by decide) (fun t ht hW => ⟨⟨0, (), rfl, hw, by rw [ht]; exact hP, va_K.moved hW.alike hK, hD⟩, hS.F ht⟩) hS.2.2 d_R_isBlank_23
    · have hw := hwf c_2
      refine lv_iload_n hx hb d_R_isBlank_12 rfl (lv_at hl 0 rfl) ?_
      refine lv_bipush (v := 14) hx hb d_R_isBlank_13 (by decide) ?_
      obtain ⟨hwt, hwf⟩ := hw
      refine lv_icmp_ge (tgt := 22) hx hb d_R_isBlank_15 (by decide) (fun c_3 => ?_) (fun c_3 => ?_)
      · have hw := hwt c_3
        refine lv_iconst (v := 0) hx hb d_R_isBlank_22 (by decide) ?_
        exact W.zret (v := 0) hx hb hr (by decide) (fun t ht hW => ⟨⟨0, (), rfl, hw, by rw [ht]; exact hP, va_K.moved hW.alike hK, hD⟩, hS.F ht⟩) hS.2.2 d_R_isBlank_23
      · have hw := hwf c_3
        refine lv_iconst (v := 1) hx hb d_R_isBlank_18 (by decide) ?_
        refine lv_goto (tgt := 23) hx hb d_R_isBlank_19 (by decide) ?_
        exact W.zret (v := 1) hx hb hr (by decide) (fun t ht hW => ⟨⟨1, (), rfl, hw, by rw [ht]; exact hP, va_K.moved hW.alike hK, hD⟩, hS.F ht⟩) hS.2.2 d_R_isBlank_23
def f_R_isBlank (p0 : Int32) : Int32 := (if p0 = 32 then 1 else (if p0 ≤ 8 then 0 else (if 14 ≤ p0 then 0 else 1)))
theorem q_R_isBlank {post : Int32 → Prop} {p0 : Int32} (h : post (f_R_isBlank p0)) : wp_R_isBlank post p0 := by
  unfold wp_R_isBlank
  refine br_c (fun c1 => ?_) (fun c1 => ?_)
  · rw [f_R_isBlank, if_pos c1] at h; exact h
  · refine br_c (fun c2 => ?_) (fun c2 => ?_)
    · rw [f_R_isBlank, if_neg c1, if_pos c2] at h; exact h
    · refine br_c (fun c3 => ?_) (fun c3 => ?_)
      · rw [f_R_isBlank, if_neg c1, if_neg c2, if_pos c3] at h; exact h
      · rw [f_R_isBlank, if_neg c1, if_neg c2, if_neg c3] at h; exact h

abbrev wd_R_byteAt (ad : Nat → Nat) (ck : Nat → ClassId) (store : Nat → Int32) : va_W := [(ad 12, .inl (ck 6, 4096, .inl store))]
def wp_R_byteAt (post : Int32 → Prop) (store : Nat → Int32) (p1 : Int32) (p2 : Int32) : Prop := (p2 ≤ p1 → (post (-1))) ∧ (¬ p2 ≤ p1 → (vp_in p1 4096 ∧ (post ((store p1.toNatClampNeg) &&& 255))))
set_option maxHeartbeats 4000000 in
set_option maxRecDepth 100000 in
theorem kc_R_byteAt (l : Launch) (dC : Nat → ClassId) (dI : Nat → Nat → Nat) (ad : Nat → Nat) (ck : Nat → ClassId) (store : Nat → Int32) (p1 : Int32) (p2 : Int32) {post : Int32 → Prop} (hw : wp_R_byteAt post store p1 p2) : k_Ci l y_R_byteAt ws_R_byteAt ({ frames := 0, cells := 0, slots := 0, locals := 0 } : Room) (dC, dI) vwCl (TYr ck) k_x0 [.ref (ad 12), .int p1, .int p2] (wd_R_byteAt ad ck store) (fun (r : Int32) (u : Unit) => post r ) (fun (u : Unit) => wd_R_byteAt ad ck store) := by
  intro sz
  refine Met.ofW (cc := c_R_byteAt) (maxL := 3) (ret := (some .int)) (by decide) rfl ?_
  intro p e s m args below meth c s₁ B hml hv
  obtain ⟨rfl, hsz, hP, hK, hD0, hX⟩ := hv
  have hx := B.exec
  have hb := B.bytes
  have hr := B.returns
  have hts : ∀ w ∈ TB, w.before _ s = true := fun w h => atoms_spec (ws := ws_R_byteAt) B.pre w (List.mem_cons_of_mem _ h)
  have hown : s.vm.findClass R_R = some m.cls := findClass_of_methodNamed B.named
  have hlocks := B.notSynchronized
  subst hsz
  have hD := hD0.self (sz := s.heap.size)
  generalize hAe : va_A (wd_R_byteAt ad ck store) s.heap.size = A at hD hX ⊢
  have hA : ∀ q : Nat, s.heap.size ≤ q → A q := fun q h => by rw [← hAe]; exact Or.inr h
  have hS : va_S A s.heap s.heap [] := va_S.rf
  have hP : va_P (dC, dI) vwCl (wd_R_byteAt ad ck store) s.heap := hP
  have hl := lv_entry ([.ref (ad 12), .int p1, .int p2]) (n := 3) (Nat.le_of_ble_eq_true rfl)
  rw [lg_entry_eq]
  generalize (lg_sl ([.ref (ad 12), .int p1, .int p2]) ++ List.replicate (3 - (lg_sl ([.ref (ad 12), .int p1, .int p2])).length) Slot.unset).toArray = ls at hl ⊢
  have hl : lv_has ls 3 [(0, .ref (ad 12)), (1, .int p1), (2, .int p2)] := hl
  refine lv_iload_n hx hb d_R_byteAt_0 rfl (lv_at hl 1 rfl) ?_
  refine lv_iload_n hx hb d_R_byteAt_1 rfl (lv_at hl 2 rfl) ?_
  obtain ⟨hwt, hwf⟩ := hw
  refine lv_icmp_ge (tgt := 15) hx hb d_R_byteAt_2 (by decide) (fun c_1 => ?_) (fun c_1 => ?_)
  · have hw := hwt c_1
    refine lv_iconst (v := (-1)) hx hb d_R_byteAt_15 (by decide) ?_
    exact W.iret (v := (-1)) hx hb hr (fun t ht hW => ⟨⟨(-1), (), rfl, hw, by rw [ht]; exact hP, va_K.moved hW.alike hK, hD⟩, hS.F ht⟩) hS.2.2 d_R_byteAt_16
  · have hw := hwf c_1
    refine lv_aload_n hx hb d_R_byteAt_5 rfl (lv_at hl 0 rfl) ?_
    refine lv_iload_n hx hb d_R_byteAt_6 rfl (lv_at hl 1 rfl) ?_
    obtain ⟨hi_2, hw⟩ := hw
    refine va_bald hx hb hK hP 0 0 rfl rfl hi_2 d_R_byteAt_7 ?_
    refine lv_sipush (v := 255) hx hb d_R_byteAt_8 (by decide) ?_
    refine lv_iand hx hb d_R_byteAt_11 ?_
    refine lv_goto (tgt := 16) hx hb d_R_byteAt_12 (by decide) ?_
    exact W.iret (v := ((store p1.toNatClampNeg) &&& 255)) hx hb hr (fun t ht hW => ⟨⟨((store p1.toNatClampNeg) &&& 255), (), rfl, hw, by rw [ht]; exact hP, va_K.moved hW.alike hK, hD⟩, hS.F ht⟩) hS.2.2 d_R_byteAt_16

abbrev wd_R_quotedEnd (ad : Nat → Nat) (ck : Nat → ClassId) (rsize : Int32) (rval : Int64) (risP : Int32) (cnt : Int32) (look : Int32) (bad : Int32) (byZ : Int32) (inr : Int32) (rpl : Int32) (hld : Int32) (store : Nat → Int32) : va_W := [(ad 11, .inr (5, [.int rsize, .ref (ad 12), .long rval, .int risP, .int cnt, .ref (ad 13), .ref (ad 14), .int look, .int bad, .int byZ, .int inr, .int rpl, .int hld, .ref (ad 15), .ref (ad 16), .ref (ad 17)])), (ad 12, .inl (ck 6, 4096, .inl store))]
def w_R_quotedEnd_99 (post : Int32 → Prop) (x2 : Int32) (x3 : Int32) (x4 : Int32) (rsize : Int32) (rval : Int64) (risP : Int32) (cnt : Int32) (look : Int32) (bad : Int32) (byZ : Int32) (inr : Int32) (rpl : Int32) (hld : Int32) (store : Nat → Int32) : Prop := (x2 ≤ x4 → (post (-1))) ∧ (¬ x2 ≤ x4 → (vp_in x4 4096 ∧ ((((store x4.toNatClampNeg) &&& 255) = x3 → (post (x4 + 1))) ∧ (¬ ((store x4.toNatClampNeg) &&& 255) = x3 → (post (-1))))))
def w_R_quotedEnd_16 (post : Int32 → Prop) (x2 : Int32) (x3 : Int32) (rsize : Int32) (rval : Int64) (risP : Int32) (cnt : Int32) (look : Int32) (bad : Int32) (byZ : Int32) (inr : Int32) (rpl : Int32) (hld : Int32) (store : Nat → Int32) : Nat → Int32 → Prop
  | 0 => fun _ => False
  | n + 1 => fun x4 => (x2 ≤ x4 → (w_R_quotedEnd_99 post x2 x3 x4 rsize rval risP cnt look bad byZ inr rpl hld store)) ∧ (¬ x2 ≤ x4 → (vp_in x4 4096 ∧ (((store x4.toNatClampNeg) = 10 → (w_R_quotedEnd_99 post x2 x3 x4 rsize rval risP cnt look bad byZ inr rpl hld store)) ∧ (¬ (store x4.toNatClampNeg) = 10 → (vp_in x4 4096 ∧ ((((store x4.toNatClampNeg) &&& 255) = x3 → (w_R_quotedEnd_99 post x2 x3 x4 rsize rval risP cnt look bad byZ inr rpl hld store)) ∧ (¬ ((store x4.toNatClampNeg) &&& 255) = x3 → (vp_in x4 4096 ∧ (((store x4.toNatClampNeg) = 92 → ((x2 ≤ (x4 + 1) → (∀ x4_16 : Int32, x4_16 = (x4 + 1) → (w_R_quotedEnd_16 post x2 x3 rsize rval risP cnt look bad byZ inr rpl hld store n x4_16))) ∧ (¬ x2 ≤ (x4 + 1) → (vp_in (x4 + 1) 4096 ∧ (((store (x4 + 1).toNatClampNeg) = 10 → (∀ x4_19 : Int32, x4_19 = (x4 + 1) → (w_R_quotedEnd_16 post x2 x3 rsize rval risP cnt look bad byZ inr rpl hld store n x4_19))) ∧ (¬ (store (x4 + 1).toNatClampNeg) = 10 → (∀ x4_20 : Int32, x4_20 = (x4 + 2) → (w_R_quotedEnd_16 post x2 x3 rsize rval risP cnt look bad byZ inr rpl hld store n x4_20)))))))) ∧ (¬ (store x4.toNatClampNeg) = 92 → (∀ x4_14 : Int32, x4_14 = (x4 + 1) → (w_R_quotedEnd_16 post x2 x3 rsize rval risP cnt look bad byZ inr rpl hld store n x4_14))))))))))))
def wp_R_quotedEnd (post : Int32 → Prop) (rsize : Int32) (rval : Int64) (risP : Int32) (cnt : Int32) (look : Int32) (bad : Int32) (byZ : Int32) (inr : Int32) (rpl : Int32) (hld : Int32) (store : Nat → Int32) (p0 : Int32) (p1 : Int32) : Prop := vp_in p0 4096 ∧ (∀ x3_2 : Int32, x3_2 = ((store p0.toNatClampNeg) &&& 255) → (∀ x4_3 : Int32, x4_3 = (p0 + 1) → (∃ fu16 : Nat, w_R_quotedEnd_16 post p1 x3_2 rsize rval risP cnt look bad byZ inr rpl hld store fu16 x4_3)))
set_option maxHeartbeats 4000000 in
set_option maxRecDepth 100000 in
theorem kc_R_quotedEnd (l : Launch) (dC : Nat → ClassId) (dI : Nat → Nat → Nat) (ad : Nat → Nat) (ck : Nat → ClassId) (rsize : Int32) (rval : Int64) (risP : Int32) (cnt : Int32) (look : Int32) (bad : Int32) (byZ : Int32) (inr : Int32) (rpl : Int32) (hld : Int32) (store : Nat → Int32) (p0 : Int32) (p1 : Int32) {post : Int32 → Prop} (hw : wp_R_quotedEnd post rsize rval risP cnt look bad byZ inr rpl hld store p0 p1) : k_Ci l y_R_quotedEnd ws_R_quotedEnd ({ frames := 0, cells := 0, slots := 0, locals := 0 } : Room) (dC, dI) vwCl (TYr ck) k_x0 [.ref (ad 11), .int p0, .int p1] (wd_R_quotedEnd ad ck rsize rval risP cnt look bad byZ inr rpl hld store) (fun (r : Int32) (u : Unit) => post r ) (fun (u : Unit) => wd_R_quotedEnd ad ck rsize rval risP cnt look bad byZ inr rpl hld store) := by
  intro sz
  refine Met.ofW (cc := c_R_quotedEnd) (maxL := 5) (ret := (some .int)) (by decide) rfl ?_
  intro p e s m args below meth c s₁ B hml hv
  obtain ⟨rfl, hsz, hP, hK, hD0, hX⟩ := hv
  have hx := B.exec
  have hb := B.bytes
  have hr := B.returns
  have hts : ∀ w ∈ TB, w.before _ s = true := fun w h => atoms_spec (ws := ws_R_quotedEnd) B.pre w (List.mem_cons_of_mem _ h)
  have hown : s.vm.findClass R_R = some m.cls := findClass_of_methodNamed B.named
  have hlocks := B.notSynchronized
  subst hsz
  have hD := hD0.self (sz := s.heap.size)
  generalize hAe : va_A (wd_R_quotedEnd ad ck rsize rval risP cnt look bad byZ inr rpl hld store) s.heap.size = A at hD hX ⊢
  have hA : ∀ q : Nat, s.heap.size ≤ q → A q := fun q h => by rw [← hAe]; exact Or.inr h
  have hS : va_S A s.heap s.heap [] := va_S.rf
  have hP : va_P (dC, dI) vwCl (wd_R_quotedEnd ad ck rsize rval risP cnt look bad byZ inr rpl hld store) s.heap := hP
  have hl := lv_entry ([.ref (ad 11), .int p0, .int p1]) (n := 5) (Nat.le_of_ble_eq_true rfl)
  rw [lg_entry_eq]
  generalize (lg_sl ([.ref (ad 11), .int p0, .int p1]) ++ List.replicate (5 - (lg_sl ([.ref (ad 11), .int p0, .int p1])).length) Slot.unset).toArray = ls at hl ⊢
  have hl : lv_has ls 5 [(0, .ref (ad 11)), (1, .int p0), (2, .int p1)] := hl
  have L_99 : ∀ (x2 : Int32) (x3 : Int32) (x4 : Int32) (rsize : Int32) (rval : Int64) (risP : Int32) (cnt : Int32) (look : Int32) (bad : Int32) (byZ : Int32) (inr : Int32) (rpl : Int32) (hld : Int32) (store : Nat → Int32) (H : Heap) (locs : List Loc) (ls : Array Slot), w_R_quotedEnd_99 post x2 x3 x4 rsize rval risP cnt look bad byZ inr rpl hld store → va_P (dC, dI) vwCl (wd_R_quotedEnd ad ck rsize rval risP cnt look bad byZ inr rpl hld store) H → va_D A (wd_R_quotedEnd ad ck rsize rval risP cnt look bad byZ inr rpl hld store) → va_S A s.heap H locs → lv_has ls 5 [(0, .ref (ad 11)), (2, .int x2), (3, .int x3), (4, .int x4)] → W p l e (headSpec ws_R_quotedEnd ({ frames := 0, cells := 0, slots := 0, locals := 0 } : Room)).room s m ([.ref (ad 11), .int p0, .int p1] : List Value).toArray below meth c H locs 0 0 (k_Qi below (dC, dI) vwCl (TYr ck) A (fun (r : Int32) (u : Unit) => post r ) (fun (u : Unit) => wd_R_quotedEnd ad ck rsize rval risP cnt look bad byZ inr rpl hld store) ([.ref (ad 11), .int p0, .int p1] : List Value).toArray s) (F0 m 99 ls []) := by
    intro x2 x3 x4 rsize rval risP cnt look bad byZ inr rpl hld store H locs ls hw hP hD hS hl
    refine lv_iload hx hb d_R_quotedEnd_99 (lv_at hl 3 rfl) ?_
    refine lv_iload_n hx hb d_R_quotedEnd_101 rfl (lv_at hl 1 rfl) ?_
    obtain ⟨hwt, hwf⟩ := hw
    refine lv_icmp_ge (tgt := 127) hx hb d_R_quotedEnd_102 (by decide) (fun c_5 => ?_) (fun c_5 => ?_)
    · have hw := hwt c_5
      refine lv_iconst (v := (-1)) hx hb d_R_quotedEnd_127 (by decide) ?_
      exact W.iret (v := (-1)) hx hb hr (fun t ht hW => ⟨⟨(-1), (), rfl, hw, by rw [ht]; exact hP, va_K.moved hW.alike hK, hD⟩, hS.F ht⟩) hS.2.2 d_R_quotedEnd_128
    · have hw := hwf c_5
      refine lv_aload_n hx hb d_R_quotedEnd_105 rfl (lv_at hl 0 rfl) ?_
      refine va_get (D := (dC, dI)) (ci := 5) (v := .ref (ad 12)) (C := R_R) (T := T_R) (N := 16) hx hb hts in_R hown hK hP 0 rfl rfl 1 (by decide) (hts _ ux_46) (fun _ h9 => h9) rfl d_R_quotedEnd_106 ?_
      refine lv_iload hx hb d_R_quotedEnd_109 (lv_at hl 3 rfl) ?_
      obtain ⟨hi_6, hw⟩ := hw
      refine va_bald hx hb hK hP 1 0 rfl rfl hi_6 d_R_quotedEnd_111 ?_
      refine lv_sipush (v := 255) hx hb d_R_quotedEnd_112 (by decide) ?_
      refine lv_iand hx hb d_R_quotedEnd_115 ?_
      refine lv_iload_n hx hb d_R_quotedEnd_116 rfl (lv_at hl 2 rfl) ?_
      obtain ⟨hwt, hwf⟩ := hw
      refine lv_icmp_ne (tgt := 127) hx hb d_R_quotedEnd_117 (by decide) (fun c_7 => ?_) (fun c_7 => ?_)
      · have hw := hwf c_7
        refine lv_iconst (v := (-1)) hx hb d_R_quotedEnd_127 (by decide) ?_
        exact W.iret (v := (-1)) hx hb hr (fun t ht hW => ⟨⟨(-1), (), rfl, hw, by rw [ht]; exact hP, va_K.moved hW.alike hK, hD⟩, hS.F ht⟩) hS.2.2 d_R_quotedEnd_128
      · have hw := hwt c_7
        refine lv_iload hx hb d_R_quotedEnd_120 (lv_at hl 3 rfl) ?_
        refine lv_iconst (v := 1) hx hb d_R_quotedEnd_122 (by decide) ?_
        refine lv_iadd hx hb d_R_quotedEnd_123 ?_
        refine lv_goto (tgt := 128) hx hb d_R_quotedEnd_124 (by decide) ?_
        exact W.iret (v := (x4 + 1)) hx hb hr (fun t ht hW => ⟨⟨(x4 + 1), (), rfl, hw, by rw [ht]; exact hP, va_K.moved hW.alike hK, hD⟩, hS.F ht⟩) hS.2.2 d_R_quotedEnd_128
  have L_16 : ∀ (x2 : Int32) (x3 : Int32) (rsize : Int32) (rval : Int64) (risP : Int32) (cnt : Int32) (look : Int32) (bad : Int32) (byZ : Int32) (inr : Int32) (rpl : Int32) (hld : Int32) (store : Nat → Int32) (n : Nat) (x4 : Int32) (H : Heap) (locs : List Loc) (ls : Array Slot), w_R_quotedEnd_16 post x2 x3 rsize rval risP cnt look bad byZ inr rpl hld store n x4 → va_P (dC, dI) vwCl (wd_R_quotedEnd ad ck rsize rval risP cnt look bad byZ inr rpl hld store) H → va_D A (wd_R_quotedEnd ad ck rsize rval risP cnt look bad byZ inr rpl hld store) → va_S A s.heap H locs → lv_has ls 5 [(0, .ref (ad 11)), (2, .int x2), (3, .int x3), (4, .int x4)] → W p l e (headSpec ws_R_quotedEnd ({ frames := 0, cells := 0, slots := 0, locals := 0 } : Room)).room s m ([.ref (ad 11), .int p0, .int p1] : List Value).toArray below meth c H locs 0 0 (k_Qi below (dC, dI) vwCl (TYr ck) A (fun (r : Int32) (u : Unit) => post r ) (fun (u : Unit) => wd_R_quotedEnd ad ck rsize rval risP cnt look bad byZ inr rpl hld store) ([.ref (ad 11), .int p0, .int p1] : List Value).toArray s) (F0 m 16 ls []) := by
    intro x2 x3 rsize rval risP cnt look bad byZ inr rpl hld store n
    induction n with
    | zero =>
      intro x4 H locs ls hw
      exact False.elim hw
    | succ n ih =>
      intro x4 H locs ls hw hP hD hS hl
      refine lv_iload hx hb d_R_quotedEnd_16 (lv_at hl 3 rfl) ?_
      refine lv_iload_n hx hb d_R_quotedEnd_18 rfl (lv_at hl 1 rfl) ?_
      obtain ⟨hwt, hwf⟩ := hw
      refine lv_icmp_ge (tgt := 99) hx hb d_R_quotedEnd_19 (by decide) (fun c_4 => ?_) (fun c_4 => ?_)
      · have hw := hwt c_4
        exact L_99 x2 x3 x4 rsize rval risP cnt look bad byZ inr rpl hld store _ _ _ hw hP hD hS (lv_sub hl [0, 1, 2, 3] rfl)
      · have hw := hwf c_4
        refine lv_aload_n hx hb d_R_quotedEnd_22 rfl (lv_at hl 0 rfl) ?_
        refine va_get (D := (dC, dI)) (ci := 5) (v := .ref (ad 12)) (C := R_R) (T := T_R) (N := 16) hx hb hts in_R hown hK hP 0 rfl rfl 1 (by decide) (hts _ ux_46) (fun _ h9 => h9) rfl d_R_quotedEnd_23 ?_
        refine lv_iload hx hb d_R_quotedEnd_26 (lv_at hl 3 rfl) ?_
        obtain ⟨hi_8, hw⟩ := hw
        refine va_bald hx hb hK hP 1 0 rfl rfl hi_8 d_R_quotedEnd_28 ?_
        refine lv_bipush (v := 10) hx hb d_R_quotedEnd_29 (by decide) ?_
        obtain ⟨hwt, hwf⟩ := hw
        refine lv_icmp_eq (tgt := 99) hx hb d_R_quotedEnd_31 (by decide) (fun c_9 => ?_) (fun c_9 => ?_)
        · have hw := hwt c_9
          exact L_99 x2 x3 x4 rsize rval risP cnt look bad byZ inr rpl hld store _ _ _ hw hP hD hS (lv_sub hl [0, 1, 2, 3] rfl)
        · have hw := hwf c_9
          refine lv_aload_n hx hb d_R_quotedEnd_34 rfl (lv_at hl 0 rfl) ?_
          refine va_get (D := (dC, dI)) (ci := 5) (v := .ref (ad 12)) (C := R_R) (T := T_R) (N := 16) hx hb hts in_R hown hK hP 0 rfl rfl 1 (by decide) (hts _ ux_46) (fun _ h9 => h9) rfl d_R_quotedEnd_35 ?_
          refine lv_iload hx hb d_R_quotedEnd_38 (lv_at hl 3 rfl) ?_
          obtain ⟨hi_10, hw⟩ := hw
          refine va_bald hx hb hK hP 1 0 rfl rfl hi_10 d_R_quotedEnd_40 ?_
          refine lv_sipush (v := 255) hx hb d_R_quotedEnd_41 (by decide) ?_
          refine lv_iand hx hb d_R_quotedEnd_44 ?_
          refine lv_iload_n hx hb d_R_quotedEnd_45 rfl (lv_at hl 2 rfl) ?_
          obtain ⟨hwt, hwf⟩ := hw
          refine lv_icmp_eq (tgt := 99) hx hb d_R_quotedEnd_46 (by decide) (fun c_11 => ?_) (fun c_11 => ?_)
          · have hw := hwt c_11
            exact L_99 x2 x3 x4 rsize rval risP cnt look bad byZ inr rpl hld store _ _ _ hw hP hD hS (lv_sub hl [0, 1, 2, 3] rfl)
          · have hw := hwf c_11
            refine lv_aload_n hx hb d_R_quotedEnd_49 rfl (lv_at hl 0 rfl) ?_
            refine va_get (D := (dC, dI)) (ci := 5) (v := .ref (ad 12)) (C := R_R) (T := T_R) (N := 16) hx hb hts in_R hown hK hP 0 rfl rfl 1 (by decide) (hts _ ux_46) (fun _ h9 => h9) rfl d_R_quotedEnd_50 ?_
            refine lv_iload hx hb d_R_quotedEnd_53 (lv_at hl 3 rfl) ?_
            obtain ⟨hi_12, hw⟩ := hw
            refine va_bald hx hb hK hP 1 0 rfl rfl hi_12 d_R_quotedEnd_55 ?_
            refine lv_bipush (v := 92) hx hb d_R_quotedEnd_56 (by decide) ?_
            obtain ⟨hwt, hwf⟩ := hw
            refine lv_icmp_ne (tgt := 90) hx hb d_R_quotedEnd_58 (by decide) (fun c_13 => ?_) (fun c_13 => ?_)
            · have hw := hwf c_13
              refine lv_iload hx hb d_R_quotedEnd_90 (lv_at hl 3 rfl) ?_
              refine lv_iconst (v := 1) hx hb d_R_quotedEnd_92 (by decide) ?_
              refine lv_iadd hx hb d_R_quotedEnd_93 ?_
              refine lv_topi (fun x4_14 ex4_14 => ?_)
              have hw := hw x4_14 ex4_14
              refine lv_istore (lv' := [(4, .int x4_14), (0, .ref (ad 11)), (2, .int x2), (3, .int x3)]) hx hb d_R_quotedEnd_94 hl (by decide) rfl (fun ls hl => ?_)
              refine lv_goto (tgt := 16) hx hb d_R_quotedEnd_96 (by decide) ?_
              exact ih x4_14 _ _ _ hw hP hD hS (lv_sub hl [1, 2, 3, 0] rfl)
            · have hw := hwt c_13
              refine lv_iload hx hb d_R_quotedEnd_61 (lv_at hl 3 rfl) ?_
              refine lv_iconst (v := 1) hx hb d_R_quotedEnd_63 (by decide) ?_
              refine lv_iadd hx hb d_R_quotedEnd_64 ?_
              refine lv_iload_n hx hb d_R_quotedEnd_65 rfl (lv_at hl 1 rfl) ?_
              obtain ⟨hwt, hwf⟩ := hw
              refine lv_icmp_ge (tgt := 90) hx hb d_R_quotedEnd_66 (by decide) (fun c_15 => ?_) (fun c_15 => ?_)
              · have hw := hwt c_15
                refine lv_iload hx hb d_R_quotedEnd_90 (lv_at hl 3 rfl) ?_
                refine lv_iconst (v := 1) hx hb d_R_quotedEnd_92 (by decide) ?_
                refine lv_iadd hx hb d_R_quotedEnd_93 ?_
                refine lv_topi (fun x4_16 ex4_16 => ?_)
                have hw := hw x4_16 ex4_16
                refine lv_istore (lv' := [(4, .int x4_16), (0, .ref (ad 11)), (2, .int x2), (3, .int x3)]) hx hb d_R_quotedEnd_94 hl (by decide) rfl (fun ls hl => ?_)
                refine lv_goto (tgt := 16) hx hb d_R_quotedEnd_96 (by decide) ?_
                exact ih x4_16 _ _ _ hw hP hD hS (lv_sub hl [1, 2, 3, 0] rfl)
              · have hw := hwf c_15
                refine lv_aload_n hx hb d_R_quotedEnd_69 rfl (lv_at hl 0 rfl) ?_
                refine va_get (D := (dC, dI)) (ci := 5) (v := .ref (ad 12)) (C := R_R) (T := T_R) (N := 16) hx hb hts in_R hown hK hP 0 rfl rfl 1 (by decide) (hts _ ux_46) (fun _ h9 => h9) rfl d_R_quotedEnd_70 ?_
                refine lv_iload hx hb d_R_quotedEnd_73 (lv_at hl 3 rfl) ?_
                refine lv_iconst (v := 1) hx hb d_R_quotedEnd_75 (by decide) ?_
                refine lv_iadd hx hb d_R_quotedEnd_76 ?_
                obtain ⟨hi_17, hw⟩ := hw
                refine va_bald hx hb hK hP 1 0 rfl rfl hi_17 d_R_quotedEnd_77 ?_
                refine lv_bipush (v := 10) hx hb d_R_quotedEnd_78 (by decide) ?_
                obtain ⟨hwt, hwf⟩ := hw
                refine lv_icmp_eq (tgt := 90) hx hb d_R_quotedEnd_80 (by decide) (fun c_18 => ?_) (fun c_18 => ?_)
                · have hw := hwt c_18
                  refine lv_iload hx hb d_R_quotedEnd_90 (lv_at hl 3 rfl) ?_
                  refine lv_iconst (v := 1) hx hb d_R_quotedEnd_92 (by decide) ?_
                  refine lv_iadd hx hb d_R_quotedEnd_93 ?_
                  refine lv_topi (fun x4_19 ex4_19 => ?_)
                  have hw := hw x4_19 ex4_19
                  refine lv_istore (lv' := [(4, .int x4_19), (0, .ref (ad 11)), (2, .int x2), (3, .int x3)]) hx hb d_R_quotedEnd_94 hl (by decide) rfl (fun ls hl => ?_)
                  refine lv_goto (tgt := 16) hx hb d_R_quotedEnd_96 (by decide) ?_
                  exact ih x4_19 _ _ _ hw hP hD hS (lv_sub hl [1, 2, 3, 0] rfl)
                · have hw := hwf c_18
                  refine lv_iload hx hb d_R_quotedEnd_83 (lv_at hl 3 rfl) ?_
                  refine lv_iconst (v := 2) hx hb d_R_quotedEnd_85 (by decide) ?_
                  refine lv_iadd hx hb d_R_quotedEnd_86 ?_
                  refine lv_goto (tgt := 94) hx hb d_R_quotedEnd_87 (by decide) ?_
                  refine lv_topi (fun x4_20 ex4_20 => ?_)
                  have hw := hw x4_20 ex4_20
                  refine lv_istore (lv' := [(4, .int x4_20), (0, .ref (ad 11)), (2, .int x2), (3, .int x3)]) hx hb d_R_quotedEnd_94 hl (by decide) rfl (fun ls hl => ?_)
                  refine lv_goto (tgt := 16) hx hb d_R_quotedEnd_96 (by decide) ?_
                  exact ih x4_20 _ _ _ hw hP hD hS (lv_sub hl [1, 2, 3, 0] rfl)
  refine lv_aload_n hx hb d_R_quotedEnd_0 rfl (lv_at hl 0 rfl) ?_
  refine va_get (D := (dC, dI)) (ci := 5) (v := .ref (ad 12)) (C := R_R) (T := T_R) (N := 16) hx hb hts in_R hown hK hP 0 rfl rfl 1 (by decide) (hts _ ux_46) (fun _ h9 => h9) rfl d_R_quotedEnd_1 ?_
  refine lv_iload_n hx hb d_R_quotedEnd_4 rfl (lv_at hl 1 rfl) ?_
  obtain ⟨hi_1, hw⟩ := hw
  refine va_bald hx hb hK hP 1 0 rfl rfl hi_1 d_R_quotedEnd_5 ?_
  refine lv_sipush (v := 255) hx hb d_R_quotedEnd_6 (by decide) ?_
  refine lv_iand hx hb d_R_quotedEnd_9 ?_
  refine lv_topi (fun x3_2 ex3_2 => ?_)
  have hw := hw x3_2 ex3_2
  refine lv_istore_n (lv' := [(3, .int x3_2), (0, .ref (ad 11)), (1, .int p0), (2, .int p1)]) hx hb d_R_quotedEnd_10 rfl hl (by decide) rfl (fun ls hl => ?_)
  refine lv_iload_n hx hb d_R_quotedEnd_11 rfl (lv_at hl 2 rfl) ?_
  refine lv_iconst (v := 1) hx hb d_R_quotedEnd_12 (by decide) ?_
  refine lv_iadd hx hb d_R_quotedEnd_13 ?_
  refine lv_topi (fun x4_3 ex4_3 => ?_)
  have hw := hw x4_3 ex4_3
  refine lv_istore (lv' := [(4, .int x4_3), (3, .int x3_2), (0, .ref (ad 11)), (1, .int p0), (2, .int p1)]) hx hb d_R_quotedEnd_14 hl (by decide) rfl (fun ls hl => ?_)
  obtain ⟨fu16, hw⟩ := hw
  exact L_16 p1 x3_2 rsize rval risP cnt look bad byZ inr rpl hld store fu16 x4_3 _ _ _ hw hP hD hS (lv_sub hl [2, 4, 1, 0] rfl)

abbrev wd_R_signSize (ad : Nat → Nat) (ck : Nat → ClassId) (rsize : Int32) (rval : Int64) (risP : Int32) (cnt : Int32) (look : Int32) (bad : Int32) (byZ : Int32) (inr : Int32) (rpl : Int32) (hld : Int32) (store : Nat → Int32) : va_W := [(ad 11, .inr (5, [.int rsize, .ref (ad 12), .long rval, .int risP, .int cnt, .ref (ad 13), .ref (ad 14), .int look, .int bad, .int byZ, .int inr, .int rpl, .int hld, .ref (ad 15), .ref (ad 16), .ref (ad 17)])), (ad 12, .inl (ck 6, 4096, .inl store))]
def w_R_signSize_126 (post : Int32 → Prop) (x3 : Int32) (x4 : Int32) (x6 : Int32) (z0 : Int32) (rsize : Int32) (rval : Int64) (risP : Int32) (cnt : Int32) (look : Int32) (bad : Int32) (byZ : Int32) (inr : Int32) (rpl : Int32) (hld : Int32) (store : Nat → Int32) : Prop := (x6 = 0 → ((z0 = 0 → ((x3 = 45 → ((x4 = 62 → (post 2)) ∧ (¬ x4 = 62 → (post 1)))) ∧ (¬ x3 = 45 → (post 1)))) ∧ (¬ z0 = 0 → (post 2)))) ∧ (¬ x6 = 0 → (post 2))
def w_R_signSize_83 (post : Int32 → Prop) (x3 : Int32) (x4 : Int32) (rsize : Int32) (rval : Int64) (risP : Int32) (cnt : Int32) (look : Int32) (bad : Int32) (byZ : Int32) (inr : Int32) (rpl : Int32) (hld : Int32) (store : Nat → Int32) : Prop := (x3 = x4 → (wp_R_isOneOf (fun (r_15 : Int32) => (r_15 = 0 → ((x4 = 61 → (wp_R_isOneOf (fun (r_18 : Int32) => (r_18 = 0 → (w_R_signSize_126 post x3 x4 0 0 rsize rval risP cnt look bad byZ inr rpl hld store)) ∧ (¬ r_18 = 0 → (w_R_signSize_126 post x3 x4 0 1 rsize rval risP cnt look bad byZ inr rpl hld store))) x3 2)) ∧ (¬ x4 = 61 → (w_R_signSize_126 post x3 x4 0 0 rsize rval risP cnt look bad byZ inr rpl hld store)))) ∧ (¬ r_15 = 0 → ((x4 = 61 → (wp_R_isOneOf (fun (r_21 : Int32) => (r_21 = 0 → (w_R_signSize_126 post x3 x4 1 0 rsize rval risP cnt look bad byZ inr rpl hld store)) ∧ (¬ r_21 = 0 → (w_R_signSize_126 post x3 x4 1 1 rsize rval risP cnt look bad byZ inr rpl hld store))) x3 2)) ∧ (¬ x4 = 61 → (w_R_signSize_126 post x3 x4 1 0 rsize rval risP cnt look bad byZ inr rpl hld store))))) x3 1)) ∧ (¬ x3 = x4 → ((x4 = 61 → (wp_R_isOneOf (fun (r_13 : Int32) => (r_13 = 0 → (w_R_signSize_126 post x3 x4 0 0 rsize rval risP cnt look bad byZ inr rpl hld store)) ∧ (¬ r_13 = 0 → (w_R_signSize_126 post x3 x4 0 1 rsize rval risP cnt look bad byZ inr rpl hld store))) x3 2)) ∧ (¬ x4 = 61 → (w_R_signSize_126 post x3 x4 0 0 rsize rval risP cnt look bad byZ inr rpl hld store))))
def w_R_signSize_56 (post : Int32 → Prop) (x3 : Int32) (x4 : Int32) (x5 : Int32) (rsize : Int32) (rval : Int64) (risP : Int32) (cnt : Int32) (look : Int32) (bad : Int32) (byZ : Int32) (inr : Int32) (rpl : Int32) (hld : Int32) (store : Nat → Int32) : Prop := (x3 = 60 → ((x4 = x3 → ((x5 = 61 → (post 3)) ∧ (¬ x5 = 61 → (w_R_signSize_83 post x3 x4 rsize rval risP cnt look bad byZ inr rpl hld store)))) ∧ (¬ x4 = x3 → (w_R_signSize_83 post x3 x4 rsize rval risP cnt look bad byZ inr rpl hld store)))) ∧ (¬ x3 = 60 → ((x3 = 62 → ((x4 = x3 → ((x5 = 61 → (post 3)) ∧ (¬ x5 = 61 → (w_R_signSize_83 post x3 x4 rsize rval risP cnt look bad byZ inr rpl hld store)))) ∧ (¬ x4 = x3 → (w_R_signSize_83 post x3 x4 rsize rval risP cnt look bad byZ inr rpl hld store)))) ∧ (¬ x3 = 62 → (w_R_signSize_83 post x3 x4 rsize rval risP cnt look bad byZ inr rpl hld store))))
def wp_R_signSize (post : Int32 → Prop) (rsize : Int32) (rval : Int64) (risP : Int32) (cnt : Int32) (look : Int32) (bad : Int32) (byZ : Int32) (inr : Int32) (rpl : Int32) (hld : Int32) (store : Nat → Int32) (p0 : Int32) (p1 : Int32) : Prop := wp_R_byteAt (fun (r_1 : Int32) => wp_R_byteAt (fun (r_2 : Int32) => wp_R_byteAt (fun (r_3 : Int32) => (r_1 = 46 → ((r_2 = 46 → ((r_3 = 46 → (post 3)) ∧ (¬ r_3 = 46 → (w_R_signSize_56 post r_1 r_2 r_3 rsize rval risP cnt look bad byZ inr rpl hld store)))) ∧ (¬ r_2 = 46 → (w_R_signSize_56 post r_1 r_2 r_3 rsize rval risP cnt look bad byZ inr rpl hld store)))) ∧ (¬ r_1 = 46 → (w_R_signSize_56 post r_1 r_2 r_3 rsize rval risP cnt look bad byZ inr rpl hld store))) store (p0 + 2) p1) store (p0 + 1) p1) store p0 p1
set_option maxHeartbeats 4000000 in
set_option maxRecDepth 100000 in
theorem kc_R_signSize (l : Launch) (dC : Nat → ClassId) (dI : Nat → Nat → Nat) (ad : Nat → Nat) (ck : Nat → ClassId) (sa sv : Nat → Nat) (sf : Option Nat) (rsize : Int32) (rval : Int64) (risP : Int32) (cnt : Int32) (look : Int32) (bad : Int32) (byZ : Int32) (inr : Int32) (rpl : Int32) (hld : Int32) (store : Nat → Int32) (p0 : Int32) (p1 : Int32) {post : Int32 → Prop} (hw : wp_R_signSize post rsize rval risP cnt look bad byZ inr rpl hld store p0 p1) : k_Ci l y_R_signSize ws_R_signSize ({ frames := 5, cells := 0, slots := 0, locals := 108 } : Room) (dC, dI) vwCl (TYr ck) (XR sa sv sf) [.ref (ad 11), .int p0, .int p1] (wd_R_signSize ad ck rsize rval risP cnt look bad byZ inr rpl hld store) (fun (r : Int32) (u : Unit) => post r ) (fun (u : Unit) => wd_R_signSize ad ck rsize rval risP cnt look bad byZ inr rpl hld store) := by
  intro sz
  refine Met.ofW (cc := c_R_signSize) (maxL := 8) (ret := (some .int)) (by decide) rfl ?_
  intro p e s m args below meth c s₁ B hml hv
  obtain ⟨rfl, hsz, hP, hK, hD0, hX⟩ := hv
  have hx := B.exec
  have hb := B.bytes
  have hr := B.returns
  have hts : ∀ w ∈ TB, w.before _ s = true := fun w h => atoms_spec (ws := ws_R_signSize) B.pre w (List.mem_cons_of_mem _ h)
  have hown : s.vm.findClass R_R = some m.cls := findClass_of_methodNamed B.named
  have hlocks := B.notSynchronized
  subst hsz
  have hD := hD0.self (sz := s.heap.size)
  generalize hAe : va_A (wd_R_signSize ad ck rsize rval risP cnt look bad byZ inr rpl hld store) s.heap.size = A at hD hX ⊢
  have hA : ∀ q : Nat, s.heap.size ≤ q → A q := fun q h => by rw [← hAe]; exact Or.inr h
  have hS : va_S A s.heap s.heap [] := va_S.rf
  have hP : va_P (dC, dI) vwCl (wd_R_signSize ad ck rsize rval risP cnt look bad byZ inr rpl hld store) s.heap := hP
  have hl := lv_entry ([.ref (ad 11), .int p0, .int p1]) (n := 8) (Nat.le_of_ble_eq_true rfl)
  rw [lg_entry_eq]
  generalize (lg_sl ([.ref (ad 11), .int p0, .int p1]) ++ List.replicate (8 - (lg_sl ([.ref (ad 11), .int p0, .int p1])).length) Slot.unset).toArray = ls at hl ⊢
  have hl : lv_has ls 8 [(0, .ref (ad 11)), (1, .int p0), (2, .int p1)] := hl
  have L_126 : ∀ (x3 : Int32) (x4 : Int32) (x6 : Int32) (z0 : Int32) (rsize : Int32) (rval : Int64) (risP : Int32) (cnt : Int32) (look : Int32) (bad : Int32) (byZ : Int32) (inr : Int32) (rpl : Int32) (hld : Int32) (store : Nat → Int32) (H : Heap) (locs : List Loc) (ls : Array Slot), w_R_signSize_126 post x3 x4 x6 z0 rsize rval risP cnt look bad byZ inr rpl hld store → va_P (dC, dI) vwCl (wd_R_signSize ad ck rsize rval risP cnt look bad byZ inr rpl hld store) H → va_D A (wd_R_signSize ad ck rsize rval risP cnt look bad byZ inr rpl hld store) → va_S A s.heap H locs → lv_has ls 8 [(3, .int x3), (4, .int x4), (6, .int x6)] → W p l e (headSpec ws_R_signSize ({ frames := 5, cells := 0, slots := 0, locals := 108 } : Room)).room s m ([.ref (ad 11), .int p0, .int p1] : List Value).toArray below meth c H locs 0 0 (k_Qi below (dC, dI) vwCl (TYr ck) A (fun (r : Int32) (u : Unit) => post r ) (fun (u : Unit) => wd_R_signSize ad ck rsize rval risP cnt look bad byZ inr rpl hld store) ([.ref (ad 11), .int p0, .int p1] : List Value).toArray s) (F0 m 126 ls [.int z0]) := by
    intro x3 x4 x6 z0 rsize rval risP cnt look bad byZ inr rpl hld store H locs ls hw hP hD hS hl
    refine lv_istore (lv' := [(7, .int z0), (3, .int x3), (4, .int x4), (6, .int x6)]) hx hb d_R_signSize_126 hl (by decide) rfl (fun ls hl => ?_)
    refine lv_iload hx hb d_R_signSize_128 (lv_at hl 3 rfl) ?_
    obtain ⟨hwt, hwf⟩ := hw
    refine lv_if_ne (tgt := 151) hx hb d_R_signSize_130 (by decide) (fun c_9 => ?_) (fun c_9 => ?_)
    · have hw := hwf c_9
      refine lv_iconst (v := 2) hx hb d_R_signSize_151 (by decide) ?_
      refine lv_goto (tgt := 156) hx hb d_R_signSize_152 (by decide) ?_
      exact W.iret (v := 2) hx hb hr (fun t ht hW => ⟨⟨2, (), rfl, hw, by rw [ht]; exact hP, va_K.moved hW.alike hK, hD⟩, hS.F ht⟩) hS.2.2 d_R_signSize_156
    · have hw := hwt c_9
      refine lv_iload hx hb d_R_signSize_133 (lv_at hl 0 rfl) ?_
      obtain ⟨hwt, hwf⟩ := hw
      refine lv_if_ne (tgt := 151) hx hb d_R_signSize_135 (by decide) (fun c_10 => ?_) (fun c_10 => ?_)
      · have hw := hwf c_10
        refine lv_iconst (v := 2) hx hb d_R_signSize_151 (by decide) ?_
        refine lv_goto (tgt := 156) hx hb d_R_signSize_152 (by decide) ?_
        exact W.iret (v := 2) hx hb hr (fun t ht hW => ⟨⟨2, (), rfl, hw, by rw [ht]; exact hP, va_K.moved hW.alike hK, hD⟩, hS.F ht⟩) hS.2.2 d_R_signSize_156
      · have hw := hwt c_10
        refine lv_iload_n hx hb d_R_signSize_138 rfl (lv_at hl 1 rfl) ?_
        refine lv_bipush (v := 45) hx hb d_R_signSize_139 (by decide) ?_
        obtain ⟨hwt, hwf⟩ := hw
        refine lv_icmp_ne (tgt := 155) hx hb d_R_signSize_141 (by decide) (fun c_11 => ?_) (fun c_11 => ?_)
        · have hw := hwf c_11
          refine lv_iconst (v := 1) hx hb d_R_signSize_155 (by decide) ?_
          exact W.iret (v := 1) hx hb hr (fun t ht hW => ⟨⟨1, (), rfl, hw, by rw [ht]; exact hP, va_K.moved hW.alike hK, hD⟩, hS.F ht⟩) hS.2.2 d_R_signSize_156
        · have hw := hwt c_11
          refine lv_iload hx hb d_R_signSize_144 (lv_at hl 2 rfl) ?_
          refine lv_bipush (v := 62) hx hb d_R_signSize_146 (by decide) ?_
          obtain ⟨hwt, hwf⟩ := hw
          refine lv_icmp_ne (tgt := 155) hx hb d_R_signSize_148 (by decide) (fun c_12 => ?_) (fun c_12 => ?_)
          · have hw := hwf c_12
            refine lv_iconst (v := 1) hx hb d_R_signSize_155 (by decide) ?_
            exact W.iret (v := 1) hx hb hr (fun t ht hW => ⟨⟨1, (), rfl, hw, by rw [ht]; exact hP, va_K.moved hW.alike hK, hD⟩, hS.F ht⟩) hS.2.2 d_R_signSize_156
          · have hw := hwt c_12
            refine lv_iconst (v := 2) hx hb d_R_signSize_151 (by decide) ?_
            refine lv_goto (tgt := 156) hx hb d_R_signSize_152 (by decide) ?_
            exact W.iret (v := 2) hx hb hr (fun t ht hW => ⟨⟨2, (), rfl, hw, by rw [ht]; exact hP, va_K.moved hW.alike hK, hD⟩, hS.F ht⟩) hS.2.2 d_R_signSize_156
  have L_83 : ∀ (x3 : Int32) (x4 : Int32) (rsize : Int32) (rval : Int64) (risP : Int32) (cnt : Int32) (look : Int32) (bad : Int32) (byZ : Int32) (inr : Int32) (rpl : Int32) (hld : Int32) (store : Nat → Int32) (H : Heap) (locs : List Loc) (ls : Array Slot), w_R_signSize_83 post x3 x4 rsize rval risP cnt look bad byZ inr rpl hld store → va_P (dC, dI) vwCl (wd_R_signSize ad ck rsize rval risP cnt look bad byZ inr rpl hld store) H → va_D A (wd_R_signSize ad ck rsize rval risP cnt look bad byZ inr rpl hld store) → va_S A s.heap H locs → lv_has ls 8 [(3, .int x3), (4, .int x4)] → W p l e (headSpec ws_R_signSize ({ frames := 5, cells := 0, slots := 0, locals := 108 } : Room)).room s m ([.ref (ad 11), .int p0, .int p1] : List Value).toArray below meth c H locs 0 0 (k_Qi below (dC, dI) vwCl (TYr ck) A (fun (r : Int32) (u : Unit) => post r ) (fun (u : Unit) => wd_R_signSize ad ck rsize rval risP cnt look bad byZ inr rpl hld store) ([.ref (ad 11), .int p0, .int p1] : List Value).toArray s) (F0 m 83 ls []) := by
    intro x3 x4 rsize rval risP cnt look bad byZ inr rpl hld store H locs ls hw hP hD hS hl
    refine lv_iload_n hx hb d_R_signSize_83 rfl (lv_at hl 0 rfl) ?_
    refine lv_iload hx hb d_R_signSize_84 (lv_at hl 1 rfl) ?_
    obtain ⟨hwt, hwf⟩ := hw
    refine lv_icmp_ne (tgt := 102) hx hb d_R_signSize_86 (by decide) (fun c_7 => ?_) (fun c_7 => ?_)
    · have hw := hwf c_7
      refine lv_iconst (v := 0) hx hb d_R_signSize_102 (by decide) ?_
      refine lv_istore (lv' := [(6, .int 0), (3, .int x3), (4, .int x4)]) hx hb d_R_signSize_103 hl (by decide) rfl (fun ls hl => ?_)
      refine lv_iload hx hb d_R_signSize_105 (lv_at hl 2 rfl) ?_
      refine lv_bipush (v := 61) hx hb d_R_signSize_107 (by decide) ?_
      obtain ⟨hwt, hwf⟩ := hw
      refine lv_icmp_ne (tgt := 125) hx hb d_R_signSize_109 (by decide) (fun c_8 => ?_) (fun c_8 => ?_)
      · have hw := hwf c_8
        refine lv_iconst (v := 0) hx hb d_R_signSize_125 (by decide) ?_
        exact L_126 x3 x4 0 0 rsize rval risP cnt look bad byZ inr rpl hld store _ _ _ hw hP hD hS (lv_sub hl [1, 2, 0] rfl)
      · have hw := hwt c_8
        refine lv_iload_n hx hb d_R_signSize_112 rfl (lv_at hl 1 rfl) ?_
        refine va_ldcS hx hb hown (hX.1 _ rs_2) d_R_signSize_113 ?_
        refine k_callSi (As := [.int x3, .ref (sa 2)]) (rest := []) (fun (u : Unit) => wd_R_signSize ad ck rsize rval risP cnt look bad byZ inr rpl hld store) ⟨hx, hb, hml, hown, hts⟩ (kc_R_isOneOf l dC dI ad ck sa sv sf x3 2 (hw := hw)) (va_cwS 2 hts (gS ux_51 ux_53 ux_49 ux_52) rfl rfl rfl hd_R_isOneOf ⟨Nat.le_of_ble_eq_true rfl, Nat.le_of_ble_eq_true rfl⟩) hK hP hD hS hA (XR_c sa sv sf) hX [] [0, 1] [0, 1] rfl rfl (by decide) (by decide) (fun _ => rfl) rfl hl.1 rfl (lv_room (Nat.le_of_ble_eq_true rfl)) d_R_signSize_115 ⟨Nat.zero_le _, Nat.zero_le _⟩ ?_
        intro r_13 u H locs hw hP hD hS
        have hP : va_P (dC, dI) vwCl (wd_R_signSize ad ck rsize rval risP cnt look bad byZ inr rpl hld store) H := hP
        have hD : va_D A (wd_R_signSize ad ck rsize rval risP cnt look bad byZ inr rpl hld store) := hD
        try dsimp only at hw
        obtain ⟨hwt, hwf⟩ := hw
        refine lv_if_eq (tgt := 125) hx hb d_R_signSize_118 (by decide) (fun c_14 => ?_) (fun c_14 => ?_)
        · have hw := hwt c_14
          refine lv_iconst (v := 0) hx hb d_R_signSize_125 (by decide) ?_
          exact L_126 x3 x4 0 0 rsize rval risP cnt look bad byZ inr rpl hld store _ _ _ hw hP hD hS (lv_sub hl [1, 2, 0] rfl)
        · have hw := hwf c_14
          refine lv_iconst (v := 1) hx hb d_R_signSize_121 (by decide) ?_
          refine lv_goto (tgt := 126) hx hb d_R_signSize_122 (by decide) ?_
          exact L_126 x3 x4 0 1 rsize rval risP cnt look bad byZ inr rpl hld store _ _ _ hw hP hD hS (lv_sub hl [1, 2, 0] rfl)
    · have hw := hwt c_7
      refine lv_iload_n hx hb d_R_signSize_89 rfl (lv_at hl 0 rfl) ?_
      refine va_ldcS hx hb hown (hX.1 _ rs_1) d_R_signSize_90 ?_
      refine k_callSi (As := [.int x3, .ref (sa 1)]) (rest := []) (fun (u : Unit) => wd_R_signSize ad ck rsize rval risP cnt look bad byZ inr rpl hld store) ⟨hx, hb, hml, hown, hts⟩ (kc_R_isOneOf l dC dI ad ck sa sv sf x3 1 (hw := hw)) (va_cwS 2 hts (gS ux_51 ux_53 ux_49 ux_52) rfl rfl rfl hd_R_isOneOf ⟨Nat.le_of_ble_eq_true rfl, Nat.le_of_ble_eq_true rfl⟩) hK hP hD hS hA (XR_c sa sv sf) hX [] [0, 1] [0, 1] rfl rfl (by decide) (by decide) (fun _ => rfl) rfl hl.1 rfl (lv_room (Nat.le_of_ble_eq_true rfl)) d_R_signSize_92 ⟨Nat.zero_le _, Nat.zero_le _⟩ ?_
      intro r_15 u H locs hw hP hD hS
      have hP : va_P (dC, dI) vwCl (wd_R_signSize ad ck rsize rval risP cnt look bad byZ inr rpl hld store) H := hP
      have hD : va_D A (wd_R_signSize ad ck rsize rval risP cnt look bad byZ inr rpl hld store) := hD
      try dsimp only at hw
      obtain ⟨hwt, hwf⟩ := hw
      refine lv_if_eq (tgt := 102) hx hb d_R_signSize_95 (by decide) (fun c_16 => ?_) (fun c_16 => ?_)
      · have hw := hwt c_16
        refine lv_iconst (v := 0) hx hb d_R_signSize_102 (by decide) ?_
        refine lv_istore (lv' := [(6, .int 0), (3, .int x3), (4, .int x4)]) hx hb d_R_signSize_103 hl (by decide) rfl (fun ls hl => ?_)
        refine lv_iload hx hb d_R_signSize_105 (lv_at hl 2 rfl) ?_
        refine lv_bipush (v := 61) hx hb d_R_signSize_107 (by decide) ?_
        obtain ⟨hwt, hwf⟩ := hw
        refine lv_icmp_ne (tgt := 125) hx hb d_R_signSize_109 (by decide) (fun c_17 => ?_) (fun c_17 => ?_)
        · have hw := hwf c_17
          refine lv_iconst (v := 0) hx hb d_R_signSize_125 (by decide) ?_
          exact L_126 x3 x4 0 0 rsize rval risP cnt look bad byZ inr rpl hld store _ _ _ hw hP hD hS (lv_sub hl [1, 2, 0] rfl)
        · have hw := hwt c_17
          refine lv_iload_n hx hb d_R_signSize_112 rfl (lv_at hl 1 rfl) ?_
          refine va_ldcS hx hb hown (hX.1 _ rs_2) d_R_signSize_113 ?_
          refine k_callSi (As := [.int x3, .ref (sa 2)]) (rest := []) (fun (u : Unit) => wd_R_signSize ad ck rsize rval risP cnt look bad byZ inr rpl hld store) ⟨hx, hb, hml, hown, hts⟩ (kc_R_isOneOf l dC dI ad ck sa sv sf x3 2 (hw := hw)) (va_cwS 2 hts (gS ux_51 ux_53 ux_49 ux_52) rfl rfl rfl hd_R_isOneOf ⟨Nat.le_of_ble_eq_true rfl, Nat.le_of_ble_eq_true rfl⟩) hK hP hD hS hA (XR_c sa sv sf) hX [] [0, 1] [0, 1] rfl rfl (by decide) (by decide) (fun _ => rfl) rfl hl.1 rfl (lv_room (Nat.le_of_ble_eq_true rfl)) d_R_signSize_115 ⟨Nat.zero_le _, Nat.zero_le _⟩ ?_
          intro r_18 u H locs hw hP hD hS
          have hP : va_P (dC, dI) vwCl (wd_R_signSize ad ck rsize rval risP cnt look bad byZ inr rpl hld store) H := hP
          have hD : va_D A (wd_R_signSize ad ck rsize rval risP cnt look bad byZ inr rpl hld store) := hD
          try dsimp only at hw
          obtain ⟨hwt, hwf⟩ := hw
          refine lv_if_eq (tgt := 125) hx hb d_R_signSize_118 (by decide) (fun c_19 => ?_) (fun c_19 => ?_)
          · have hw := hwt c_19
            refine lv_iconst (v := 0) hx hb d_R_signSize_125 (by decide) ?_
            exact L_126 x3 x4 0 0 rsize rval risP cnt look bad byZ inr rpl hld store _ _ _ hw hP hD hS (lv_sub hl [1, 2, 0] rfl)
          · have hw := hwf c_19
            refine lv_iconst (v := 1) hx hb d_R_signSize_121 (by decide) ?_
            refine lv_goto (tgt := 126) hx hb d_R_signSize_122 (by decide) ?_
            exact L_126 x3 x4 0 1 rsize rval risP cnt look bad byZ inr rpl hld store _ _ _ hw hP hD hS (lv_sub hl [1, 2, 0] rfl)
      · have hw := hwf c_16
        refine lv_iconst (v := 1) hx hb d_R_signSize_98 (by decide) ?_
        refine lv_goto (tgt := 103) hx hb d_R_signSize_99 (by decide) ?_
        refine lv_istore (lv' := [(6, .int 1), (3, .int x3), (4, .int x4)]) hx hb d_R_signSize_103 hl (by decide) rfl (fun ls hl => ?_)
        refine lv_iload hx hb d_R_signSize_105 (lv_at hl 2 rfl) ?_
        refine lv_bipush (v := 61) hx hb d_R_signSize_107 (by decide) ?_
        obtain ⟨hwt, hwf⟩ := hw
        refine lv_icmp_ne (tgt := 125) hx hb d_R_signSize_109 (by decide) (fun c_20 => ?_) (fun c_20 => ?_)
        · have hw := hwf c_20
          refine lv_iconst (v := 0) hx hb d_R_signSize_125 (by decide) ?_
          exact L_126 x3 x4 1 0 rsize rval risP cnt look bad byZ inr rpl hld store _ _ _ hw hP hD hS (lv_sub hl [1, 2, 0] rfl)
        · have hw := hwt c_20
          refine lv_iload_n hx hb d_R_signSize_112 rfl (lv_at hl 1 rfl) ?_
          refine va_ldcS hx hb hown (hX.1 _ rs_2) d_R_signSize_113 ?_
          refine k_callSi (As := [.int x3, .ref (sa 2)]) (rest := []) (fun (u : Unit) => wd_R_signSize ad ck rsize rval risP cnt look bad byZ inr rpl hld store) ⟨hx, hb, hml, hown, hts⟩ (kc_R_isOneOf l dC dI ad ck sa sv sf x3 2 (hw := hw)) (va_cwS 2 hts (gS ux_51 ux_53 ux_49 ux_52) rfl rfl rfl hd_R_isOneOf ⟨Nat.le_of_ble_eq_true rfl, Nat.le_of_ble_eq_true rfl⟩) hK hP hD hS hA (XR_c sa sv sf) hX [] [0, 1] [0, 1] rfl rfl (by decide) (by decide) (fun _ => rfl) rfl hl.1 rfl (lv_room (Nat.le_of_ble_eq_true rfl)) d_R_signSize_115 ⟨Nat.zero_le _, Nat.zero_le _⟩ ?_
          intro r_21 u H locs hw hP hD hS
          have hP : va_P (dC, dI) vwCl (wd_R_signSize ad ck rsize rval risP cnt look bad byZ inr rpl hld store) H := hP
          have hD : va_D A (wd_R_signSize ad ck rsize rval risP cnt look bad byZ inr rpl hld store) := hD
          try dsimp only at hw
          obtain ⟨hwt, hwf⟩ := hw
          refine lv_if_eq (tgt := 125) hx hb d_R_signSize_118 (by decide) (fun c_22 => ?_) (fun c_22 => ?_)
          · have hw := hwt c_22
            refine lv_iconst (v := 0) hx hb d_R_signSize_125 (by decide) ?_
            exact L_126 x3 x4 1 0 rsize rval risP cnt look bad byZ inr rpl hld store _ _ _ hw hP hD hS (lv_sub hl [1, 2, 0] rfl)
          · have hw := hwf c_22
            refine lv_iconst (v := 1) hx hb d_R_signSize_121 (by decide) ?_
            refine lv_goto (tgt := 126) hx hb d_R_signSize_122 (by decide) ?_
            exact L_126 x3 x4 1 1 rsize rval risP cnt look bad byZ inr rpl hld store _ _ _ hw hP hD hS (lv_sub hl [1, 2, 0] rfl)
  have L_56 : ∀ (x3 : Int32) (x4 : Int32) (x5 : Int32) (rsize : Int32) (rval : Int64) (risP : Int32) (cnt : Int32) (look : Int32) (bad : Int32) (byZ : Int32) (inr : Int32) (rpl : Int32) (hld : Int32) (store : Nat → Int32) (H : Heap) (locs : List Loc) (ls : Array Slot), w_R_signSize_56 post x3 x4 x5 rsize rval risP cnt look bad byZ inr rpl hld store → va_P (dC, dI) vwCl (wd_R_signSize ad ck rsize rval risP cnt look bad byZ inr rpl hld store) H → va_D A (wd_R_signSize ad ck rsize rval risP cnt look bad byZ inr rpl hld store) → va_S A s.heap H locs → lv_has ls 8 [(3, .int x3), (4, .int x4), (5, .int x5)] → W p l e (headSpec ws_R_signSize ({ frames := 5, cells := 0, slots := 0, locals := 108 } : Room)).room s m ([.ref (ad 11), .int p0, .int p1] : List Value).toArray below meth c H locs 0 0 (k_Qi below (dC, dI) vwCl (TYr ck) A (fun (r : Int32) (u : Unit) => post r ) (fun (u : Unit) => wd_R_signSize ad ck rsize rval risP cnt look bad byZ inr rpl hld store) ([.ref (ad 11), .int p0, .int p1] : List Value).toArray s) (F0 m 56 ls []) := by
    intro x3 x4 x5 rsize rval risP cnt look bad byZ inr rpl hld store H locs ls hw hP hD hS hl
    refine lv_iload_n hx hb d_R_signSize_56 rfl (lv_at hl 0 rfl) ?_
    refine lv_bipush (v := 60) hx hb d_R_signSize_57 (by decide) ?_
    obtain ⟨hwt, hwf⟩ := hw
    refine lv_icmp_eq (tgt := 68) hx hb d_R_signSize_59 (by decide) (fun c_5 => ?_) (fun c_5 => ?_)
    · have hw := hwt c_5
      refine lv_iload hx hb d_R_signSize_68 (lv_at hl 1 rfl) ?_
      refine lv_iload_n hx hb d_R_signSize_70 rfl (lv_at hl 0 rfl) ?_
      obtain ⟨hwt, hwf⟩ := hw
      refine lv_icmp_ne (tgt := 83) hx hb d_R_signSize_71 (by decide) (fun c_6 => ?_) (fun c_6 => ?_)
      · have hw := hwf c_6
        exact L_83 x3 x4 rsize rval risP cnt look bad byZ inr rpl hld store _ _ _ hw hP hD hS (lv_sub hl [0, 1] rfl)
      · have hw := hwt c_6
        refine lv_iload hx hb d_R_signSize_74 (lv_at hl 2 rfl) ?_
        refine lv_bipush (v := 61) hx hb d_R_signSize_76 (by decide) ?_
        obtain ⟨hwt, hwf⟩ := hw
        refine lv_icmp_ne (tgt := 83) hx hb d_R_signSize_78 (by decide) (fun c_23 => ?_) (fun c_23 => ?_)
        · have hw := hwf c_23
          exact L_83 x3 x4 rsize rval risP cnt look bad byZ inr rpl hld store _ _ _ hw hP hD hS (lv_sub hl [0, 1] rfl)
        · have hw := hwt c_23
          refine lv_iconst (v := 3) hx hb d_R_signSize_81 (by decide) ?_
          exact W.iret (v := 3) hx hb hr (fun t ht hW => ⟨⟨3, (), rfl, hw, by rw [ht]; exact hP, va_K.moved hW.alike hK, hD⟩, hS.F ht⟩) hS.2.2 d_R_signSize_82
    · have hw := hwf c_5
      refine lv_iload_n hx hb d_R_signSize_62 rfl (lv_at hl 0 rfl) ?_
      refine lv_bipush (v := 62) hx hb d_R_signSize_63 (by decide) ?_
      obtain ⟨hwt, hwf⟩ := hw
      refine lv_icmp_ne (tgt := 83) hx hb d_R_signSize_65 (by decide) (fun c_24 => ?_) (fun c_24 => ?_)
      · have hw := hwf c_24
        exact L_83 x3 x4 rsize rval risP cnt look bad byZ inr rpl hld store _ _ _ hw hP hD hS (lv_sub hl [0, 1] rfl)
      · have hw := hwt c_24
        refine lv_iload hx hb d_R_signSize_68 (lv_at hl 1 rfl) ?_
        refine lv_iload_n hx hb d_R_signSize_70 rfl (lv_at hl 0 rfl) ?_
        obtain ⟨hwt, hwf⟩ := hw
        refine lv_icmp_ne (tgt := 83) hx hb d_R_signSize_71 (by decide) (fun c_25 => ?_) (fun c_25 => ?_)
        · have hw := hwf c_25
          exact L_83 x3 x4 rsize rval risP cnt look bad byZ inr rpl hld store _ _ _ hw hP hD hS (lv_sub hl [0, 1] rfl)
        · have hw := hwt c_25
          refine lv_iload hx hb d_R_signSize_74 (lv_at hl 2 rfl) ?_
          refine lv_bipush (v := 61) hx hb d_R_signSize_76 (by decide) ?_
          obtain ⟨hwt, hwf⟩ := hw
          refine lv_icmp_ne (tgt := 83) hx hb d_R_signSize_78 (by decide) (fun c_26 => ?_) (fun c_26 => ?_)
          · have hw := hwf c_26
            exact L_83 x3 x4 rsize rval risP cnt look bad byZ inr rpl hld store _ _ _ hw hP hD hS (lv_sub hl [0, 1] rfl)
          · have hw := hwt c_26
            refine lv_iconst (v := 3) hx hb d_R_signSize_81 (by decide) ?_
            exact W.iret (v := 3) hx hb hr (fun t ht hW => ⟨⟨3, (), rfl, hw, by rw [ht]; exact hP, va_K.moved hW.alike hK, hD⟩, hS.F ht⟩) hS.2.2 d_R_signSize_82
  refine lv_aload_n hx hb d_R_signSize_0 rfl (lv_at hl 0 rfl) ?_
  refine va_get (D := (dC, dI)) (ci := 5) (v := .ref (ad 12)) (C := R_R) (T := T_R) (N := 16) hx hb hts in_R hown hK hP 0 rfl rfl 1 (by decide) (hts _ ux_46) (fun _ h9 => h9) rfl d_R_signSize_1 ?_
  refine lv_iload_n hx hb d_R_signSize_4 rfl (lv_at hl 1 rfl) ?_
  refine lv_iload_n hx hb d_R_signSize_5 rfl (lv_at hl 2 rfl) ?_
  refine k_callSi (As := [.ref (ad 12), .int p0, .int p1]) (rest := []) (fun (u : Unit) => wd_R_signSize ad ck rsize rval risP cnt look bad byZ inr rpl hld store) ⟨hx, hb, hml, hown, hts⟩ (kc_R_byteAt l dC dI ad ck store p0 p1 (hw := hw)) (va_cwS 3 hts (gS ux_47 ux_50 ux_49 ux_48) rfl rfl rfl hd_R_byteAt ⟨Nat.le_of_ble_eq_true rfl, Nat.le_of_ble_eq_true rfl⟩) hK hP hD hS hA k_x0c trivial [1] [0] [0, 1] rfl rfl (by decide) (by decide) (fun _ => rfl) rfl hl.1 rfl (lv_room (Nat.le_of_ble_eq_true rfl)) d_R_signSize_6 ⟨Nat.zero_le _, Nat.zero_le _⟩ ?_
  intro r_1 u H locs hw hP hD hS
  have hP : va_P (dC, dI) vwCl (wd_R_signSize ad ck rsize rval risP cnt look bad byZ inr rpl hld store) H := hP
  have hD : va_D A (wd_R_signSize ad ck rsize rval risP cnt look bad byZ inr rpl hld store) := hD
  try dsimp only at hw
  refine lv_istore_n (lv' := [(3, .int r_1), (0, .ref (ad 11)), (1, .int p0), (2, .int p1)]) hx hb d_R_signSize_9 rfl hl (by decide) rfl (fun ls hl => ?_)
  refine lv_aload_n hx hb d_R_signSize_10 rfl (lv_at hl 1 rfl) ?_
  refine va_get (D := (dC, dI)) (ci := 5) (v := .ref (ad 12)) (C := R_R) (T := T_R) (N := 16) hx hb hts in_R hown hK hP 0 rfl rfl 1 (by decide) (hts _ ux_46) (fun _ h9 => h9) rfl d_R_signSize_11 ?_
  refine lv_iload_n hx hb d_R_signSize_14 rfl (lv_at hl 2 rfl) ?_
  refine lv_iconst (v := 1) hx hb d_R_signSize_15 (by decide) ?_
  refine lv_iadd hx hb d_R_signSize_16 ?_
  refine lv_iload_n hx hb d_R_signSize_17 rfl (lv_at hl 3 rfl) ?_
  refine k_callSi (As := [.ref (ad 12), .int (p0 + 1), .int p1]) (rest := []) (fun (u : Unit) => wd_R_signSize ad ck rsize rval risP cnt look bad byZ inr rpl hld store) ⟨hx, hb, hml, hown, hts⟩ (kc_R_byteAt l dC dI ad ck store (p0 + 1) p1 (hw := hw)) (va_cwS 3 hts (gS ux_47 ux_50 ux_49 ux_48) rfl rfl rfl hd_R_byteAt ⟨Nat.le_of_ble_eq_true rfl, Nat.le_of_ble_eq_true rfl⟩) hK hP hD hS hA k_x0c trivial [1] [0] [0, 1] rfl rfl (by decide) (by decide) (fun _ => rfl) rfl hl.1 rfl (lv_room (Nat.le_of_ble_eq_true rfl)) d_R_signSize_18 ⟨Nat.zero_le _, Nat.zero_le _⟩ ?_
  intro r_2 u H locs hw hP hD hS
  have hP : va_P (dC, dI) vwCl (wd_R_signSize ad ck rsize rval risP cnt look bad byZ inr rpl hld store) H := hP
  have hD : va_D A (wd_R_signSize ad ck rsize rval risP cnt look bad byZ inr rpl hld store) := hD
  try dsimp only at hw
  refine lv_istore (lv' := [(4, .int r_2), (3, .int r_1), (0, .ref (ad 11)), (1, .int p0), (2, .int p1)]) hx hb d_R_signSize_21 hl (by decide) rfl (fun ls hl => ?_)
  refine lv_aload_n hx hb d_R_signSize_23 rfl (lv_at hl 2 rfl) ?_
  refine va_get (D := (dC, dI)) (ci := 5) (v := .ref (ad 12)) (C := R_R) (T := T_R) (N := 16) hx hb hts in_R hown hK hP 0 rfl rfl 1 (by decide) (hts _ ux_46) (fun _ h9 => h9) rfl d_R_signSize_24 ?_
  refine lv_iload_n hx hb d_R_signSize_27 rfl (lv_at hl 3 rfl) ?_
  refine lv_iconst (v := 2) hx hb d_R_signSize_28 (by decide) ?_
  refine lv_iadd hx hb d_R_signSize_29 ?_
  refine lv_iload_n hx hb d_R_signSize_30 rfl (lv_at hl 4 rfl) ?_
  refine k_callSi (As := [.ref (ad 12), .int (p0 + 2), .int p1]) (rest := []) (fun (u : Unit) => wd_R_signSize ad ck rsize rval risP cnt look bad byZ inr rpl hld store) ⟨hx, hb, hml, hown, hts⟩ (kc_R_byteAt l dC dI ad ck store (p0 + 2) p1 (hw := hw)) (va_cwS 3 hts (gS ux_47 ux_50 ux_49 ux_48) rfl rfl rfl hd_R_byteAt ⟨Nat.le_of_ble_eq_true rfl, Nat.le_of_ble_eq_true rfl⟩) hK hP hD hS hA k_x0c trivial [1] [0] [0, 1] rfl rfl (by decide) (by decide) (fun _ => rfl) rfl hl.1 rfl (lv_room (Nat.le_of_ble_eq_true rfl)) d_R_signSize_31 ⟨Nat.zero_le _, Nat.zero_le _⟩ ?_
  intro r_3 u H locs hw hP hD hS
  have hP : va_P (dC, dI) vwCl (wd_R_signSize ad ck rsize rval risP cnt look bad byZ inr rpl hld store) H := hP
  have hD : va_D A (wd_R_signSize ad ck rsize rval risP cnt look bad byZ inr rpl hld store) := hD
  try dsimp only at hw
  refine lv_istore (lv' := [(5, .int r_3), (4, .int r_2), (3, .int r_1), (0, .ref (ad 11)), (1, .int p0), (2, .int p1)]) hx hb d_R_signSize_34 hl (by decide) rfl (fun ls hl => ?_)
  refine lv_iload_n hx hb d_R_signSize_36 rfl (lv_at hl 2 rfl) ?_
  refine lv_bipush (v := 46) hx hb d_R_signSize_37 (by decide) ?_
  obtain ⟨hwt, hwf⟩ := hw
  refine lv_icmp_ne (tgt := 56) hx hb d_R_signSize_39 (by decide) (fun c_4 => ?_) (fun c_4 => ?_)
  · have hw := hwf c_4
    exact L_56 r_1 r_2 r_3 rsize rval risP cnt look bad byZ inr rpl hld store _ _ _ hw hP hD hS (lv_sub hl [2, 1, 0] rfl)
  · have hw := hwt c_4
    refine lv_iload hx hb d_R_signSize_42 (lv_at hl 1 rfl) ?_
    refine lv_bipush (v := 46) hx hb d_R_signSize_44 (by decide) ?_
    obtain ⟨hwt, hwf⟩ := hw
    refine lv_icmp_ne (tgt := 56) hx hb d_R_signSize_46 (by decide) (fun c_27 => ?_) (fun c_27 => ?_)
    · have hw := hwf c_27
      exact L_56 r_1 r_2 r_3 rsize rval risP cnt look bad byZ inr rpl hld store _ _ _ hw hP hD hS (lv_sub hl [2, 1, 0] rfl)
    · have hw := hwt c_27
      refine lv_iload hx hb d_R_signSize_49 (lv_at hl 0 rfl) ?_
      refine lv_bipush (v := 46) hx hb d_R_signSize_51 (by decide) ?_
      obtain ⟨hwt, hwf⟩ := hw
      refine lv_icmp_eq (tgt := 81) hx hb d_R_signSize_53 (by decide) (fun c_28 => ?_) (fun c_28 => ?_)
      · have hw := hwt c_28
        refine lv_iconst (v := 3) hx hb d_R_signSize_81 (by decide) ?_
        exact W.iret (v := 3) hx hb hr (fun t ht hW => ⟨⟨3, (), rfl, hw, by rw [ht]; exact hP, va_K.moved hW.alike hK, hD⟩, hS.F ht⟩) hS.2.2 d_R_signSize_82
      · have hw := hwf c_28
        exact L_56 r_1 r_2 r_3 rsize rval risP cnt look bad byZ inr rpl hld store _ _ _ hw hP hD hS (lv_sub hl [2, 1, 0] rfl)

abbrev wd_R_tokenSizeAt (ad : Nat → Nat) (ck : Nat → ClassId) (rsize : Int32) (rval : Int64) (risP : Int32) (cnt : Int32) (look : Int32) (bad : Int32) (byZ : Int32) (inr : Int32) (rpl : Int32) (hld : Int32) (store : Nat → Int32) : va_W := [(ad 11, .inr (5, [.int rsize, .ref (ad 12), .long rval, .int risP, .int cnt, .ref (ad 13), .ref (ad 14), .int look, .int bad, .int byZ, .int inr, .int rpl, .int hld, .ref (ad 15), .ref (ad 16), .ref (ad 17)])), (ad 12, .inl (ck 6, 4096, .inl store))]
def w_R_tokenSizeAt_174 (post : Int32 → Prop) (x1 : Int32) (x2 : Int32) (rsize : Int32) (rval : Int64) (risP : Int32) (cnt : Int32) (look : Int32) (bad : Int32) (byZ : Int32) (inr : Int32) (rpl : Int32) (hld : Int32) (store : Nat → Int32) : Nat → Int32 → Int32 → Prop
  | 0 => fun _ _ => False
  | n + 1 => fun x5 x6 => (x6 = 0 → (post (x5 - x1))) ∧ (¬ x6 = 0 → (wp_R_byteAt (fun (r_13 : Int32) => (r_13 = 43 → (wp_R_byteAt (fun (r_15 : Int32) => wp_R_isOneOf (fun (r_16 : Int32) => (r_16 = 0 → (wp_R_isDigit (fun (r_18 : Int32) => (r_18 = 0 → (wp_R_isLetter (fun (r_22 : Int32) => (r_22 = 0 → ((r_13 = 46 → (((1 : Int32) = 0 → (w_R_tokenSizeAt_174 post x1 x2 rsize rval risP cnt look bad byZ inr rpl hld store n x5 1)) ∧ (¬ (1 : Int32) = 0 → (∀ x5_28 : Int32, x5_28 = (x5 + 1) → (w_R_tokenSizeAt_174 post x1 x2 rsize rval risP cnt look bad byZ inr rpl hld store n x5_28 1))))) ∧ (¬ r_13 = 46 → (((0 : Int32) = 0 → (((0 : Int32) = 0 → (w_R_tokenSizeAt_174 post x1 x2 rsize rval risP cnt look bad byZ inr rpl hld store n x5 0)) ∧ (¬ (0 : Int32) = 0 → (∀ x5_31 : Int32, x5_31 = (x5 + 1) → (w_R_tokenSizeAt_174 post x1 x2 rsize rval risP cnt look bad byZ inr rpl hld store n x5_31 0))))) ∧ (¬ (0 : Int32) = 0 → (((1 : Int32) = 0 → (w_R_tokenSizeAt_174 post x1 x2 rsize rval risP cnt look bad byZ inr rpl hld store n x5 1)) ∧ (¬ (1 : Int32) = 0 → (∀ x5_33 : Int32, x5_33 = (x5 + 1) → (w_R_tokenSizeAt_174 post x1 x2 rsize rval risP cnt look bad byZ inr rpl hld store n x5_33 1))))))))) ∧ (¬ r_22 = 0 → (((1 : Int32) = 0 → (w_R_tokenSizeAt_174 post x1 x2 rsize rval risP cnt look bad byZ inr rpl hld store n x5 1)) ∧ (¬ (1 : Int32) = 0 → (∀ x5_25 : Int32, x5_25 = (x5 + 1) → (w_R_tokenSizeAt_174 post x1 x2 rsize rval risP cnt look bad byZ inr rpl hld store n x5_25 1)))))) r_13)) ∧ (¬ r_18 = 0 → (((1 : Int32) = 0 → (w_R_tokenSizeAt_174 post x1 x2 rsize rval risP cnt look bad byZ inr rpl hld store n x5 1)) ∧ (¬ (1 : Int32) = 0 → (∀ x5_21 : Int32, x5_21 = (x5 + 1) → (w_R_tokenSizeAt_174 post x1 x2 rsize rval risP cnt look bad byZ inr rpl hld store n x5_21 1)))))) r_13)) ∧ (¬ r_16 = 0 → (wp_R_isDigit (fun (r_34 : Int32) => (r_34 = 0 → (wp_R_isLetter (fun (r_38 : Int32) => (r_38 = 0 → ((r_13 = 46 → (((1 : Int32) = 0 → (w_R_tokenSizeAt_174 post x1 x2 rsize rval risP cnt look bad byZ inr rpl hld store n x5 1)) ∧ (¬ (1 : Int32) = 0 → (∀ x5_44 : Int32, x5_44 = (x5 + 1) → (w_R_tokenSizeAt_174 post x1 x2 rsize rval risP cnt look bad byZ inr rpl hld store n x5_44 1))))) ∧ (¬ r_13 = 46 → (((1 : Int32) = 0 → (((0 : Int32) = 0 → (w_R_tokenSizeAt_174 post x1 x2 rsize rval risP cnt look bad byZ inr rpl hld store n x5 0)) ∧ (¬ (0 : Int32) = 0 → (∀ x5_47 : Int32, x5_47 = (x5 + 1) → (w_R_tokenSizeAt_174 post x1 x2 rsize rval risP cnt look bad byZ inr rpl hld store n x5_47 0))))) ∧ (¬ (1 : Int32) = 0 → (((1 : Int32) = 0 → (w_R_tokenSizeAt_174 post x1 x2 rsize rval risP cnt look bad byZ inr rpl hld store n x5 1)) ∧ (¬ (1 : Int32) = 0 → (∀ x5_49 : Int32, x5_49 = (x5 + 1) → (w_R_tokenSizeAt_174 post x1 x2 rsize rval risP cnt look bad byZ inr rpl hld store n x5_49 1))))))))) ∧ (¬ r_38 = 0 → (((1 : Int32) = 0 → (w_R_tokenSizeAt_174 post x1 x2 rsize rval risP cnt look bad byZ inr rpl hld store n x5 1)) ∧ (¬ (1 : Int32) = 0 → (∀ x5_41 : Int32, x5_41 = (x5 + 1) → (w_R_tokenSizeAt_174 post x1 x2 rsize rval risP cnt look bad byZ inr rpl hld store n x5_41 1)))))) r_13)) ∧ (¬ r_34 = 0 → (((1 : Int32) = 0 → (w_R_tokenSizeAt_174 post x1 x2 rsize rval risP cnt look bad byZ inr rpl hld store n x5 1)) ∧ (¬ (1 : Int32) = 0 → (∀ x5_37 : Int32, x5_37 = (x5 + 1) → (w_R_tokenSizeAt_174 post x1 x2 rsize rval risP cnt look bad byZ inr rpl hld store n x5_37 1)))))) r_13))) r_15 0) store (x5 - 1) x2)) ∧ (¬ r_13 = 43 → ((r_13 = 45 → (wp_R_byteAt (fun (r_67 : Int32) => wp_R_isOneOf (fun (r_68 : Int32) => (r_68 = 0 → (wp_R_isDigit (fun (r_70 : Int32) => (r_70 = 0 → (wp_R_isLetter (fun (r_74 : Int32) => (r_74 = 0 → ((r_13 = 46 → (((1 : Int32) = 0 → (w_R_tokenSizeAt_174 post x1 x2 rsize rval risP cnt look bad byZ inr rpl hld store n x5 1)) ∧ (¬ (1 : Int32) = 0 → (∀ x5_80 : Int32, x5_80 = (x5 + 1) → (w_R_tokenSizeAt_174 post x1 x2 rsize rval risP cnt look bad byZ inr rpl hld store n x5_80 1))))) ∧ (¬ r_13 = 46 → (((0 : Int32) = 0 → (((0 : Int32) = 0 → (w_R_tokenSizeAt_174 post x1 x2 rsize rval risP cnt look bad byZ inr rpl hld store n x5 0)) ∧ (¬ (0 : Int32) = 0 → (∀ x5_83 : Int32, x5_83 = (x5 + 1) → (w_R_tokenSizeAt_174 post x1 x2 rsize rval risP cnt look bad byZ inr rpl hld store n x5_83 0))))) ∧ (¬ (0 : Int32) = 0 → (((1 : Int32) = 0 → (w_R_tokenSizeAt_174 post x1 x2 rsize rval risP cnt look bad byZ inr rpl hld store n x5 1)) ∧ (¬ (1 : Int32) = 0 → (∀ x5_85 : Int32, x5_85 = (x5 + 1) → (w_R_tokenSizeAt_174 post x1 x2 rsize rval risP cnt look bad byZ inr rpl hld store n x5_85 1))))))))) ∧ (¬ r_74 = 0 → (((1 : Int32) = 0 → (w_R_tokenSizeAt_174 post x1 x2 rsize rval risP cnt look bad byZ inr rpl hld store n x5 1)) ∧ (¬ (1 : Int32) = 0 → (∀ x5_77 : Int32, x5_77 = (x5 + 1) → (w_R_tokenSizeAt_174 post x1 x2 rsize rval risP cnt look bad byZ inr rpl hld store n x5_77 1)))))) r_13)) ∧ (¬ r_70 = 0 → (((1 : Int32) = 0 → (w_R_tokenSizeAt_174 post x1 x2 rsize rval risP cnt look bad byZ inr rpl hld store n x5 1)) ∧ (¬ (1 : Int32) = 0 → (∀ x5_73 : Int32, x5_73 = (x5 + 1) → (w_R_tokenSizeAt_174 post x1 x2 rsize rval risP cnt look bad byZ inr rpl hld store n x5_73 1)))))) r_13)) ∧ (¬ r_68 = 0 → (wp_R_isDigit (fun (r_86 : Int32) => (r_86 = 0 → (wp_R_isLetter (fun (r_90 : Int32) => (r_90 = 0 → ((r_13 = 46 → (((1 : Int32) = 0 → (w_R_tokenSizeAt_174 post x1 x2 rsize rval risP cnt look bad byZ inr rpl hld store n x5 1)) ∧ (¬ (1 : Int32) = 0 → (∀ x5_96 : Int32, x5_96 = (x5 + 1) → (w_R_tokenSizeAt_174 post x1 x2 rsize rval risP cnt look bad byZ inr rpl hld store n x5_96 1))))) ∧ (¬ r_13 = 46 → (((1 : Int32) = 0 → (((0 : Int32) = 0 → (w_R_tokenSizeAt_174 post x1 x2 rsize rval risP cnt look bad byZ inr rpl hld store n x5 0)) ∧ (¬ (0 : Int32) = 0 → (∀ x5_99 : Int32, x5_99 = (x5 + 1) → (w_R_tokenSizeAt_174 post x1 x2 rsize rval risP cnt look bad byZ inr rpl hld store n x5_99 0))))) ∧ (¬ (1 : Int32) = 0 → (((1 : Int32) = 0 → (w_R_tokenSizeAt_174 post x1 x2 rsize rval risP cnt look bad byZ inr rpl hld store n x5 1)) ∧ (¬ (1 : Int32) = 0 → (∀ x5_101 : Int32, x5_101 = (x5 + 1) → (w_R_tokenSizeAt_174 post x1 x2 rsize rval risP cnt look bad byZ inr rpl hld store n x5_101 1))))))))) ∧ (¬ r_90 = 0 → (((1 : Int32) = 0 → (w_R_tokenSizeAt_174 post x1 x2 rsize rval risP cnt look bad byZ inr rpl hld store n x5 1)) ∧ (¬ (1 : Int32) = 0 → (∀ x5_93 : Int32, x5_93 = (x5 + 1) → (w_R_tokenSizeAt_174 post x1 x2 rsize rval risP cnt look bad byZ inr rpl hld store n x5_93 1)))))) r_13)) ∧ (¬ r_86 = 0 → (((1 : Int32) = 0 → (w_R_tokenSizeAt_174 post x1 x2 rsize rval risP cnt look bad byZ inr rpl hld store n x5 1)) ∧ (¬ (1 : Int32) = 0 → (∀ x5_89 : Int32, x5_89 = (x5 + 1) → (w_R_tokenSizeAt_174 post x1 x2 rsize rval risP cnt look bad byZ inr rpl hld store n x5_89 1)))))) r_13))) r_67 0) store (x5 - 1) x2)) ∧ (¬ r_13 = 45 → (wp_R_isDigit (fun (r_51 : Int32) => (r_51 = 0 → (wp_R_isLetter (fun (r_55 : Int32) => (r_55 = 0 → ((r_13 = 46 → (((1 : Int32) = 0 → (w_R_tokenSizeAt_174 post x1 x2 rsize rval risP cnt look bad byZ inr rpl hld store n x5 1)) ∧ (¬ (1 : Int32) = 0 → (∀ x5_61 : Int32, x5_61 = (x5 + 1) → (w_R_tokenSizeAt_174 post x1 x2 rsize rval risP cnt look bad byZ inr rpl hld store n x5_61 1))))) ∧ (¬ r_13 = 46 → (((0 : Int32) = 0 → (((0 : Int32) = 0 → (w_R_tokenSizeAt_174 post x1 x2 rsize rval risP cnt look bad byZ inr rpl hld store n x5 0)) ∧ (¬ (0 : Int32) = 0 → (∀ x5_64 : Int32, x5_64 = (x5 + 1) → (w_R_tokenSizeAt_174 post x1 x2 rsize rval risP cnt look bad byZ inr rpl hld store n x5_64 0))))) ∧ (¬ (0 : Int32) = 0 → (((1 : Int32) = 0 → (w_R_tokenSizeAt_174 post x1 x2 rsize rval risP cnt look bad byZ inr rpl hld store n x5 1)) ∧ (¬ (1 : Int32) = 0 → (∀ x5_66 : Int32, x5_66 = (x5 + 1) → (w_R_tokenSizeAt_174 post x1 x2 rsize rval risP cnt look bad byZ inr rpl hld store n x5_66 1))))))))) ∧ (¬ r_55 = 0 → (((1 : Int32) = 0 → (w_R_tokenSizeAt_174 post x1 x2 rsize rval risP cnt look bad byZ inr rpl hld store n x5 1)) ∧ (¬ (1 : Int32) = 0 → (∀ x5_58 : Int32, x5_58 = (x5 + 1) → (w_R_tokenSizeAt_174 post x1 x2 rsize rval risP cnt look bad byZ inr rpl hld store n x5_58 1)))))) r_13)) ∧ (¬ r_51 = 0 → (((1 : Int32) = 0 → (w_R_tokenSizeAt_174 post x1 x2 rsize rval risP cnt look bad byZ inr rpl hld store n x5 1)) ∧ (¬ (1 : Int32) = 0 → (∀ x5_54 : Int32, x5_54 = (x5 + 1) → (w_R_tokenSizeAt_174 post x1 x2 rsize rval risP cnt look bad byZ inr rpl hld store n x5_54 1)))))) r_13))))) store x5 x2))
def w_R_tokenSizeAt_107 (post : Int32 → Prop) (x1 : Int32) (x2 : Int32) (rsize : Int32) (rval : Int64) (risP : Int32) (cnt : Int32) (look : Int32) (bad : Int32) (byZ : Int32) (inr : Int32) (rpl : Int32) (hld : Int32) (store : Nat → Int32) : Nat → Int32 → Prop
  | 0 => fun _ => False
  | n + 1 => fun x5 => wp_R_byteAt (fun (r_107 : Int32) => wp_R_isLetter (fun (r_108 : Int32) => (r_108 = 0 → (wp_R_byteAt (fun (r_111 : Int32) => wp_R_isDigit (fun (r_112 : Int32) => (r_112 = 0 → (post (x5 - x1))) ∧ (¬ r_112 = 0 → (∀ x5_114 : Int32, x5_114 = x5 + 1 → (w_R_tokenSizeAt_107 post x1 x2 rsize rval risP cnt look bad byZ inr rpl hld store n x5_114)))) r_111) store x5 x2)) ∧ (¬ r_108 = 0 → (∀ x5_110 : Int32, x5_110 = x5 + 1 → (w_R_tokenSizeAt_107 post x1 x2 rsize rval risP cnt look bad byZ inr rpl hld store n x5_110)))) r_107) store x5 x2
def w_R_tokenSizeAt_95 (post : Int32 → Prop) (x1 : Int32) (x2 : Int32) (x3 : Int32) (x4 : Int32) (rsize : Int32) (rval : Int64) (risP : Int32) (cnt : Int32) (look : Int32) (bad : Int32) (byZ : Int32) (inr : Int32) (rpl : Int32) (hld : Int32) (store : Nat → Int32) : Prop := ∀ x5_7 : Int32, x5_7 = (x1 + 1) → (wp_R_isLetter (fun (r_8 : Int32) => (r_8 = 0 → (wp_R_isDigit (fun (r_10 : Int32) => (r_10 = 0 → ((x3 = 46 → (wp_R_isDigit (fun (r_104 : Int32) => (r_104 = 0 → (wp_R_signSize (fun (r_106 : Int32) => post r_106) rsize rval risP cnt look bad byZ inr rpl hld store x1 x2)) ∧ (¬ r_104 = 0 → (∃ fu174 : Nat, w_R_tokenSizeAt_174 post x1 x2 rsize rval risP cnt look bad byZ inr rpl hld store fu174 x5_7 1))) x4)) ∧ (¬ x3 = 46 → (wp_R_signSize (fun (r_103 : Int32) => post r_103) rsize rval risP cnt look bad byZ inr rpl hld store x1 x2)))) ∧ (¬ r_10 = 0 → (∃ fu174 : Nat, w_R_tokenSizeAt_174 post x1 x2 rsize rval risP cnt look bad byZ inr rpl hld store fu174 x5_7 1))) x3)) ∧ (¬ r_8 = 0 → (∃ fu107 : Nat, w_R_tokenSizeAt_107 post x1 x2 rsize rval risP cnt look bad byZ inr rpl hld store fu107 x5_7))) x3)
def w_R_tokenSizeAt_65 (post : Int32 → Prop) (x1 : Int32) (x2 : Int32) (x3 : Int32) (x4 : Int32) (rsize : Int32) (rval : Int64) (risP : Int32) (cnt : Int32) (look : Int32) (bad : Int32) (byZ : Int32) (inr : Int32) (rpl : Int32) (hld : Int32) (store : Nat → Int32) : Prop := (x3 = 34 → (wp_R_quotedEnd (fun (r_5 : Int32) => (r_5 ≤ 0 → (w_R_tokenSizeAt_95 post x1 x2 x3 x4 rsize rval risP cnt look bad byZ inr rpl hld store)) ∧ (¬ r_5 ≤ 0 → (wp_R_quotedEnd (fun (r_115 : Int32) => post (r_115 - x1)) rsize rval risP cnt look bad byZ inr rpl hld store x1 x2))) rsize rval risP cnt look bad byZ inr rpl hld store x1 x2)) ∧ (¬ x3 = 34 → ((x3 = 39 → (wp_R_quotedEnd (fun (r_117 : Int32) => (r_117 ≤ 0 → (w_R_tokenSizeAt_95 post x1 x2 x3 x4 rsize rval risP cnt look bad byZ inr rpl hld store)) ∧ (¬ r_117 ≤ 0 → (wp_R_quotedEnd (fun (r_119 : Int32) => post (r_119 - x1)) rsize rval risP cnt look bad byZ inr rpl hld store x1 x2))) rsize rval risP cnt look bad byZ inr rpl hld store x1 x2)) ∧ (¬ x3 = 39 → (w_R_tokenSizeAt_95 post x1 x2 x3 x4 rsize rval risP cnt look bad byZ inr rpl hld store))))
def w_R_tokenSizeAt_43 (post : Int32 → Prop) (x1 : Int32) (x2 : Int32) (x3 : Int32) (x4 : Int32) (rsize : Int32) (rval : Int64) (risP : Int32) (cnt : Int32) (look : Int32) (bad : Int32) (byZ : Int32) (inr : Int32) (rpl : Int32) (hld : Int32) (store : Nat → Int32) : Prop := wp_R_quotedEnd (fun (r_121 : Int32) => (r_121 ≤ 0 → (w_R_tokenSizeAt_65 post x1 x2 x3 x4 rsize rval risP cnt look bad byZ inr rpl hld store)) ∧ (¬ r_121 ≤ 0 → (wp_R_quotedEnd (fun (r_123 : Int32) => post (r_123 - x1)) rsize rval risP cnt look bad byZ inr rpl hld store (x1 + 1) x2))) rsize rval risP cnt look bad byZ inr rpl hld store (x1 + 1) x2
def wp_R_tokenSizeAt (post : Int32 → Prop) (rsize : Int32) (rval : Int64) (risP : Int32) (cnt : Int32) (look : Int32) (bad : Int32) (byZ : Int32) (inr : Int32) (rpl : Int32) (hld : Int32) (store : Nat → Int32) (p0 : Int32) (p1 : Int32) : Prop := wp_R_byteAt (fun (r_1 : Int32) => wp_R_byteAt (fun (r_2 : Int32) => (r_1 = 76 → ((r_2 = 34 → (w_R_tokenSizeAt_43 post p0 p1 r_1 r_2 rsize rval risP cnt look bad byZ inr rpl hld store)) ∧ (¬ r_2 = 34 → ((r_2 = 39 → (w_R_tokenSizeAt_43 post p0 p1 r_1 r_2 rsize rval risP cnt look bad byZ inr rpl hld store)) ∧ (¬ r_2 = 39 → (w_R_tokenSizeAt_65 post p0 p1 r_1 r_2 rsize rval risP cnt look bad byZ inr rpl hld store)))))) ∧ (¬ r_1 = 76 → (w_R_tokenSizeAt_65 post p0 p1 r_1 r_2 rsize rval risP cnt look bad byZ inr rpl hld store))) store (p0 + 1) p1) store p0 p1
set_option maxHeartbeats 4000000 in
set_option maxRecDepth 100000 in
theorem kc_R_tokenSizeAt (l : Launch) (dC : Nat → ClassId) (dI : Nat → Nat → Nat) (ad : Nat → Nat) (ck : Nat → ClassId) (sa sv : Nat → Nat) (sf : Option Nat) (rsize : Int32) (rval : Int64) (risP : Int32) (cnt : Int32) (look : Int32) (bad : Int32) (byZ : Int32) (inr : Int32) (rpl : Int32) (hld : Int32) (store : Nat → Int32) (p0 : Int32) (p1 : Int32) {post : Int32 → Prop} (hw : wp_R_tokenSizeAt post rsize rval risP cnt look bad byZ inr rpl hld store p0 p1) : k_Ci l y_R_tokenSizeAt ws_R_tokenSizeAt ({ frames := 6, cells := 0, slots := 0, locals := 135 } : Room) (dC, dI) vwCl (TYr ck) (XR sa sv sf) [.ref (ad 11), .int p0, .int p1] (wd_R_tokenSizeAt ad ck rsize rval risP cnt look bad byZ inr rpl hld store) (fun (r : Int32) (u : Unit) => post r ) (fun (u : Unit) => wd_R_tokenSizeAt ad ck rsize rval risP cnt look bad byZ inr rpl hld store) := by
  intro sz
  refine Met.ofW (cc := c_R_tokenSizeAt) (maxL := 9) (ret := (some .int)) (by decide) rfl ?_
  intro p e s m args below meth c s₁ B hml hv
  obtain ⟨rfl, hsz, hP, hK, hD0, hX⟩ := hv
  have hx := B.exec
  have hb := B.bytes
  have hr := B.returns
  have hts : ∀ w ∈ TB, w.before _ s = true := fun w h => atoms_spec (ws := ws_R_tokenSizeAt) B.pre w (List.mem_cons_of_mem _ h)
  have hown : s.vm.findClass R_R = some m.cls := findClass_of_methodNamed B.named
  have hlocks := B.notSynchronized
  subst hsz
  have hD := hD0.self (sz := s.heap.size)
  generalize hAe : va_A (wd_R_tokenSizeAt ad ck rsize rval risP cnt look bad byZ inr rpl hld store) s.heap.size = A at hD hX ⊢
  have hA : ∀ q : Nat, s.heap.size ≤ q → A q := fun q h => by rw [← hAe]; exact Or.inr h
  have hS : va_S A s.heap s.heap [] := va_S.rf
  have hP : va_P (dC, dI) vwCl (wd_R_tokenSizeAt ad ck rsize rval risP cnt look bad byZ inr rpl hld store) s.heap := hP
  have hl := lv_entry ([.ref (ad 11), .int p0, .int p1]) (n := 9) (Nat.le_of_ble_eq_true rfl)
  rw [lg_entry_eq]
  generalize (lg_sl ([.ref (ad 11), .int p0, .int p1]) ++ List.replicate (9 - (lg_sl ([.ref (ad 11), .int p0, .int p1])).length) Slot.unset).toArray = ls at hl ⊢
  have hl : lv_has ls 9 [(0, .ref (ad 11)), (1, .int p0), (2, .int p1)] := hl
  have L_174 : ∀ (x1 : Int32) (x2 : Int32) (rsize : Int32) (rval : Int64) (risP : Int32) (cnt : Int32) (look : Int32) (bad : Int32) (byZ : Int32) (inr : Int32) (rpl : Int32) (hld : Int32) (store : Nat → Int32) (n : Nat) (x5 : Int32) (x6 : Int32) (H : Heap) (locs : List Loc) (ls : Array Slot), w_R_tokenSizeAt_174 post x1 x2 rsize rval risP cnt look bad byZ inr rpl hld store n x5 x6 → va_P (dC, dI) vwCl (wd_R_tokenSizeAt ad ck rsize rval risP cnt look bad byZ inr rpl hld store) H → va_D A (wd_R_tokenSizeAt ad ck rsize rval risP cnt look bad byZ inr rpl hld store) → va_S A s.heap H locs → lv_has ls 9 [(0, .ref (ad 11)), (1, .int x1), (2, .int x2), (5, .int x5), (6, .int x6)] → W p l e (headSpec ws_R_tokenSizeAt ({ frames := 6, cells := 0, slots := 0, locals := 135 } : Room)).room s m ([.ref (ad 11), .int p0, .int p1] : List Value).toArray below meth c H locs 0 0 (k_Qi below (dC, dI) vwCl (TYr ck) A (fun (r : Int32) (u : Unit) => post r ) (fun (u : Unit) => wd_R_tokenSizeAt ad ck rsize rval risP cnt look bad byZ inr rpl hld store) ([.ref (ad 11), .int p0, .int p1] : List Value).toArray s) (F0 m 174 ls []) := by
    intro x1 x2 rsize rval risP cnt look bad byZ inr rpl hld store n
    induction n with
    | zero =>
      intro x5 x6 H locs ls hw
      exact False.elim hw
    | succ n ih =>
      intro x5 x6 H locs ls hw hP hD hS hl
      refine lv_iload hx hb d_R_tokenSizeAt_174 (lv_at hl 4 rfl) ?_
      obtain ⟨hwt, hwf⟩ := hw
      refine lv_if_eq (tgt := 286) hx hb d_R_tokenSizeAt_176 (by decide) (fun c_12 => ?_) (fun c_12 => ?_)
      · have hw := hwt c_12
        refine lv_iload hx hb d_R_tokenSizeAt_286 (lv_at hl 3 rfl) ?_
        refine lv_iload_n hx hb d_R_tokenSizeAt_288 rfl (lv_at hl 1 rfl) ?_
        refine lv_isub hx hb d_R_tokenSizeAt_289 ?_
        exact W.iret (v := (x5 - x1)) hx hb hr (fun t ht hW => ⟨⟨(x5 - x1), (), rfl, hw, by rw [ht]; exact hP, va_K.moved hW.alike hK, hD⟩, hS.F ht⟩) hS.2.2 d_R_tokenSizeAt_290
      · have hw := hwf c_12
        refine lv_aload_n hx hb d_R_tokenSizeAt_179 rfl (lv_at hl 0 rfl) ?_
        refine va_get (D := (dC, dI)) (ci := 5) (v := .ref (ad 12)) (C := R_R) (T := T_R) (N := 16) hx hb hts in_R hown hK hP 0 rfl rfl 1 (by decide) (hts _ ux_46) (fun _ h9 => h9) rfl d_R_tokenSizeAt_180 ?_
        refine lv_iload hx hb d_R_tokenSizeAt_183 (lv_at hl 3 rfl) ?_
        refine lv_iload_n hx hb d_R_tokenSizeAt_185 rfl (lv_at hl 2 rfl) ?_
        refine k_callSi (As := [.ref (ad 12), .int x5, .int x2]) (rest := []) (fun (u : Unit) => wd_R_tokenSizeAt ad ck rsize rval risP cnt look bad byZ inr rpl hld store) ⟨hx, hb, hml, hown, hts⟩ (kc_R_byteAt l dC dI ad ck store x5 x2 (hw := hw)) (va_cwS 3 hts (gS ux_47 ux_50 ux_49 ux_48) rfl rfl rfl hd_R_byteAt ⟨Nat.le_of_ble_eq_true rfl, Nat.le_of_ble_eq_true rfl⟩) hK hP hD hS hA k_x0c trivial [1] [0] [0, 1] rfl rfl (by decide) (by decide) (fun _ => rfl) rfl hl.1 rfl (lv_room (Nat.le_of_ble_eq_true rfl)) d_R_tokenSizeAt_186 ⟨Nat.zero_le _, Nat.zero_le _⟩ ?_
        intro r_13 u H locs hw hP hD hS
        have hP : va_P (dC, dI) vwCl (wd_R_tokenSizeAt ad ck rsize rval risP cnt look bad byZ inr rpl hld store) H := hP
        have hD : va_D A (wd_R_tokenSizeAt ad ck rsize rval risP cnt look bad byZ inr rpl hld store) := hD
        try dsimp only at hw
        refine lv_istore (lv' := [(7, .int r_13), (0, .ref (ad 11)), (1, .int x1), (2, .int x2), (5, .int x5), (6, .int x6)]) hx hb d_R_tokenSizeAt_189 hl (by decide) rfl (fun ls hl => ?_)
        refine lv_iload hx hb d_R_tokenSizeAt_191 (lv_at hl 0 rfl) ?_
        refine lv_bipush (v := 43) hx hb d_R_tokenSizeAt_193 (by decide) ?_
        obtain ⟨hwt, hwf⟩ := hw
        refine lv_icmp_eq (tgt := 205) hx hb d_R_tokenSizeAt_195 (by decide) (fun c_14 => ?_) (fun c_14 => ?_)
        · have hw := hwt c_14
          refine lv_aload_n hx hb d_R_tokenSizeAt_205 rfl (lv_at hl 1 rfl) ?_
          refine va_get (D := (dC, dI)) (ci := 5) (v := .ref (ad 12)) (C := R_R) (T := T_R) (N := 16) hx hb hts in_R hown hK hP 0 rfl rfl 1 (by decide) (hts _ ux_46) (fun _ h9 => h9) rfl d_R_tokenSizeAt_206 ?_
          refine lv_iload hx hb d_R_tokenSizeAt_209 (lv_at hl 4 rfl) ?_
          refine lv_iconst (v := 1) hx hb d_R_tokenSizeAt_211 (by decide) ?_
          refine lv_isub hx hb d_R_tokenSizeAt_212 ?_
          refine lv_iload_n hx hb d_R_tokenSizeAt_213 rfl (lv_at hl 3 rfl) ?_
          refine k_callSi (As := [.ref (ad 12), .int (x5 - 1), .int x2]) (rest := []) (fun (u : Unit) => wd_R_tokenSizeAt ad ck rsize rval risP cnt look bad byZ inr rpl hld store) ⟨hx, hb, hml, hown, hts⟩ (kc_R_byteAt l dC dI ad ck store (x5 - 1) x2 (hw := hw)) (va_cwS 3 hts (gS ux_47 ux_50 ux_49 ux_48) rfl rfl rfl hd_R_byteAt ⟨Nat.le_of_ble_eq_true rfl, Nat.le_of_ble_eq_true rfl⟩) hK hP hD hS hA k_x0c trivial [1] [0] [0, 1] rfl rfl (by decide) (by decide) (fun _ => rfl) rfl hl.1 rfl (lv_room (Nat.le_of_ble_eq_true rfl)) d_R_tokenSizeAt_214 ⟨Nat.zero_le _, Nat.zero_le _⟩ ?_
          intro r_15 u H locs hw hP hD hS
          have hP : va_P (dC, dI) vwCl (wd_R_tokenSizeAt ad ck rsize rval risP cnt look bad byZ inr rpl hld store) H := hP
          have hD : va_D A (wd_R_tokenSizeAt ad ck rsize rval risP cnt look bad byZ inr rpl hld store) := hD
          try dsimp only at hw
          refine va_ldcS hx hb hown (hX.1 _ rs_0) d_R_tokenSizeAt_217 ?_
          refine k_callSi (As := [.int r_15, .ref (sa 0)]) (rest := []) (fun (u : Unit) => wd_R_tokenSizeAt ad ck rsize rval risP cnt look bad byZ inr rpl hld store) ⟨hx, hb, hml, hown, hts⟩ (kc_R_isOneOf l dC dI ad ck sa sv sf r_15 0 (hw := hw)) (va_cwS 2 hts (gS ux_51 ux_53 ux_49 ux_52) rfl rfl rfl hd_R_isOneOf ⟨Nat.le_of_ble_eq_true rfl, Nat.le_of_ble_eq_true rfl⟩) hK hP hD hS hA (XR_c sa sv sf) hX [] [0, 1] [0, 1] rfl rfl (by decide) (by decide) (fun _ => rfl) rfl hl.1 rfl (lv_room (Nat.le_of_ble_eq_true rfl)) d_R_tokenSizeAt_219 ⟨Nat.zero_le _, Nat.zero_le _⟩ ?_
          intro r_16 u H locs hw hP hD hS
          have hP : va_P (dC, dI) vwCl (wd_R_tokenSizeAt ad ck rsize rval risP cnt look bad byZ inr rpl hld store) H := hP
          have hD : va_D A (wd_R_tokenSizeAt ad ck rsize rval risP cnt look bad byZ inr rpl hld store) := hD
          try dsimp only at hw
          obtain ⟨hwt, hwf⟩ := hw
          refine lv_if_eq (tgt := 229) hx hb d_R_tokenSizeAt_222 (by decide) (fun c_17 => ?_) (fun c_17 => ?_)
          · have hw := hwt c_17
            refine lv_iconst (v := 0) hx hb d_R_tokenSizeAt_229 (by decide) ?_
            refine lv_istore (lv' := [(8, .int 0), (7, .int r_13), (0, .ref (ad 11)), (1, .int x1), (2, .int x2), (5, .int x5), (6, .int x6)]) hx hb d_R_tokenSizeAt_230 hl (by decide) rfl (fun ls hl => ?_)
            refine lv_iload hx hb d_R_tokenSizeAt_232 (lv_at hl 1 rfl) ?_
            refine k_callSi (As := [.int r_13]) (rest := []) (fun (u : Unit) => wd_R_tokenSizeAt ad ck rsize rval risP cnt look bad byZ inr rpl hld store) ⟨hx, hb, hml, hown, hts⟩ (kc_R_isDigit l dC dI ad ck r_13 (hw := hw)) (va_cwS 1 hts (gS ux_61 ux_63 ux_49 ux_62) rfl rfl rfl hd_R_isDigit ⟨Nat.le_of_ble_eq_true rfl, Nat.le_of_ble_eq_true rfl⟩) hK hP hD hS hA k_x0c trivial [] [0, 1] [0, 1] rfl rfl (by decide) (by decide) (fun _ => rfl) rfl hl.1 rfl (lv_room (Nat.le_of_ble_eq_true rfl)) d_R_tokenSizeAt_234 ⟨Nat.zero_le _, Nat.zero_le _⟩ ?_
            intro r_18 u H locs hw hP hD hS
            have hP : va_P (dC, dI) vwCl (wd_R_tokenSizeAt ad ck rsize rval risP cnt look bad byZ inr rpl hld store) H := hP
            have hD : va_D A (wd_R_tokenSizeAt ad ck rsize rval risP cnt look bad byZ inr rpl hld store) := hD
            try dsimp only at hw
            obtain ⟨hwt, hwf⟩ := hw
            refine lv_if_ne (tgt := 260) hx hb d_R_tokenSizeAt_237 (by decide) (fun c_19 => ?_) (fun c_19 => ?_)
            · have hw := hwf c_19
              refine lv_iconst (v := 1) hx hb d_R_tokenSizeAt_260 (by decide) ?_
              refine lv_goto (tgt := 265) hx hb d_R_tokenSizeAt_261 (by decide) ?_
              refine lv_istore (lv' := [(6, .int 1), (8, .int 0), (7, .int r_13), (0, .ref (ad 11)), (1, .int x1), (2, .int x2), (5, .int x5)]) hx hb d_R_tokenSizeAt_265 hl (by decide) rfl (fun ls hl => ?_)
              refine lv_iload hx hb d_R_tokenSizeAt_267 (lv_at hl 0 rfl) ?_
              obtain ⟨hwt, hwf⟩ := hw
              refine lv_if_eq (tgt := 279) hx hb d_R_tokenSizeAt_269 (by decide) (fun c_20 => ?_) (fun c_20 => ?_)
              · have hw := hwt c_20
                refine lv_iload hx hb d_R_tokenSizeAt_279 (lv_at hl 6 rfl) ?_
                refine lv_istore (lv' := [(5, .int x5), (6, .int 1), (8, .int 0), (7, .int r_13), (0, .ref (ad 11)), (1, .int x1), (2, .int x2)]) hx hb d_R_tokenSizeAt_281 hl (by decide) rfl (fun ls hl => ?_)
                refine lv_goto (tgt := 174) hx hb d_R_tokenSizeAt_283 (by decide) ?_
                exact ih x5 1 _ _ _ hw hP hD hS (lv_sub hl [4, 5, 6, 0, 1] rfl)
              · have hw := hwf c_20
                refine lv_iload hx hb d_R_tokenSizeAt_272 (lv_at hl 6 rfl) ?_
                refine lv_iconst (v := 1) hx hb d_R_tokenSizeAt_274 (by decide) ?_
                refine lv_iadd hx hb d_R_tokenSizeAt_275 ?_
                refine lv_goto (tgt := 281) hx hb d_R_tokenSizeAt_276 (by decide) ?_
                refine lv_topi (fun x5_21 ex5_21 => ?_)
                have hw := hw x5_21 ex5_21
                refine lv_istore (lv' := [(5, .int x5_21), (6, .int 1), (8, .int 0), (7, .int r_13), (0, .ref (ad 11)), (1, .int x1), (2, .int x2)]) hx hb d_R_tokenSizeAt_281 hl (by decide) rfl (fun ls hl => ?_)
                refine lv_goto (tgt := 174) hx hb d_R_tokenSizeAt_283 (by decide) ?_
                exact ih x5_21 1 _ _ _ hw hP hD hS (lv_sub hl [4, 5, 6, 0, 1] rfl)
            · have hw := hwt c_19
              refine lv_iload hx hb d_R_tokenSizeAt_240 (lv_at hl 1 rfl) ?_
              refine k_callSi (As := [.int r_13]) (rest := []) (fun (u : Unit) => wd_R_tokenSizeAt ad ck rsize rval risP cnt look bad byZ inr rpl hld store) ⟨hx, hb, hml, hown, hts⟩ (kc_R_isLetter l dC dI ad ck r_13 (hw := hw)) (va_cwS 1 hts (gS ux_58 ux_60 ux_49 ux_59) rfl rfl rfl hd_R_isLetter ⟨Nat.le_of_ble_eq_true rfl, Nat.le_of_ble_eq_true rfl⟩) hK hP hD hS hA k_x0c trivial [] [0, 1] [0, 1] rfl rfl (by decide) (by decide) (fun _ => rfl) rfl hl.1 rfl (lv_room (Nat.le_of_ble_eq_true rfl)) d_R_tokenSizeAt_242 ⟨Nat.zero_le _, Nat.zero_le _⟩ ?_
              intro r_22 u H locs hw hP hD hS
              have hP : va_P (dC, dI) vwCl (wd_R_tokenSizeAt ad ck rsize rval risP cnt look bad byZ inr rpl hld store) H := hP
              have hD : va_D A (wd_R_tokenSizeAt ad ck rsize rval risP cnt look bad byZ inr rpl hld store) := hD
              try dsimp only at hw
              obtain ⟨hwt, hwf⟩ := hw
              refine lv_if_ne (tgt := 260) hx hb d_R_tokenSizeAt_245 (by decide) (fun c_23 => ?_) (fun c_23 => ?_)
              · have hw := hwf c_23
                refine lv_iconst (v := 1) hx hb d_R_tokenSizeAt_260 (by decide) ?_
                refine lv_goto (tgt := 265) hx hb d_R_tokenSizeAt_261 (by decide) ?_
                refine lv_istore (lv' := [(6, .int 1), (8, .int 0), (7, .int r_13), (0, .ref (ad 11)), (1, .int x1), (2, .int x2), (5, .int x5)]) hx hb d_R_tokenSizeAt_265 hl (by decide) rfl (fun ls hl => ?_)
                refine lv_iload hx hb d_R_tokenSizeAt_267 (lv_at hl 0 rfl) ?_
                obtain ⟨hwt, hwf⟩ := hw
                refine lv_if_eq (tgt := 279) hx hb d_R_tokenSizeAt_269 (by decide) (fun c_24 => ?_) (fun c_24 => ?_)
                · have hw := hwt c_24
                  refine lv_iload hx hb d_R_tokenSizeAt_279 (lv_at hl 6 rfl) ?_
                  refine lv_istore (lv' := [(5, .int x5), (6, .int 1), (8, .int 0), (7, .int r_13), (0, .ref (ad 11)), (1, .int x1), (2, .int x2)]) hx hb d_R_tokenSizeAt_281 hl (by decide) rfl (fun ls hl => ?_)
                  refine lv_goto (tgt := 174) hx hb d_R_tokenSizeAt_283 (by decide) ?_
                  exact ih x5 1 _ _ _ hw hP hD hS (lv_sub hl [4, 5, 6, 0, 1] rfl)
                · have hw := hwf c_24
                  refine lv_iload hx hb d_R_tokenSizeAt_272 (lv_at hl 6 rfl) ?_
                  refine lv_iconst (v := 1) hx hb d_R_tokenSizeAt_274 (by decide) ?_
                  refine lv_iadd hx hb d_R_tokenSizeAt_275 ?_
                  refine lv_goto (tgt := 281) hx hb d_R_tokenSizeAt_276 (by decide) ?_
                  refine lv_topi (fun x5_25 ex5_25 => ?_)
                  have hw := hw x5_25 ex5_25
                  refine lv_istore (lv' := [(5, .int x5_25), (6, .int 1), (8, .int 0), (7, .int r_13), (0, .ref (ad 11)), (1, .int x1), (2, .int x2)]) hx hb d_R_tokenSizeAt_281 hl (by decide) rfl (fun ls hl => ?_)
                  refine lv_goto (tgt := 174) hx hb d_R_tokenSizeAt_283 (by decide) ?_
                  exact ih x5_25 1 _ _ _ hw hP hD hS (lv_sub hl [4, 5, 6, 0, 1] rfl)
              · have hw := hwt c_23
                refine lv_iload hx hb d_R_tokenSizeAt_248 (lv_at hl 1 rfl) ?_
                refine lv_bipush (v := 46) hx hb d_R_tokenSizeAt_250 (by decide) ?_
                obtain ⟨hwt, hwf⟩ := hw
                refine lv_icmp_eq (tgt := 260) hx hb d_R_tokenSizeAt_252 (by decide) (fun c_26 => ?_) (fun c_26 => ?_)
                · have hw := hwt c_26
                  refine lv_iconst (v := 1) hx hb d_R_tokenSizeAt_260 (by decide) ?_
                  refine lv_goto (tgt := 265) hx hb d_R_tokenSizeAt_261 (by decide) ?_
                  refine lv_istore (lv' := [(6, .int 1), (8, .int 0), (7, .int r_13), (0, .ref (ad 11)), (1, .int x1), (2, .int x2), (5, .int x5)]) hx hb d_R_tokenSizeAt_265 hl (by decide) rfl (fun ls hl => ?_)
                  refine lv_iload hx hb d_R_tokenSizeAt_267 (lv_at hl 0 rfl) ?_
                  obtain ⟨hwt, hwf⟩ := hw
                  refine lv_if_eq (tgt := 279) hx hb d_R_tokenSizeAt_269 (by decide) (fun c_27 => ?_) (fun c_27 => ?_)
                  · have hw := hwt c_27
                    refine lv_iload hx hb d_R_tokenSizeAt_279 (lv_at hl 6 rfl) ?_
                    refine lv_istore (lv' := [(5, .int x5), (6, .int 1), (8, .int 0), (7, .int r_13), (0, .ref (ad 11)), (1, .int x1), (2, .int x2)]) hx hb d_R_tokenSizeAt_281 hl (by decide) rfl (fun ls hl => ?_)
                    refine lv_goto (tgt := 174) hx hb d_R_tokenSizeAt_283 (by decide) ?_
                    exact ih x5 1 _ _ _ hw hP hD hS (lv_sub hl [4, 5, 6, 0, 1] rfl)
                  · have hw := hwf c_27
                    refine lv_iload hx hb d_R_tokenSizeAt_272 (lv_at hl 6 rfl) ?_
                    refine lv_iconst (v := 1) hx hb d_R_tokenSizeAt_274 (by decide) ?_
                    refine lv_iadd hx hb d_R_tokenSizeAt_275 ?_
                    refine lv_goto (tgt := 281) hx hb d_R_tokenSizeAt_276 (by decide) ?_
                    refine lv_topi (fun x5_28 ex5_28 => ?_)
                    have hw := hw x5_28 ex5_28
                    refine lv_istore (lv' := [(5, .int x5_28), (6, .int 1), (8, .int 0), (7, .int r_13), (0, .ref (ad 11)), (1, .int x1), (2, .int x2)]) hx hb d_R_tokenSizeAt_281 hl (by decide) rfl (fun ls hl => ?_)
                    refine lv_goto (tgt := 174) hx hb d_R_tokenSizeAt_283 (by decide) ?_
                    exact ih x5_28 1 _ _ _ hw hP hD hS (lv_sub hl [4, 5, 6, 0, 1] rfl)
                · have hw := hwf c_26
                  refine lv_iload hx hb d_R_tokenSizeAt_255 (lv_at hl 0 rfl) ?_
                  obtain ⟨hwt, hwf⟩ := hw
                  refine lv_if_eq (tgt := 264) hx hb d_R_tokenSizeAt_257 (by decide) (fun c_29 => ?_) (fun c_29 => ?_)
                  · have hw := hwt c_29
                    refine lv_iconst (v := 0) hx hb d_R_tokenSizeAt_264 (by decide) ?_
                    refine lv_istore (lv' := [(6, .int 0), (8, .int 0), (7, .int r_13), (0, .ref (ad 11)), (1, .int x1), (2, .int x2), (5, .int x5)]) hx hb d_R_tokenSizeAt_265 hl (by decide) rfl (fun ls hl => ?_)
                    refine lv_iload hx hb d_R_tokenSizeAt_267 (lv_at hl 0 rfl) ?_
                    obtain ⟨hwt, hwf⟩ := hw
                    refine lv_if_eq (tgt := 279) hx hb d_R_tokenSizeAt_269 (by decide) (fun c_30 => ?_) (fun c_30 => ?_)
                    · have hw := hwt c_30
                      refine lv_iload hx hb d_R_tokenSizeAt_279 (lv_at hl 6 rfl) ?_
                      refine lv_istore (lv' := [(5, .int x5), (6, .int 0), (8, .int 0), (7, .int r_13), (0, .ref (ad 11)), (1, .int x1), (2, .int x2)]) hx hb d_R_tokenSizeAt_281 hl (by decide) rfl (fun ls hl => ?_)
                      refine lv_goto (tgt := 174) hx hb d_R_tokenSizeAt_283 (by decide) ?_
                      exact ih x5 0 _ _ _ hw hP hD hS (lv_sub hl [4, 5, 6, 0, 1] rfl)
                    · have hw := hwf c_30
                      refine lv_iload hx hb d_R_tokenSizeAt_272 (lv_at hl 6 rfl) ?_
                      refine lv_iconst (v := 1) hx hb d_R_tokenSizeAt_274 (by decide) ?_
                      refine lv_iadd hx hb d_R_tokenSizeAt_275 ?_
                      refine lv_goto (tgt := 281) hx hb d_R_tokenSizeAt_276 (by decide) ?_
                      refine lv_topi (fun x5_31 ex5_31 => ?_)
                      have hw := hw x5_31 ex5_31
                      refine lv_istore (lv' := [(5, .int x5_31), (6, .int 0), (8, .int 0), (7, .int r_13), (0, .ref (ad 11)), (1, .int x1), (2, .int x2)]) hx hb d_R_tokenSizeAt_281 hl (by decide) rfl (fun ls hl => ?_)
                      refine lv_goto (tgt := 174) hx hb d_R_tokenSizeAt_283 (by decide) ?_
                      exact ih x5_31 0 _ _ _ hw hP hD hS (lv_sub hl [4, 5, 6, 0, 1] rfl)
                  · have hw := hwf c_29
                    refine lv_iconst (v := 1) hx hb d_R_tokenSizeAt_260 (by decide) ?_
                    refine lv_goto (tgt := 265) hx hb d_R_tokenSizeAt_261 (by decide) ?_
                    refine lv_istore (lv' := [(6, .int 1), (8, .int 0), (7, .int r_13), (0, .ref (ad 11)), (1, .int x1), (2, .int x2), (5, .int x5)]) hx hb d_R_tokenSizeAt_265 hl (by decide) rfl (fun ls hl => ?_)
                    refine lv_iload hx hb d_R_tokenSizeAt_267 (lv_at hl 0 rfl) ?_
                    obtain ⟨hwt, hwf⟩ := hw
                    refine lv_if_eq (tgt := 279) hx hb d_R_tokenSizeAt_269 (by decide) (fun c_32 => ?_) (fun c_32 => ?_)
                    · have hw := hwt c_32
                      refine lv_iload hx hb d_R_tokenSizeAt_279 (lv_at hl 6 rfl) ?_
                      refine lv_istore (lv' := [(5, .int x5), (6, .int 1), (8, .int 0), (7, .int r_13), (0, .ref (ad 11)), (1, .int x1), (2, .int x2)]) hx hb d_R_tokenSizeAt_281 hl (by decide) rfl (fun ls hl => ?_)
                      refine lv_goto (tgt := 174) hx hb d_R_tokenSizeAt_283 (by decide) ?_
                      exact ih x5 1 _ _ _ hw hP hD hS (lv_sub hl [4, 5, 6, 0, 1] rfl)
                    · have hw := hwf c_32
                      refine lv_iload hx hb d_R_tokenSizeAt_272 (lv_at hl 6 rfl) ?_
                      refine lv_iconst (v := 1) hx hb d_R_tokenSizeAt_274 (by decide) ?_
                      refine lv_iadd hx hb d_R_tokenSizeAt_275 ?_
                      refine lv_goto (tgt := 281) hx hb d_R_tokenSizeAt_276 (by decide) ?_
                      refine lv_topi (fun x5_33 ex5_33 => ?_)
                      have hw := hw x5_33 ex5_33
                      refine lv_istore (lv' := [(5, .int x5_33), (6, .int 1), (8, .int 0), (7, .int r_13), (0, .ref (ad 11)), (1, .int x1), (2, .int x2)]) hx hb d_R_tokenSizeAt_281 hl (by decide) rfl (fun ls hl => ?_)
                      refine lv_goto (tgt := 174) hx hb d_R_tokenSizeAt_283 (by decide) ?_
                      exact ih x5_33 1 _ _ _ hw hP hD hS (lv_sub hl [4, 5, 6, 0, 1] rfl)
          · have hw := hwf c_17
            refine lv_iconst (v := 1) hx hb d_R_tokenSizeAt_225 (by decide) ?_
            refine lv_goto (tgt := 230) hx hb d_R_tokenSizeAt_226 (by decide) ?_
            refine lv_istore (lv' := [(8, .int 1), (7, .int r_13), (0, .ref (ad 11)), (1, .int x1), (2, .int x2), (5, .int x5), (6, .int x6)]) hx hb d_R_tokenSizeAt_230 hl (by decide) rfl (fun ls hl => ?_)
            refine lv_iload hx hb d_R_tokenSizeAt_232 (lv_at hl 1 rfl) ?_
            refine k_callSi (As := [.int r_13]) (rest := []) (fun (u : Unit) => wd_R_tokenSizeAt ad ck rsize rval risP cnt look bad byZ inr rpl hld store) ⟨hx, hb, hml, hown, hts⟩ (kc_R_isDigit l dC dI ad ck r_13 (hw := hw)) (va_cwS 1 hts (gS ux_61 ux_63 ux_49 ux_62) rfl rfl rfl hd_R_isDigit ⟨Nat.le_of_ble_eq_true rfl, Nat.le_of_ble_eq_true rfl⟩) hK hP hD hS hA k_x0c trivial [] [0, 1] [0, 1] rfl rfl (by decide) (by decide) (fun _ => rfl) rfl hl.1 rfl (lv_room (Nat.le_of_ble_eq_true rfl)) d_R_tokenSizeAt_234 ⟨Nat.zero_le _, Nat.zero_le _⟩ ?_
            intro r_34 u H locs hw hP hD hS
            have hP : va_P (dC, dI) vwCl (wd_R_tokenSizeAt ad ck rsize rval risP cnt look bad byZ inr rpl hld store) H := hP
            have hD : va_D A (wd_R_tokenSizeAt ad ck rsize rval risP cnt look bad byZ inr rpl hld store) := hD
            try dsimp only at hw
            obtain ⟨hwt, hwf⟩ := hw
            refine lv_if_ne (tgt := 260) hx hb d_R_tokenSizeAt_237 (by decide) (fun c_35 => ?_) (fun c_35 => ?_)
            · have hw := hwf c_35
              refine lv_iconst (v := 1) hx hb d_R_tokenSizeAt_260 (by decide) ?_
              refine lv_goto (tgt := 265) hx hb d_R_tokenSizeAt_261 (by decide) ?_
              refine lv_istore (lv' := [(6, .int 1), (8, .int 1), (7, .int r_13), (0, .ref (ad 11)), (1, .int x1), (2, .int x2), (5, .int x5)]) hx hb d_R_tokenSizeAt_265 hl (by decide) rfl (fun ls hl => ?_)
              refine lv_iload hx hb d_R_tokenSizeAt_267 (lv_at hl 0 rfl) ?_
              obtain ⟨hwt, hwf⟩ := hw
              refine lv_if_eq (tgt := 279) hx hb d_R_tokenSizeAt_269 (by decide) (fun c_36 => ?_) (fun c_36 => ?_)
              · have hw := hwt c_36
                refine lv_iload hx hb d_R_tokenSizeAt_279 (lv_at hl 6 rfl) ?_
                refine lv_istore (lv' := [(5, .int x5), (6, .int 1), (8, .int 1), (7, .int r_13), (0, .ref (ad 11)), (1, .int x1), (2, .int x2)]) hx hb d_R_tokenSizeAt_281 hl (by decide) rfl (fun ls hl => ?_)
                refine lv_goto (tgt := 174) hx hb d_R_tokenSizeAt_283 (by decide) ?_
                exact ih x5 1 _ _ _ hw hP hD hS (lv_sub hl [4, 5, 6, 0, 1] rfl)
              · have hw := hwf c_36
                refine lv_iload hx hb d_R_tokenSizeAt_272 (lv_at hl 6 rfl) ?_
                refine lv_iconst (v := 1) hx hb d_R_tokenSizeAt_274 (by decide) ?_
                refine lv_iadd hx hb d_R_tokenSizeAt_275 ?_
                refine lv_goto (tgt := 281) hx hb d_R_tokenSizeAt_276 (by decide) ?_
                refine lv_topi (fun x5_37 ex5_37 => ?_)
                have hw := hw x5_37 ex5_37
                refine lv_istore (lv' := [(5, .int x5_37), (6, .int 1), (8, .int 1), (7, .int r_13), (0, .ref (ad 11)), (1, .int x1), (2, .int x2)]) hx hb d_R_tokenSizeAt_281 hl (by decide) rfl (fun ls hl => ?_)
                refine lv_goto (tgt := 174) hx hb d_R_tokenSizeAt_283 (by decide) ?_
                exact ih x5_37 1 _ _ _ hw hP hD hS (lv_sub hl [4, 5, 6, 0, 1] rfl)
            · have hw := hwt c_35
              refine lv_iload hx hb d_R_tokenSizeAt_240 (lv_at hl 1 rfl) ?_
              refine k_callSi (As := [.int r_13]) (rest := []) (fun (u : Unit) => wd_R_tokenSizeAt ad ck rsize rval risP cnt look bad byZ inr rpl hld store) ⟨hx, hb, hml, hown, hts⟩ (kc_R_isLetter l dC dI ad ck r_13 (hw := hw)) (va_cwS 1 hts (gS ux_58 ux_60 ux_49 ux_59) rfl rfl rfl hd_R_isLetter ⟨Nat.le_of_ble_eq_true rfl, Nat.le_of_ble_eq_true rfl⟩) hK hP hD hS hA k_x0c trivial [] [0, 1] [0, 1] rfl rfl (by decide) (by decide) (fun _ => rfl) rfl hl.1 rfl (lv_room (Nat.le_of_ble_eq_true rfl)) d_R_tokenSizeAt_242 ⟨Nat.zero_le _, Nat.zero_le _⟩ ?_
              intro r_38 u H locs hw hP hD hS
              have hP : va_P (dC, dI) vwCl (wd_R_tokenSizeAt ad ck rsize rval risP cnt look bad byZ inr rpl hld store) H := hP
              have hD : va_D A (wd_R_tokenSizeAt ad ck rsize rval risP cnt look bad byZ inr rpl hld store) := hD
              try dsimp only at hw
              obtain ⟨hwt, hwf⟩ := hw
              refine lv_if_ne (tgt := 260) hx hb d_R_tokenSizeAt_245 (by decide) (fun c_39 => ?_) (fun c_39 => ?_)
              · have hw := hwf c_39
                refine lv_iconst (v := 1) hx hb d_R_tokenSizeAt_260 (by decide) ?_
                refine lv_goto (tgt := 265) hx hb d_R_tokenSizeAt_261 (by decide) ?_
                refine lv_istore (lv' := [(6, .int 1), (8, .int 1), (7, .int r_13), (0, .ref (ad 11)), (1, .int x1), (2, .int x2), (5, .int x5)]) hx hb d_R_tokenSizeAt_265 hl (by decide) rfl (fun ls hl => ?_)
                refine lv_iload hx hb d_R_tokenSizeAt_267 (lv_at hl 0 rfl) ?_
                obtain ⟨hwt, hwf⟩ := hw
                refine lv_if_eq (tgt := 279) hx hb d_R_tokenSizeAt_269 (by decide) (fun c_40 => ?_) (fun c_40 => ?_)
                · have hw := hwt c_40
                  refine lv_iload hx hb d_R_tokenSizeAt_279 (lv_at hl 6 rfl) ?_
                  refine lv_istore (lv' := [(5, .int x5), (6, .int 1), (8, .int 1), (7, .int r_13), (0, .ref (ad 11)), (1, .int x1), (2, .int x2)]) hx hb d_R_tokenSizeAt_281 hl (by decide) rfl (fun ls hl => ?_)
                  refine lv_goto (tgt := 174) hx hb d_R_tokenSizeAt_283 (by decide) ?_
                  exact ih x5 1 _ _ _ hw hP hD hS (lv_sub hl [4, 5, 6, 0, 1] rfl)
                · have hw := hwf c_40
                  refine lv_iload hx hb d_R_tokenSizeAt_272 (lv_at hl 6 rfl) ?_
                  refine lv_iconst (v := 1) hx hb d_R_tokenSizeAt_274 (by decide) ?_
                  refine lv_iadd hx hb d_R_tokenSizeAt_275 ?_
                  refine lv_goto (tgt := 281) hx hb d_R_tokenSizeAt_276 (by decide) ?_
                  refine lv_topi (fun x5_41 ex5_41 => ?_)
                  have hw := hw x5_41 ex5_41
                  refine lv_istore (lv' := [(5, .int x5_41), (6, .int 1), (8, .int 1), (7, .int r_13), (0, .ref (ad 11)), (1, .int x1), (2, .int x2)]) hx hb d_R_tokenSizeAt_281 hl (by decide) rfl (fun ls hl => ?_)
                  refine lv_goto (tgt := 174) hx hb d_R_tokenSizeAt_283 (by decide) ?_
                  exact ih x5_41 1 _ _ _ hw hP hD hS (lv_sub hl [4, 5, 6, 0, 1] rfl)
              · have hw := hwt c_39
                refine lv_iload hx hb d_R_tokenSizeAt_248 (lv_at hl 1 rfl) ?_
                refine lv_bipush (v := 46) hx hb d_R_tokenSizeAt_250 (by decide) ?_
                obtain ⟨hwt, hwf⟩ := hw
                refine lv_icmp_eq (tgt := 260) hx hb d_R_tokenSizeAt_252 (by decide) (fun c_42 => ?_) (fun c_42 => ?_)
                · have hw := hwt c_42
                  refine lv_iconst (v := 1) hx hb d_R_tokenSizeAt_260 (by decide) ?_
                  refine lv_goto (tgt := 265) hx hb d_R_tokenSizeAt_261 (by decide) ?_
                  refine lv_istore (lv' := [(6, .int 1), (8, .int 1), (7, .int r_13), (0, .ref (ad 11)), (1, .int x1), (2, .int x2), (5, .int x5)]) hx hb d_R_tokenSizeAt_265 hl (by decide) rfl (fun ls hl => ?_)
                  refine lv_iload hx hb d_R_tokenSizeAt_267 (lv_at hl 0 rfl) ?_
                  obtain ⟨hwt, hwf⟩ := hw
                  refine lv_if_eq (tgt := 279) hx hb d_R_tokenSizeAt_269 (by decide) (fun c_43 => ?_) (fun c_43 => ?_)
                  · have hw := hwt c_43
                    refine lv_iload hx hb d_R_tokenSizeAt_279 (lv_at hl 6 rfl) ?_
                    refine lv_istore (lv' := [(5, .int x5), (6, .int 1), (8, .int 1), (7, .int r_13), (0, .ref (ad 11)), (1, .int x1), (2, .int x2)]) hx hb d_R_tokenSizeAt_281 hl (by decide) rfl (fun ls hl => ?_)
                    refine lv_goto (tgt := 174) hx hb d_R_tokenSizeAt_283 (by decide) ?_
                    exact ih x5 1 _ _ _ hw hP hD hS (lv_sub hl [4, 5, 6, 0, 1] rfl)
                  · have hw := hwf c_43
                    refine lv_iload hx hb d_R_tokenSizeAt_272 (lv_at hl 6 rfl) ?_
                    refine lv_iconst (v := 1) hx hb d_R_tokenSizeAt_274 (by decide) ?_
                    refine lv_iadd hx hb d_R_tokenSizeAt_275 ?_
                    refine lv_goto (tgt := 281) hx hb d_R_tokenSizeAt_276 (by decide) ?_
                    refine lv_topi (fun x5_44 ex5_44 => ?_)
                    have hw := hw x5_44 ex5_44
                    refine lv_istore (lv' := [(5, .int x5_44), (6, .int 1), (8, .int 1), (7, .int r_13), (0, .ref (ad 11)), (1, .int x1), (2, .int x2)]) hx hb d_R_tokenSizeAt_281 hl (by decide) rfl (fun ls hl => ?_)
                    refine lv_goto (tgt := 174) hx hb d_R_tokenSizeAt_283 (by decide) ?_
                    exact ih x5_44 1 _ _ _ hw hP hD hS (lv_sub hl [4, 5, 6, 0, 1] rfl)
                · have hw := hwf c_42
                  refine lv_iload hx hb d_R_tokenSizeAt_255 (lv_at hl 0 rfl) ?_
                  obtain ⟨hwt, hwf⟩ := hw
                  refine lv_if_eq (tgt := 264) hx hb d_R_tokenSizeAt_257 (by decide) (fun c_45 => ?_) (fun c_45 => ?_)
                  · have hw := hwt c_45
                    refine lv_iconst (v := 0) hx hb d_R_tokenSizeAt_264 (by decide) ?_
                    refine lv_istore (lv' := [(6, .int 0), (8, .int 1), (7, .int r_13), (0, .ref (ad 11)), (1, .int x1), (2, .int x2), (5, .int x5)]) hx hb d_R_tokenSizeAt_265 hl (by decide) rfl (fun ls hl => ?_)
                    refine lv_iload hx hb d_R_tokenSizeAt_267 (lv_at hl 0 rfl) ?_
                    obtain ⟨hwt, hwf⟩ := hw
                    refine lv_if_eq (tgt := 279) hx hb d_R_tokenSizeAt_269 (by decide) (fun c_46 => ?_) (fun c_46 => ?_)
                    · have hw := hwt c_46
                      refine lv_iload hx hb d_R_tokenSizeAt_279 (lv_at hl 6 rfl) ?_
                      refine lv_istore (lv' := [(5, .int x5), (6, .int 0), (8, .int 1), (7, .int r_13), (0, .ref (ad 11)), (1, .int x1), (2, .int x2)]) hx hb d_R_tokenSizeAt_281 hl (by decide) rfl (fun ls hl => ?_)
                      refine lv_goto (tgt := 174) hx hb d_R_tokenSizeAt_283 (by decide) ?_
                      exact ih x5 0 _ _ _ hw hP hD hS (lv_sub hl [4, 5, 6, 0, 1] rfl)
                    · have hw := hwf c_46
                      refine lv_iload hx hb d_R_tokenSizeAt_272 (lv_at hl 6 rfl) ?_
                      refine lv_iconst (v := 1) hx hb d_R_tokenSizeAt_274 (by decide) ?_
                      refine lv_iadd hx hb d_R_tokenSizeAt_275 ?_
                      refine lv_goto (tgt := 281) hx hb d_R_tokenSizeAt_276 (by decide) ?_
                      refine lv_topi (fun x5_47 ex5_47 => ?_)
                      have hw := hw x5_47 ex5_47
                      refine lv_istore (lv' := [(5, .int x5_47), (6, .int 0), (8, .int 1), (7, .int r_13), (0, .ref (ad 11)), (1, .int x1), (2, .int x2)]) hx hb d_R_tokenSizeAt_281 hl (by decide) rfl (fun ls hl => ?_)
                      refine lv_goto (tgt := 174) hx hb d_R_tokenSizeAt_283 (by decide) ?_
                      exact ih x5_47 0 _ _ _ hw hP hD hS (lv_sub hl [4, 5, 6, 0, 1] rfl)
                  · have hw := hwf c_45
                    refine lv_iconst (v := 1) hx hb d_R_tokenSizeAt_260 (by decide) ?_
                    refine lv_goto (tgt := 265) hx hb d_R_tokenSizeAt_261 (by decide) ?_
                    refine lv_istore (lv' := [(6, .int 1), (8, .int 1), (7, .int r_13), (0, .ref (ad 11)), (1, .int x1), (2, .int x2), (5, .int x5)]) hx hb d_R_tokenSizeAt_265 hl (by decide) rfl (fun ls hl => ?_)
                    refine lv_iload hx hb d_R_tokenSizeAt_267 (lv_at hl 0 rfl) ?_
                    obtain ⟨hwt, hwf⟩ := hw
                    refine lv_if_eq (tgt := 279) hx hb d_R_tokenSizeAt_269 (by decide) (fun c_48 => ?_) (fun c_48 => ?_)
                    · have hw := hwt c_48
                      refine lv_iload hx hb d_R_tokenSizeAt_279 (lv_at hl 6 rfl) ?_
                      refine lv_istore (lv' := [(5, .int x5), (6, .int 1), (8, .int 1), (7, .int r_13), (0, .ref (ad 11)), (1, .int x1), (2, .int x2)]) hx hb d_R_tokenSizeAt_281 hl (by decide) rfl (fun ls hl => ?_)
                      refine lv_goto (tgt := 174) hx hb d_R_tokenSizeAt_283 (by decide) ?_
                      exact ih x5 1 _ _ _ hw hP hD hS (lv_sub hl [4, 5, 6, 0, 1] rfl)
                    · have hw := hwf c_48
                      refine lv_iload hx hb d_R_tokenSizeAt_272 (lv_at hl 6 rfl) ?_
                      refine lv_iconst (v := 1) hx hb d_R_tokenSizeAt_274 (by decide) ?_
                      refine lv_iadd hx hb d_R_tokenSizeAt_275 ?_
                      refine lv_goto (tgt := 281) hx hb d_R_tokenSizeAt_276 (by decide) ?_
                      refine lv_topi (fun x5_49 ex5_49 => ?_)
                      have hw := hw x5_49 ex5_49
                      refine lv_istore (lv' := [(5, .int x5_49), (6, .int 1), (8, .int 1), (7, .int r_13), (0, .ref (ad 11)), (1, .int x1), (2, .int x2)]) hx hb d_R_tokenSizeAt_281 hl (by decide) rfl (fun ls hl => ?_)
                      refine lv_goto (tgt := 174) hx hb d_R_tokenSizeAt_283 (by decide) ?_
                      exact ih x5_49 1 _ _ _ hw hP hD hS (lv_sub hl [4, 5, 6, 0, 1] rfl)
        · have hw := hwf c_14
          refine lv_iload hx hb d_R_tokenSizeAt_198 (lv_at hl 0 rfl) ?_
          refine lv_bipush (v := 45) hx hb d_R_tokenSizeAt_200 (by decide) ?_
          obtain ⟨hwt, hwf⟩ := hw
          refine lv_icmp_ne (tgt := 229) hx hb d_R_tokenSizeAt_202 (by decide) (fun c_50 => ?_) (fun c_50 => ?_)
          · have hw := hwf c_50
            refine lv_iconst (v := 0) hx hb d_R_tokenSizeAt_229 (by decide) ?_
            refine lv_istore (lv' := [(8, .int 0), (7, .int r_13), (0, .ref (ad 11)), (1, .int x1), (2, .int x2), (5, .int x5), (6, .int x6)]) hx hb d_R_tokenSizeAt_230 hl (by decide) rfl (fun ls hl => ?_)
            refine lv_iload hx hb d_R_tokenSizeAt_232 (lv_at hl 1 rfl) ?_
            refine k_callSi (As := [.int r_13]) (rest := []) (fun (u : Unit) => wd_R_tokenSizeAt ad ck rsize rval risP cnt look bad byZ inr rpl hld store) ⟨hx, hb, hml, hown, hts⟩ (kc_R_isDigit l dC dI ad ck r_13 (hw := hw)) (va_cwS 1 hts (gS ux_61 ux_63 ux_49 ux_62) rfl rfl rfl hd_R_isDigit ⟨Nat.le_of_ble_eq_true rfl, Nat.le_of_ble_eq_true rfl⟩) hK hP hD hS hA k_x0c trivial [] [0, 1] [0, 1] rfl rfl (by decide) (by decide) (fun _ => rfl) rfl hl.1 rfl (lv_room (Nat.le_of_ble_eq_true rfl)) d_R_tokenSizeAt_234 ⟨Nat.zero_le _, Nat.zero_le _⟩ ?_
            intro r_51 u H locs hw hP hD hS
            have hP : va_P (dC, dI) vwCl (wd_R_tokenSizeAt ad ck rsize rval risP cnt look bad byZ inr rpl hld store) H := hP
            have hD : va_D A (wd_R_tokenSizeAt ad ck rsize rval risP cnt look bad byZ inr rpl hld store) := hD
            try dsimp only at hw
            obtain ⟨hwt, hwf⟩ := hw
            refine lv_if_ne (tgt := 260) hx hb d_R_tokenSizeAt_237 (by decide) (fun c_52 => ?_) (fun c_52 => ?_)
            · have hw := hwf c_52
              refine lv_iconst (v := 1) hx hb d_R_tokenSizeAt_260 (by decide) ?_
              refine lv_goto (tgt := 265) hx hb d_R_tokenSizeAt_261 (by decide) ?_
              refine lv_istore (lv' := [(6, .int 1), (8, .int 0), (7, .int r_13), (0, .ref (ad 11)), (1, .int x1), (2, .int x2), (5, .int x5)]) hx hb d_R_tokenSizeAt_265 hl (by decide) rfl (fun ls hl => ?_)
              refine lv_iload hx hb d_R_tokenSizeAt_267 (lv_at hl 0 rfl) ?_
              obtain ⟨hwt, hwf⟩ := hw
              refine lv_if_eq (tgt := 279) hx hb d_R_tokenSizeAt_269 (by decide) (fun c_53 => ?_) (fun c_53 => ?_)
              · have hw := hwt c_53
                refine lv_iload hx hb d_R_tokenSizeAt_279 (lv_at hl 6 rfl) ?_
                refine lv_istore (lv' := [(5, .int x5), (6, .int 1), (8, .int 0), (7, .int r_13), (0, .ref (ad 11)), (1, .int x1), (2, .int x2)]) hx hb d_R_tokenSizeAt_281 hl (by decide) rfl (fun ls hl => ?_)
                refine lv_goto (tgt := 174) hx hb d_R_tokenSizeAt_283 (by decide) ?_
                exact ih x5 1 _ _ _ hw hP hD hS (lv_sub hl [4, 5, 6, 0, 1] rfl)
              · have hw := hwf c_53
                refine lv_iload hx hb d_R_tokenSizeAt_272 (lv_at hl 6 rfl) ?_
                refine lv_iconst (v := 1) hx hb d_R_tokenSizeAt_274 (by decide) ?_
                refine lv_iadd hx hb d_R_tokenSizeAt_275 ?_
                refine lv_goto (tgt := 281) hx hb d_R_tokenSizeAt_276 (by decide) ?_
                refine lv_topi (fun x5_54 ex5_54 => ?_)
                have hw := hw x5_54 ex5_54
                refine lv_istore (lv' := [(5, .int x5_54), (6, .int 1), (8, .int 0), (7, .int r_13), (0, .ref (ad 11)), (1, .int x1), (2, .int x2)]) hx hb d_R_tokenSizeAt_281 hl (by decide) rfl (fun ls hl => ?_)
                refine lv_goto (tgt := 174) hx hb d_R_tokenSizeAt_283 (by decide) ?_
                exact ih x5_54 1 _ _ _ hw hP hD hS (lv_sub hl [4, 5, 6, 0, 1] rfl)
            · have hw := hwt c_52
              refine lv_iload hx hb d_R_tokenSizeAt_240 (lv_at hl 1 rfl) ?_
              refine k_callSi (As := [.int r_13]) (rest := []) (fun (u : Unit) => wd_R_tokenSizeAt ad ck rsize rval risP cnt look bad byZ inr rpl hld store) ⟨hx, hb, hml, hown, hts⟩ (kc_R_isLetter l dC dI ad ck r_13 (hw := hw)) (va_cwS 1 hts (gS ux_58 ux_60 ux_49 ux_59) rfl rfl rfl hd_R_isLetter ⟨Nat.le_of_ble_eq_true rfl, Nat.le_of_ble_eq_true rfl⟩) hK hP hD hS hA k_x0c trivial [] [0, 1] [0, 1] rfl rfl (by decide) (by decide) (fun _ => rfl) rfl hl.1 rfl (lv_room (Nat.le_of_ble_eq_true rfl)) d_R_tokenSizeAt_242 ⟨Nat.zero_le _, Nat.zero_le _⟩ ?_
              intro r_55 u H locs hw hP hD hS
              have hP : va_P (dC, dI) vwCl (wd_R_tokenSizeAt ad ck rsize rval risP cnt look bad byZ inr rpl hld store) H := hP
              have hD : va_D A (wd_R_tokenSizeAt ad ck rsize rval risP cnt look bad byZ inr rpl hld store) := hD
              try dsimp only at hw
              obtain ⟨hwt, hwf⟩ := hw
              refine lv_if_ne (tgt := 260) hx hb d_R_tokenSizeAt_245 (by decide) (fun c_56 => ?_) (fun c_56 => ?_)
              · have hw := hwf c_56
                refine lv_iconst (v := 1) hx hb d_R_tokenSizeAt_260 (by decide) ?_
                refine lv_goto (tgt := 265) hx hb d_R_tokenSizeAt_261 (by decide) ?_
                refine lv_istore (lv' := [(6, .int 1), (8, .int 0), (7, .int r_13), (0, .ref (ad 11)), (1, .int x1), (2, .int x2), (5, .int x5)]) hx hb d_R_tokenSizeAt_265 hl (by decide) rfl (fun ls hl => ?_)
                refine lv_iload hx hb d_R_tokenSizeAt_267 (lv_at hl 0 rfl) ?_
                obtain ⟨hwt, hwf⟩ := hw
                refine lv_if_eq (tgt := 279) hx hb d_R_tokenSizeAt_269 (by decide) (fun c_57 => ?_) (fun c_57 => ?_)
                · have hw := hwt c_57
                  refine lv_iload hx hb d_R_tokenSizeAt_279 (lv_at hl 6 rfl) ?_
                  refine lv_istore (lv' := [(5, .int x5), (6, .int 1), (8, .int 0), (7, .int r_13), (0, .ref (ad 11)), (1, .int x1), (2, .int x2)]) hx hb d_R_tokenSizeAt_281 hl (by decide) rfl (fun ls hl => ?_)
                  refine lv_goto (tgt := 174) hx hb d_R_tokenSizeAt_283 (by decide) ?_
                  exact ih x5 1 _ _ _ hw hP hD hS (lv_sub hl [4, 5, 6, 0, 1] rfl)
                · have hw := hwf c_57
                  refine lv_iload hx hb d_R_tokenSizeAt_272 (lv_at hl 6 rfl) ?_
                  refine lv_iconst (v := 1) hx hb d_R_tokenSizeAt_274 (by decide) ?_
                  refine lv_iadd hx hb d_R_tokenSizeAt_275 ?_
                  refine lv_goto (tgt := 281) hx hb d_R_tokenSizeAt_276 (by decide) ?_
                  refine lv_topi (fun x5_58 ex5_58 => ?_)
                  have hw := hw x5_58 ex5_58
                  refine lv_istore (lv' := [(5, .int x5_58), (6, .int 1), (8, .int 0), (7, .int r_13), (0, .ref (ad 11)), (1, .int x1), (2, .int x2)]) hx hb d_R_tokenSizeAt_281 hl (by decide) rfl (fun ls hl => ?_)
                  refine lv_goto (tgt := 174) hx hb d_R_tokenSizeAt_283 (by decide) ?_
                  exact ih x5_58 1 _ _ _ hw hP hD hS (lv_sub hl [4, 5, 6, 0, 1] rfl)
              · have hw := hwt c_56
                refine lv_iload hx hb d_R_tokenSizeAt_248 (lv_at hl 1 rfl) ?_
                refine lv_bipush (v := 46) hx hb d_R_tokenSizeAt_250 (by decide) ?_
                obtain ⟨hwt, hwf⟩ := hw
                refine lv_icmp_eq (tgt := 260) hx hb d_R_tokenSizeAt_252 (by decide) (fun c_59 => ?_) (fun c_59 => ?_)
                · have hw := hwt c_59
                  refine lv_iconst (v := 1) hx hb d_R_tokenSizeAt_260 (by decide) ?_
                  refine lv_goto (tgt := 265) hx hb d_R_tokenSizeAt_261 (by decide) ?_
                  refine lv_istore (lv' := [(6, .int 1), (8, .int 0), (7, .int r_13), (0, .ref (ad 11)), (1, .int x1), (2, .int x2), (5, .int x5)]) hx hb d_R_tokenSizeAt_265 hl (by decide) rfl (fun ls hl => ?_)
                  refine lv_iload hx hb d_R_tokenSizeAt_267 (lv_at hl 0 rfl) ?_
                  obtain ⟨hwt, hwf⟩ := hw
                  refine lv_if_eq (tgt := 279) hx hb d_R_tokenSizeAt_269 (by decide) (fun c_60 => ?_) (fun c_60 => ?_)
                  · have hw := hwt c_60
                    refine lv_iload hx hb d_R_tokenSizeAt_279 (lv_at hl 6 rfl) ?_
                    refine lv_istore (lv' := [(5, .int x5), (6, .int 1), (8, .int 0), (7, .int r_13), (0, .ref (ad 11)), (1, .int x1), (2, .int x2)]) hx hb d_R_tokenSizeAt_281 hl (by decide) rfl (fun ls hl => ?_)
                    refine lv_goto (tgt := 174) hx hb d_R_tokenSizeAt_283 (by decide) ?_
                    exact ih x5 1 _ _ _ hw hP hD hS (lv_sub hl [4, 5, 6, 0, 1] rfl)
                  · have hw := hwf c_60
                    refine lv_iload hx hb d_R_tokenSizeAt_272 (lv_at hl 6 rfl) ?_
                    refine lv_iconst (v := 1) hx hb d_R_tokenSizeAt_274 (by decide) ?_
                    refine lv_iadd hx hb d_R_tokenSizeAt_275 ?_
                    refine lv_goto (tgt := 281) hx hb d_R_tokenSizeAt_276 (by decide) ?_
                    refine lv_topi (fun x5_61 ex5_61 => ?_)
                    have hw := hw x5_61 ex5_61
                    refine lv_istore (lv' := [(5, .int x5_61), (6, .int 1), (8, .int 0), (7, .int r_13), (0, .ref (ad 11)), (1, .int x1), (2, .int x2)]) hx hb d_R_tokenSizeAt_281 hl (by decide) rfl (fun ls hl => ?_)
                    refine lv_goto (tgt := 174) hx hb d_R_tokenSizeAt_283 (by decide) ?_
                    exact ih x5_61 1 _ _ _ hw hP hD hS (lv_sub hl [4, 5, 6, 0, 1] rfl)
                · have hw := hwf c_59
                  refine lv_iload hx hb d_R_tokenSizeAt_255 (lv_at hl 0 rfl) ?_
                  obtain ⟨hwt, hwf⟩ := hw
                  refine lv_if_eq (tgt := 264) hx hb d_R_tokenSizeAt_257 (by decide) (fun c_62 => ?_) (fun c_62 => ?_)
                  · have hw := hwt c_62
                    refine lv_iconst (v := 0) hx hb d_R_tokenSizeAt_264 (by decide) ?_
                    refine lv_istore (lv' := [(6, .int 0), (8, .int 0), (7, .int r_13), (0, .ref (ad 11)), (1, .int x1), (2, .int x2), (5, .int x5)]) hx hb d_R_tokenSizeAt_265 hl (by decide) rfl (fun ls hl => ?_)
                    refine lv_iload hx hb d_R_tokenSizeAt_267 (lv_at hl 0 rfl) ?_
                    obtain ⟨hwt, hwf⟩ := hw
                    refine lv_if_eq (tgt := 279) hx hb d_R_tokenSizeAt_269 (by decide) (fun c_63 => ?_) (fun c_63 => ?_)
                    · have hw := hwt c_63
                      refine lv_iload hx hb d_R_tokenSizeAt_279 (lv_at hl 6 rfl) ?_
                      refine lv_istore (lv' := [(5, .int x5), (6, .int 0), (8, .int 0), (7, .int r_13), (0, .ref (ad 11)), (1, .int x1), (2, .int x2)]) hx hb d_R_tokenSizeAt_281 hl (by decide) rfl (fun ls hl => ?_)
                      refine lv_goto (tgt := 174) hx hb d_R_tokenSizeAt_283 (by decide) ?_
                      exact ih x5 0 _ _ _ hw hP hD hS (lv_sub hl [4, 5, 6, 0, 1] rfl)
                    · have hw := hwf c_63
                      refine lv_iload hx hb d_R_tokenSizeAt_272 (lv_at hl 6 rfl) ?_
                      refine lv_iconst (v := 1) hx hb d_R_tokenSizeAt_274 (by decide) ?_
                      refine lv_iadd hx hb d_R_tokenSizeAt_275 ?_
                      refine lv_goto (tgt := 281) hx hb d_R_tokenSizeAt_276 (by decide) ?_
                      refine lv_topi (fun x5_64 ex5_64 => ?_)
                      have hw := hw x5_64 ex5_64
                      refine lv_istore (lv' := [(5, .int x5_64), (6, .int 0), (8, .int 0), (7, .int r_13), (0, .ref (ad 11)), (1, .int x1), (2, .int x2)]) hx hb d_R_tokenSizeAt_281 hl (by decide) rfl (fun ls hl => ?_)
                      refine lv_goto (tgt := 174) hx hb d_R_tokenSizeAt_283 (by decide) ?_
                      exact ih x5_64 0 _ _ _ hw hP hD hS (lv_sub hl [4, 5, 6, 0, 1] rfl)
                  · have hw := hwf c_62
                    refine lv_iconst (v := 1) hx hb d_R_tokenSizeAt_260 (by decide) ?_
                    refine lv_goto (tgt := 265) hx hb d_R_tokenSizeAt_261 (by decide) ?_
                    refine lv_istore (lv' := [(6, .int 1), (8, .int 0), (7, .int r_13), (0, .ref (ad 11)), (1, .int x1), (2, .int x2), (5, .int x5)]) hx hb d_R_tokenSizeAt_265 hl (by decide) rfl (fun ls hl => ?_)
                    refine lv_iload hx hb d_R_tokenSizeAt_267 (lv_at hl 0 rfl) ?_
                    obtain ⟨hwt, hwf⟩ := hw
                    refine lv_if_eq (tgt := 279) hx hb d_R_tokenSizeAt_269 (by decide) (fun c_65 => ?_) (fun c_65 => ?_)
                    · have hw := hwt c_65
                      refine lv_iload hx hb d_R_tokenSizeAt_279 (lv_at hl 6 rfl) ?_
                      refine lv_istore (lv' := [(5, .int x5), (6, .int 1), (8, .int 0), (7, .int r_13), (0, .ref (ad 11)), (1, .int x1), (2, .int x2)]) hx hb d_R_tokenSizeAt_281 hl (by decide) rfl (fun ls hl => ?_)
                      refine lv_goto (tgt := 174) hx hb d_R_tokenSizeAt_283 (by decide) ?_
                      exact ih x5 1 _ _ _ hw hP hD hS (lv_sub hl [4, 5, 6, 0, 1] rfl)
                    · have hw := hwf c_65
                      refine lv_iload hx hb d_R_tokenSizeAt_272 (lv_at hl 6 rfl) ?_
                      refine lv_iconst (v := 1) hx hb d_R_tokenSizeAt_274 (by decide) ?_
                      refine lv_iadd hx hb d_R_tokenSizeAt_275 ?_
                      refine lv_goto (tgt := 281) hx hb d_R_tokenSizeAt_276 (by decide) ?_
                      refine lv_topi (fun x5_66 ex5_66 => ?_)
                      have hw := hw x5_66 ex5_66
                      refine lv_istore (lv' := [(5, .int x5_66), (6, .int 1), (8, .int 0), (7, .int r_13), (0, .ref (ad 11)), (1, .int x1), (2, .int x2)]) hx hb d_R_tokenSizeAt_281 hl (by decide) rfl (fun ls hl => ?_)
                      refine lv_goto (tgt := 174) hx hb d_R_tokenSizeAt_283 (by decide) ?_
                      exact ih x5_66 1 _ _ _ hw hP hD hS (lv_sub hl [4, 5, 6, 0, 1] rfl)
          · have hw := hwt c_50
            refine lv_aload_n hx hb d_R_tokenSizeAt_205 rfl (lv_at hl 1 rfl) ?_
            refine va_get (D := (dC, dI)) (ci := 5) (v := .ref (ad 12)) (C := R_R) (T := T_R) (N := 16) hx hb hts in_R hown hK hP 0 rfl rfl 1 (by decide) (hts _ ux_46) (fun _ h9 => h9) rfl d_R_tokenSizeAt_206 ?_
            refine lv_iload hx hb d_R_tokenSizeAt_209 (lv_at hl 4 rfl) ?_
            refine lv_iconst (v := 1) hx hb d_R_tokenSizeAt_211 (by decide) ?_
            refine lv_isub hx hb d_R_tokenSizeAt_212 ?_
            refine lv_iload_n hx hb d_R_tokenSizeAt_213 rfl (lv_at hl 3 rfl) ?_
            refine k_callSi (As := [.ref (ad 12), .int (x5 - 1), .int x2]) (rest := []) (fun (u : Unit) => wd_R_tokenSizeAt ad ck rsize rval risP cnt look bad byZ inr rpl hld store) ⟨hx, hb, hml, hown, hts⟩ (kc_R_byteAt l dC dI ad ck store (x5 - 1) x2 (hw := hw)) (va_cwS 3 hts (gS ux_47 ux_50 ux_49 ux_48) rfl rfl rfl hd_R_byteAt ⟨Nat.le_of_ble_eq_true rfl, Nat.le_of_ble_eq_true rfl⟩) hK hP hD hS hA k_x0c trivial [1] [0] [0, 1] rfl rfl (by decide) (by decide) (fun _ => rfl) rfl hl.1 rfl (lv_room (Nat.le_of_ble_eq_true rfl)) d_R_tokenSizeAt_214 ⟨Nat.zero_le _, Nat.zero_le _⟩ ?_
            intro r_67 u H locs hw hP hD hS
            have hP : va_P (dC, dI) vwCl (wd_R_tokenSizeAt ad ck rsize rval risP cnt look bad byZ inr rpl hld store) H := hP
            have hD : va_D A (wd_R_tokenSizeAt ad ck rsize rval risP cnt look bad byZ inr rpl hld store) := hD
            try dsimp only at hw
            refine va_ldcS hx hb hown (hX.1 _ rs_0) d_R_tokenSizeAt_217 ?_
            refine k_callSi (As := [.int r_67, .ref (sa 0)]) (rest := []) (fun (u : Unit) => wd_R_tokenSizeAt ad ck rsize rval risP cnt look bad byZ inr rpl hld store) ⟨hx, hb, hml, hown, hts⟩ (kc_R_isOneOf l dC dI ad ck sa sv sf r_67 0 (hw := hw)) (va_cwS 2 hts (gS ux_51 ux_53 ux_49 ux_52) rfl rfl rfl hd_R_isOneOf ⟨Nat.le_of_ble_eq_true rfl, Nat.le_of_ble_eq_true rfl⟩) hK hP hD hS hA (XR_c sa sv sf) hX [] [0, 1] [0, 1] rfl rfl (by decide) (by decide) (fun _ => rfl) rfl hl.1 rfl (lv_room (Nat.le_of_ble_eq_true rfl)) d_R_tokenSizeAt_219 ⟨Nat.zero_le _, Nat.zero_le _⟩ ?_
            intro r_68 u H locs hw hP hD hS
            have hP : va_P (dC, dI) vwCl (wd_R_tokenSizeAt ad ck rsize rval risP cnt look bad byZ inr rpl hld store) H := hP
            have hD : va_D A (wd_R_tokenSizeAt ad ck rsize rval risP cnt look bad byZ inr rpl hld store) := hD
            try dsimp only at hw
            obtain ⟨hwt, hwf⟩ := hw
            refine lv_if_eq (tgt := 229) hx hb d_R_tokenSizeAt_222 (by decide) (fun c_69 => ?_) (fun c_69 => ?_)
            · have hw := hwt c_69
              refine lv_iconst (v := 0) hx hb d_R_tokenSizeAt_229 (by decide) ?_
              refine lv_istore (lv' := [(8, .int 0), (7, .int r_13), (0, .ref (ad 11)), (1, .int x1), (2, .int x2), (5, .int x5), (6, .int x6)]) hx hb d_R_tokenSizeAt_230 hl (by decide) rfl (fun ls hl => ?_)
              refine lv_iload hx hb d_R_tokenSizeAt_232 (lv_at hl 1 rfl) ?_
              refine k_callSi (As := [.int r_13]) (rest := []) (fun (u : Unit) => wd_R_tokenSizeAt ad ck rsize rval risP cnt look bad byZ inr rpl hld store) ⟨hx, hb, hml, hown, hts⟩ (kc_R_isDigit l dC dI ad ck r_13 (hw := hw)) (va_cwS 1 hts (gS ux_61 ux_63 ux_49 ux_62) rfl rfl rfl hd_R_isDigit ⟨Nat.le_of_ble_eq_true rfl, Nat.le_of_ble_eq_true rfl⟩) hK hP hD hS hA k_x0c trivial [] [0, 1] [0, 1] rfl rfl (by decide) (by decide) (fun _ => rfl) rfl hl.1 rfl (lv_room (Nat.le_of_ble_eq_true rfl)) d_R_tokenSizeAt_234 ⟨Nat.zero_le _, Nat.zero_le _⟩ ?_
              intro r_70 u H locs hw hP hD hS
              have hP : va_P (dC, dI) vwCl (wd_R_tokenSizeAt ad ck rsize rval risP cnt look bad byZ inr rpl hld store) H := hP
              have hD : va_D A (wd_R_tokenSizeAt ad ck rsize rval risP cnt look bad byZ inr rpl hld store) := hD
              try dsimp only at hw
              obtain ⟨hwt, hwf⟩ := hw
              refine lv_if_ne (tgt := 260) hx hb d_R_tokenSizeAt_237 (by decide) (fun c_71 => ?_) (fun c_71 => ?_)
              · have hw := hwf c_71
                refine lv_iconst (v := 1) hx hb d_R_tokenSizeAt_260 (by decide) ?_
                refine lv_goto (tgt := 265) hx hb d_R_tokenSizeAt_261 (by decide) ?_
                refine lv_istore (lv' := [(6, .int 1), (8, .int 0), (7, .int r_13), (0, .ref (ad 11)), (1, .int x1), (2, .int x2), (5, .int x5)]) hx hb d_R_tokenSizeAt_265 hl (by decide) rfl (fun ls hl => ?_)
                refine lv_iload hx hb d_R_tokenSizeAt_267 (lv_at hl 0 rfl) ?_
                obtain ⟨hwt, hwf⟩ := hw
                refine lv_if_eq (tgt := 279) hx hb d_R_tokenSizeAt_269 (by decide) (fun c_72 => ?_) (fun c_72 => ?_)
                · have hw := hwt c_72
                  refine lv_iload hx hb d_R_tokenSizeAt_279 (lv_at hl 6 rfl) ?_
                  refine lv_istore (lv' := [(5, .int x5), (6, .int 1), (8, .int 0), (7, .int r_13), (0, .ref (ad 11)), (1, .int x1), (2, .int x2)]) hx hb d_R_tokenSizeAt_281 hl (by decide) rfl (fun ls hl => ?_)
                  refine lv_goto (tgt := 174) hx hb d_R_tokenSizeAt_283 (by decide) ?_
                  exact ih x5 1 _ _ _ hw hP hD hS (lv_sub hl [4, 5, 6, 0, 1] rfl)
                · have hw := hwf c_72
                  refine lv_iload hx hb d_R_tokenSizeAt_272 (lv_at hl 6 rfl) ?_
                  refine lv_iconst (v := 1) hx hb d_R_tokenSizeAt_274 (by decide) ?_
                  refine lv_iadd hx hb d_R_tokenSizeAt_275 ?_
                  refine lv_goto (tgt := 281) hx hb d_R_tokenSizeAt_276 (by decide) ?_
                  refine lv_topi (fun x5_73 ex5_73 => ?_)
                  have hw := hw x5_73 ex5_73
                  refine lv_istore (lv' := [(5, .int x5_73), (6, .int 1), (8, .int 0), (7, .int r_13), (0, .ref (ad 11)), (1, .int x1), (2, .int x2)]) hx hb d_R_tokenSizeAt_281 hl (by decide) rfl (fun ls hl => ?_)
                  refine lv_goto (tgt := 174) hx hb d_R_tokenSizeAt_283 (by decide) ?_
                  exact ih x5_73 1 _ _ _ hw hP hD hS (lv_sub hl [4, 5, 6, 0, 1] rfl)
              · have hw := hwt c_71
                refine lv_iload hx hb d_R_tokenSizeAt_240 (lv_at hl 1 rfl) ?_
                refine k_callSi (As := [.int r_13]) (rest := []) (fun (u : Unit) => wd_R_tokenSizeAt ad ck rsize rval risP cnt look bad byZ inr rpl hld store) ⟨hx, hb, hml, hown, hts⟩ (kc_R_isLetter l dC dI ad ck r_13 (hw := hw)) (va_cwS 1 hts (gS ux_58 ux_60 ux_49 ux_59) rfl rfl rfl hd_R_isLetter ⟨Nat.le_of_ble_eq_true rfl, Nat.le_of_ble_eq_true rfl⟩) hK hP hD hS hA k_x0c trivial [] [0, 1] [0, 1] rfl rfl (by decide) (by decide) (fun _ => rfl) rfl hl.1 rfl (lv_room (Nat.le_of_ble_eq_true rfl)) d_R_tokenSizeAt_242 ⟨Nat.zero_le _, Nat.zero_le _⟩ ?_
                intro r_74 u H locs hw hP hD hS
                have hP : va_P (dC, dI) vwCl (wd_R_tokenSizeAt ad ck rsize rval risP cnt look bad byZ inr rpl hld store) H := hP
                have hD : va_D A (wd_R_tokenSizeAt ad ck rsize rval risP cnt look bad byZ inr rpl hld store) := hD
                try dsimp only at hw
                obtain ⟨hwt, hwf⟩ := hw
                refine lv_if_ne (tgt := 260) hx hb d_R_tokenSizeAt_245 (by decide) (fun c_75 => ?_) (fun c_75 => ?_)
                · have hw := hwf c_75
                  refine lv_iconst (v := 1) hx hb d_R_tokenSizeAt_260 (by decide) ?_
                  refine lv_goto (tgt := 265) hx hb d_R_tokenSizeAt_261 (by decide) ?_
                  refine lv_istore (lv' := [(6, .int 1), (8, .int 0), (7, .int r_13), (0, .ref (ad 11)), (1, .int x1), (2, .int x2), (5, .int x5)]) hx hb d_R_tokenSizeAt_265 hl (by decide) rfl (fun ls hl => ?_)
                  refine lv_iload hx hb d_R_tokenSizeAt_267 (lv_at hl 0 rfl) ?_
                  obtain ⟨hwt, hwf⟩ := hw
                  refine lv_if_eq (tgt := 279) hx hb d_R_tokenSizeAt_269 (by decide) (fun c_76 => ?_) (fun c_76 => ?_)
                  · have hw := hwt c_76
                    refine lv_iload hx hb d_R_tokenSizeAt_279 (lv_at hl 6 rfl) ?_
                    refine lv_istore (lv' := [(5, .int x5), (6, .int 1), (8, .int 0), (7, .int r_13), (0, .ref (ad 11)), (1, .int x1), (2, .int x2)]) hx hb d_R_tokenSizeAt_281 hl (by decide) rfl (fun ls hl => ?_)
                    refine lv_goto (tgt := 174) hx hb d_R_tokenSizeAt_283 (by decide) ?_
                    exact ih x5 1 _ _ _ hw hP hD hS (lv_sub hl [4, 5, 6, 0, 1] rfl)
                  · have hw := hwf c_76
                    refine lv_iload hx hb d_R_tokenSizeAt_272 (lv_at hl 6 rfl) ?_
                    refine lv_iconst (v := 1) hx hb d_R_tokenSizeAt_274 (by decide) ?_
                    refine lv_iadd hx hb d_R_tokenSizeAt_275 ?_
                    refine lv_goto (tgt := 281) hx hb d_R_tokenSizeAt_276 (by decide) ?_
                    refine lv_topi (fun x5_77 ex5_77 => ?_)
                    have hw := hw x5_77 ex5_77
                    refine lv_istore (lv' := [(5, .int x5_77), (6, .int 1), (8, .int 0), (7, .int r_13), (0, .ref (ad 11)), (1, .int x1), (2, .int x2)]) hx hb d_R_tokenSizeAt_281 hl (by decide) rfl (fun ls hl => ?_)
                    refine lv_goto (tgt := 174) hx hb d_R_tokenSizeAt_283 (by decide) ?_
                    exact ih x5_77 1 _ _ _ hw hP hD hS (lv_sub hl [4, 5, 6, 0, 1] rfl)
                · have hw := hwt c_75
                  refine lv_iload hx hb d_R_tokenSizeAt_248 (lv_at hl 1 rfl) ?_
                  refine lv_bipush (v := 46) hx hb d_R_tokenSizeAt_250 (by decide) ?_
                  obtain ⟨hwt, hwf⟩ := hw
                  refine lv_icmp_eq (tgt := 260) hx hb d_R_tokenSizeAt_252 (by decide) (fun c_78 => ?_) (fun c_78 => ?_)
                  · have hw := hwt c_78
                    refine lv_iconst (v := 1) hx hb d_R_tokenSizeAt_260 (by decide) ?_
                    refine lv_goto (tgt := 265) hx hb d_R_tokenSizeAt_261 (by decide) ?_
                    refine lv_istore (lv' := [(6, .int 1), (8, .int 0), (7, .int r_13), (0, .ref (ad 11)), (1, .int x1), (2, .int x2), (5, .int x5)]) hx hb d_R_tokenSizeAt_265 hl (by decide) rfl (fun ls hl => ?_)
                    refine lv_iload hx hb d_R_tokenSizeAt_267 (lv_at hl 0 rfl) ?_
                    obtain ⟨hwt, hwf⟩ := hw
                    refine lv_if_eq (tgt := 279) hx hb d_R_tokenSizeAt_269 (by decide) (fun c_79 => ?_) (fun c_79 => ?_)
                    · have hw := hwt c_79
                      refine lv_iload hx hb d_R_tokenSizeAt_279 (lv_at hl 6 rfl) ?_
                      refine lv_istore (lv' := [(5, .int x5), (6, .int 1), (8, .int 0), (7, .int r_13), (0, .ref (ad 11)), (1, .int x1), (2, .int x2)]) hx hb d_R_tokenSizeAt_281 hl (by decide) rfl (fun ls hl => ?_)
                      refine lv_goto (tgt := 174) hx hb d_R_tokenSizeAt_283 (by decide) ?_
                      exact ih x5 1 _ _ _ hw hP hD hS (lv_sub hl [4, 5, 6, 0, 1] rfl)
                    · have hw := hwf c_79
                      refine lv_iload hx hb d_R_tokenSizeAt_272 (lv_at hl 6 rfl) ?_
                      refine lv_iconst (v := 1) hx hb d_R_tokenSizeAt_274 (by decide) ?_
                      refine lv_iadd hx hb d_R_tokenSizeAt_275 ?_
                      refine lv_goto (tgt := 281) hx hb d_R_tokenSizeAt_276 (by decide) ?_
                      refine lv_topi (fun x5_80 ex5_80 => ?_)
                      have hw := hw x5_80 ex5_80
                      refine lv_istore (lv' := [(5, .int x5_80), (6, .int 1), (8, .int 0), (7, .int r_13), (0, .ref (ad 11)), (1, .int x1), (2, .int x2)]) hx hb d_R_tokenSizeAt_281 hl (by decide) rfl (fun ls hl => ?_)
                      refine lv_goto (tgt := 174) hx hb d_R_tokenSizeAt_283 (by decide) ?_
                      exact ih x5_80 1 _ _ _ hw hP hD hS (lv_sub hl [4, 5, 6, 0, 1] rfl)
                  · have hw := hwf c_78
                    refine lv_iload hx hb d_R_tokenSizeAt_255 (lv_at hl 0 rfl) ?_
                    obtain ⟨hwt, hwf⟩ := hw
                    refine lv_if_eq (tgt := 264) hx hb d_R_tokenSizeAt_257 (by decide) (fun c_81 => ?_) (fun c_81 => ?_)
                    · have hw := hwt c_81
                      refine lv_iconst (v := 0) hx hb d_R_tokenSizeAt_264 (by decide) ?_
                      refine lv_istore (lv' := [(6, .int 0), (8, .int 0), (7, .int r_13), (0, .ref (ad 11)), (1, .int x1), (2, .int x2), (5, .int x5)]) hx hb d_R_tokenSizeAt_265 hl (by decide) rfl (fun ls hl => ?_)
                      refine lv_iload hx hb d_R_tokenSizeAt_267 (lv_at hl 0 rfl) ?_
                      obtain ⟨hwt, hwf⟩ := hw
                      refine lv_if_eq (tgt := 279) hx hb d_R_tokenSizeAt_269 (by decide) (fun c_82 => ?_) (fun c_82 => ?_)
                      · have hw := hwt c_82
                        refine lv_iload hx hb d_R_tokenSizeAt_279 (lv_at hl 6 rfl) ?_
                        refine lv_istore (lv' := [(5, .int x5), (6, .int 0), (8, .int 0), (7, .int r_13), (0, .ref (ad 11)), (1, .int x1), (2, .int x2)]) hx hb d_R_tokenSizeAt_281 hl (by decide) rfl (fun ls hl => ?_)
                        refine lv_goto (tgt := 174) hx hb d_R_tokenSizeAt_283 (by decide) ?_
                        exact ih x5 0 _ _ _ hw hP hD hS (lv_sub hl [4, 5, 6, 0, 1] rfl)
                      · have hw := hwf c_82
                        refine lv_iload hx hb d_R_tokenSizeAt_272 (lv_at hl 6 rfl) ?_
                        refine lv_iconst (v := 1) hx hb d_R_tokenSizeAt_274 (by decide) ?_
                        refine lv_iadd hx hb d_R_tokenSizeAt_275 ?_
                        refine lv_goto (tgt := 281) hx hb d_R_tokenSizeAt_276 (by decide) ?_
                        refine lv_topi (fun x5_83 ex5_83 => ?_)
                        have hw := hw x5_83 ex5_83
                        refine lv_istore (lv' := [(5, .int x5_83), (6, .int 0), (8, .int 0), (7, .int r_13), (0, .ref (ad 11)), (1, .int x1), (2, .int x2)]) hx hb d_R_tokenSizeAt_281 hl (by decide) rfl (fun ls hl => ?_)
                        refine lv_goto (tgt := 174) hx hb d_R_tokenSizeAt_283 (by decide) ?_
                        exact ih x5_83 0 _ _ _ hw hP hD hS (lv_sub hl [4, 5, 6, 0, 1] rfl)
                    · have hw := hwf c_81
                      refine lv_iconst (v := 1) hx hb d_R_tokenSizeAt_260 (by decide) ?_
                      refine lv_goto (tgt := 265) hx hb d_R_tokenSizeAt_261 (by decide) ?_
                      refine lv_istore (lv' := [(6, .int 1), (8, .int 0), (7, .int r_13), (0, .ref (ad 11)), (1, .int x1), (2, .int x2), (5, .int x5)]) hx hb d_R_tokenSizeAt_265 hl (by decide) rfl (fun ls hl => ?_)
                      refine lv_iload hx hb d_R_tokenSizeAt_267 (lv_at hl 0 rfl) ?_
                      obtain ⟨hwt, hwf⟩ := hw
                      refine lv_if_eq (tgt := 279) hx hb d_R_tokenSizeAt_269 (by decide) (fun c_84 => ?_) (fun c_84 => ?_)
                      · have hw := hwt c_84
                        refine lv_iload hx hb d_R_tokenSizeAt_279 (lv_at hl 6 rfl) ?_
                        refine lv_istore (lv' := [(5, .int x5), (6, .int 1), (8, .int 0), (7, .int r_13), (0, .ref (ad 11)), (1, .int x1), (2, .int x2)]) hx hb d_R_tokenSizeAt_281 hl (by decide) rfl (fun ls hl => ?_)
                        refine lv_goto (tgt := 174) hx hb d_R_tokenSizeAt_283 (by decide) ?_
                        exact ih x5 1 _ _ _ hw hP hD hS (lv_sub hl [4, 5, 6, 0, 1] rfl)
                      · have hw := hwf c_84
                        refine lv_iload hx hb d_R_tokenSizeAt_272 (lv_at hl 6 rfl) ?_
                        refine lv_iconst (v := 1) hx hb d_R_tokenSizeAt_274 (by decide) ?_
                        refine lv_iadd hx hb d_R_tokenSizeAt_275 ?_
                        refine lv_goto (tgt := 281) hx hb d_R_tokenSizeAt_276 (by decide) ?_
                        refine lv_topi (fun x5_85 ex5_85 => ?_)
                        have hw := hw x5_85 ex5_85
                        refine lv_istore (lv' := [(5, .int x5_85), (6, .int 1), (8, .int 0), (7, .int r_13), (0, .ref (ad 11)), (1, .int x1), (2, .int x2)]) hx hb d_R_tokenSizeAt_281 hl (by decide) rfl (fun ls hl => ?_)
                        refine lv_goto (tgt := 174) hx hb d_R_tokenSizeAt_283 (by decide) ?_
                        exact ih x5_85 1 _ _ _ hw hP hD hS (lv_sub hl [4, 5, 6, 0, 1] rfl)
            · have hw := hwf c_69
              refine lv_iconst (v := 1) hx hb d_R_tokenSizeAt_225 (by decide) ?_
              refine lv_goto (tgt := 230) hx hb d_R_tokenSizeAt_226 (by decide) ?_
              refine lv_istore (lv' := [(8, .int 1), (7, .int r_13), (0, .ref (ad 11)), (1, .int x1), (2, .int x2), (5, .int x5), (6, .int x6)]) hx hb d_R_tokenSizeAt_230 hl (by decide) rfl (fun ls hl => ?_)
              refine lv_iload hx hb d_R_tokenSizeAt_232 (lv_at hl 1 rfl) ?_
              refine k_callSi (As := [.int r_13]) (rest := []) (fun (u : Unit) => wd_R_tokenSizeAt ad ck rsize rval risP cnt look bad byZ inr rpl hld store) ⟨hx, hb, hml, hown, hts⟩ (kc_R_isDigit l dC dI ad ck r_13 (hw := hw)) (va_cwS 1 hts (gS ux_61 ux_63 ux_49 ux_62) rfl rfl rfl hd_R_isDigit ⟨Nat.le_of_ble_eq_true rfl, Nat.le_of_ble_eq_true rfl⟩) hK hP hD hS hA k_x0c trivial [] [0, 1] [0, 1] rfl rfl (by decide) (by decide) (fun _ => rfl) rfl hl.1 rfl (lv_room (Nat.le_of_ble_eq_true rfl)) d_R_tokenSizeAt_234 ⟨Nat.zero_le _, Nat.zero_le _⟩ ?_
              intro r_86 u H locs hw hP hD hS
              have hP : va_P (dC, dI) vwCl (wd_R_tokenSizeAt ad ck rsize rval risP cnt look bad byZ inr rpl hld store) H := hP
              have hD : va_D A (wd_R_tokenSizeAt ad ck rsize rval risP cnt look bad byZ inr rpl hld store) := hD
              try dsimp only at hw
              obtain ⟨hwt, hwf⟩ := hw
              refine lv_if_ne (tgt := 260) hx hb d_R_tokenSizeAt_237 (by decide) (fun c_87 => ?_) (fun c_87 => ?_)
              · have hw := hwf c_87
                refine lv_iconst (v := 1) hx hb d_R_tokenSizeAt_260 (by decide) ?_
                refine lv_goto (tgt := 265) hx hb d_R_tokenSizeAt_261 (by decide) ?_
                refine lv_istore (lv' := [(6, .int 1), (8, .int 1), (7, .int r_13), (0, .ref (ad 11)), (1, .int x1), (2, .int x2), (5, .int x5)]) hx hb d_R_tokenSizeAt_265 hl (by decide) rfl (fun ls hl => ?_)
                refine lv_iload hx hb d_R_tokenSizeAt_267 (lv_at hl 0 rfl) ?_
                obtain ⟨hwt, hwf⟩ := hw
                refine lv_if_eq (tgt := 279) hx hb d_R_tokenSizeAt_269 (by decide) (fun c_88 => ?_) (fun c_88 => ?_)
                · have hw := hwt c_88
                  refine lv_iload hx hb d_R_tokenSizeAt_279 (lv_at hl 6 rfl) ?_
                  refine lv_istore (lv' := [(5, .int x5), (6, .int 1), (8, .int 1), (7, .int r_13), (0, .ref (ad 11)), (1, .int x1), (2, .int x2)]) hx hb d_R_tokenSizeAt_281 hl (by decide) rfl (fun ls hl => ?_)
                  refine lv_goto (tgt := 174) hx hb d_R_tokenSizeAt_283 (by decide) ?_
                  exact ih x5 1 _ _ _ hw hP hD hS (lv_sub hl [4, 5, 6, 0, 1] rfl)
                · have hw := hwf c_88
                  refine lv_iload hx hb d_R_tokenSizeAt_272 (lv_at hl 6 rfl) ?_
                  refine lv_iconst (v := 1) hx hb d_R_tokenSizeAt_274 (by decide) ?_
                  refine lv_iadd hx hb d_R_tokenSizeAt_275 ?_
                  refine lv_goto (tgt := 281) hx hb d_R_tokenSizeAt_276 (by decide) ?_
                  refine lv_topi (fun x5_89 ex5_89 => ?_)
                  have hw := hw x5_89 ex5_89
                  refine lv_istore (lv' := [(5, .int x5_89), (6, .int 1), (8, .int 1), (7, .int r_13), (0, .ref (ad 11)), (1, .int x1), (2, .int x2)]) hx hb d_R_tokenSizeAt_281 hl (by decide) rfl (fun ls hl => ?_)
                  refine lv_goto (tgt := 174) hx hb d_R_tokenSizeAt_283 (by decide) ?_
                  exact ih x5_89 1 _ _ _ hw hP hD hS (lv_sub hl [4, 5, 6, 0, 1] rfl)
              · have hw := hwt c_87
                refine lv_iload hx hb d_R_tokenSizeAt_240 (lv_at hl 1 rfl) ?_
                refine k_callSi (As := [.int r_13]) (rest := []) (fun (u : Unit) => wd_R_tokenSizeAt ad ck rsize rval risP cnt look bad byZ inr rpl hld store) ⟨hx, hb, hml, hown, hts⟩ (kc_R_isLetter l dC dI ad ck r_13 (hw := hw)) (va_cwS 1 hts (gS ux_58 ux_60 ux_49 ux_59) rfl rfl rfl hd_R_isLetter ⟨Nat.le_of_ble_eq_true rfl, Nat.le_of_ble_eq_true rfl⟩) hK hP hD hS hA k_x0c trivial [] [0, 1] [0, 1] rfl rfl (by decide) (by decide) (fun _ => rfl) rfl hl.1 rfl (lv_room (Nat.le_of_ble_eq_true rfl)) d_R_tokenSizeAt_242 ⟨Nat.zero_le _, Nat.zero_le _⟩ ?_
                intro r_90 u H locs hw hP hD hS
                have hP : va_P (dC, dI) vwCl (wd_R_tokenSizeAt ad ck rsize rval risP cnt look bad byZ inr rpl hld store) H := hP
                have hD : va_D A (wd_R_tokenSizeAt ad ck rsize rval risP cnt look bad byZ inr rpl hld store) := hD
                try dsimp only at hw
                obtain ⟨hwt, hwf⟩ := hw
                refine lv_if_ne (tgt := 260) hx hb d_R_tokenSizeAt_245 (by decide) (fun c_91 => ?_) (fun c_91 => ?_)
                · have hw := hwf c_91
                  refine lv_iconst (v := 1) hx hb d_R_tokenSizeAt_260 (by decide) ?_
                  refine lv_goto (tgt := 265) hx hb d_R_tokenSizeAt_261 (by decide) ?_
                  refine lv_istore (lv' := [(6, .int 1), (8, .int 1), (7, .int r_13), (0, .ref (ad 11)), (1, .int x1), (2, .int x2), (5, .int x5)]) hx hb d_R_tokenSizeAt_265 hl (by decide) rfl (fun ls hl => ?_)
                  refine lv_iload hx hb d_R_tokenSizeAt_267 (lv_at hl 0 rfl) ?_
                  obtain ⟨hwt, hwf⟩ := hw
                  refine lv_if_eq (tgt := 279) hx hb d_R_tokenSizeAt_269 (by decide) (fun c_92 => ?_) (fun c_92 => ?_)
                  · have hw := hwt c_92
                    refine lv_iload hx hb d_R_tokenSizeAt_279 (lv_at hl 6 rfl) ?_
                    refine lv_istore (lv' := [(5, .int x5), (6, .int 1), (8, .int 1), (7, .int r_13), (0, .ref (ad 11)), (1, .int x1), (2, .int x2)]) hx hb d_R_tokenSizeAt_281 hl (by decide) rfl (fun ls hl => ?_)
                    refine lv_goto (tgt := 174) hx hb d_R_tokenSizeAt_283 (by decide) ?_
                    exact ih x5 1 _ _ _ hw hP hD hS (lv_sub hl [4, 5, 6, 0, 1] rfl)
                  · have hw := hwf c_92
                    refine lv_iload hx hb d_R_tokenSizeAt_272 (lv_at hl 6 rfl) ?_
                    refine lv_iconst (v := 1) hx hb d_R_tokenSizeAt_274 (by decide) ?_
                    refine lv_iadd hx hb d_R_tokenSizeAt_275 ?_
                    refine lv_goto (tgt := 281) hx hb d_R_tokenSizeAt_276 (by decide) ?_
                    refine lv_topi (fun x5_93 ex5_93 => ?_)
                    have hw := hw x5_93 ex5_93
                    refine lv_istore (lv' := [(5, .int x5_93), (6, .int 1), (8, .int 1), (7, .int r_13), (0, .ref (ad 11)), (1, .int x1), (2, .int x2)]) hx hb d_R_tokenSizeAt_281 hl (by decide) rfl (fun ls hl => ?_)
                    refine lv_goto (tgt := 174) hx hb d_R_tokenSizeAt_283 (by decide) ?_
                    exact ih x5_93 1 _ _ _ hw hP hD hS (lv_sub hl [4, 5, 6, 0, 1] rfl)
                · have hw := hwt c_91
                  refine lv_iload hx hb d_R_tokenSizeAt_248 (lv_at hl 1 rfl) ?_
                  refine lv_bipush (v := 46) hx hb d_R_tokenSizeAt_250 (by decide) ?_
                  obtain ⟨hwt, hwf⟩ := hw
                  refine lv_icmp_eq (tgt := 260) hx hb d_R_tokenSizeAt_252 (by decide) (fun c_94 => ?_) (fun c_94 => ?_)
                  · have hw := hwt c_94
                    refine lv_iconst (v := 1) hx hb d_R_tokenSizeAt_260 (by decide) ?_
                    refine lv_goto (tgt := 265) hx hb d_R_tokenSizeAt_261 (by decide) ?_
                    refine lv_istore (lv' := [(6, .int 1), (8, .int 1), (7, .int r_13), (0, .ref (ad 11)), (1, .int x1), (2, .int x2), (5, .int x5)]) hx hb d_R_tokenSizeAt_265 hl (by decide) rfl (fun ls hl => ?_)
                    refine lv_iload hx hb d_R_tokenSizeAt_267 (lv_at hl 0 rfl) ?_
                    obtain ⟨hwt, hwf⟩ := hw
                    refine lv_if_eq (tgt := 279) hx hb d_R_tokenSizeAt_269 (by decide) (fun c_95 => ?_) (fun c_95 => ?_)
                    · have hw := hwt c_95
                      refine lv_iload hx hb d_R_tokenSizeAt_279 (lv_at hl 6 rfl) ?_
                      refine lv_istore (lv' := [(5, .int x5), (6, .int 1), (8, .int 1), (7, .int r_13), (0, .ref (ad 11)), (1, .int x1), (2, .int x2)]) hx hb d_R_tokenSizeAt_281 hl (by decide) rfl (fun ls hl => ?_)
                      refine lv_goto (tgt := 174) hx hb d_R_tokenSizeAt_283 (by decide) ?_
                      exact ih x5 1 _ _ _ hw hP hD hS (lv_sub hl [4, 5, 6, 0, 1] rfl)
                    · have hw := hwf c_95
                      refine lv_iload hx hb d_R_tokenSizeAt_272 (lv_at hl 6 rfl) ?_
                      refine lv_iconst (v := 1) hx hb d_R_tokenSizeAt_274 (by decide) ?_
                      refine lv_iadd hx hb d_R_tokenSizeAt_275 ?_
                      refine lv_goto (tgt := 281) hx hb d_R_tokenSizeAt_276 (by decide) ?_
                      refine lv_topi (fun x5_96 ex5_96 => ?_)
                      have hw := hw x5_96 ex5_96
                      refine lv_istore (lv' := [(5, .int x5_96), (6, .int 1), (8, .int 1), (7, .int r_13), (0, .ref (ad 11)), (1, .int x1), (2, .int x2)]) hx hb d_R_tokenSizeAt_281 hl (by decide) rfl (fun ls hl => ?_)
                      refine lv_goto (tgt := 174) hx hb d_R_tokenSizeAt_283 (by decide) ?_
                      exact ih x5_96 1 _ _ _ hw hP hD hS (lv_sub hl [4, 5, 6, 0, 1] rfl)
                  · have hw := hwf c_94
                    refine lv_iload hx hb d_R_tokenSizeAt_255 (lv_at hl 0 rfl) ?_
                    obtain ⟨hwt, hwf⟩ := hw
                    refine lv_if_eq (tgt := 264) hx hb d_R_tokenSizeAt_257 (by decide) (fun c_97 => ?_) (fun c_97 => ?_)
                    · have hw := hwt c_97
                      refine lv_iconst (v := 0) hx hb d_R_tokenSizeAt_264 (by decide) ?_
                      refine lv_istore (lv' := [(6, .int 0), (8, .int 1), (7, .int r_13), (0, .ref (ad 11)), (1, .int x1), (2, .int x2), (5, .int x5)]) hx hb d_R_tokenSizeAt_265 hl (by decide) rfl (fun ls hl => ?_)
                      refine lv_iload hx hb d_R_tokenSizeAt_267 (lv_at hl 0 rfl) ?_
                      obtain ⟨hwt, hwf⟩ := hw
                      refine lv_if_eq (tgt := 279) hx hb d_R_tokenSizeAt_269 (by decide) (fun c_98 => ?_) (fun c_98 => ?_)
                      · have hw := hwt c_98
                        refine lv_iload hx hb d_R_tokenSizeAt_279 (lv_at hl 6 rfl) ?_
                        refine lv_istore (lv' := [(5, .int x5), (6, .int 0), (8, .int 1), (7, .int r_13), (0, .ref (ad 11)), (1, .int x1), (2, .int x2)]) hx hb d_R_tokenSizeAt_281 hl (by decide) rfl (fun ls hl => ?_)
                        refine lv_goto (tgt := 174) hx hb d_R_tokenSizeAt_283 (by decide) ?_
                        exact ih x5 0 _ _ _ hw hP hD hS (lv_sub hl [4, 5, 6, 0, 1] rfl)
                      · have hw := hwf c_98
                        refine lv_iload hx hb d_R_tokenSizeAt_272 (lv_at hl 6 rfl) ?_
                        refine lv_iconst (v := 1) hx hb d_R_tokenSizeAt_274 (by decide) ?_
                        refine lv_iadd hx hb d_R_tokenSizeAt_275 ?_
                        refine lv_goto (tgt := 281) hx hb d_R_tokenSizeAt_276 (by decide) ?_
                        refine lv_topi (fun x5_99 ex5_99 => ?_)
                        have hw := hw x5_99 ex5_99
                        refine lv_istore (lv' := [(5, .int x5_99), (6, .int 0), (8, .int 1), (7, .int r_13), (0, .ref (ad 11)), (1, .int x1), (2, .int x2)]) hx hb d_R_tokenSizeAt_281 hl (by decide) rfl (fun ls hl => ?_)
                        refine lv_goto (tgt := 174) hx hb d_R_tokenSizeAt_283 (by decide) ?_
                        exact ih x5_99 0 _ _ _ hw hP hD hS (lv_sub hl [4, 5, 6, 0, 1] rfl)
                    · have hw := hwf c_97
                      refine lv_iconst (v := 1) hx hb d_R_tokenSizeAt_260 (by decide) ?_
                      refine lv_goto (tgt := 265) hx hb d_R_tokenSizeAt_261 (by decide) ?_
                      refine lv_istore (lv' := [(6, .int 1), (8, .int 1), (7, .int r_13), (0, .ref (ad 11)), (1, .int x1), (2, .int x2), (5, .int x5)]) hx hb d_R_tokenSizeAt_265 hl (by decide) rfl (fun ls hl => ?_)
                      refine lv_iload hx hb d_R_tokenSizeAt_267 (lv_at hl 0 rfl) ?_
                      obtain ⟨hwt, hwf⟩ := hw
                      refine lv_if_eq (tgt := 279) hx hb d_R_tokenSizeAt_269 (by decide) (fun c_100 => ?_) (fun c_100 => ?_)
                      · have hw := hwt c_100
                        refine lv_iload hx hb d_R_tokenSizeAt_279 (lv_at hl 6 rfl) ?_
                        refine lv_istore (lv' := [(5, .int x5), (6, .int 1), (8, .int 1), (7, .int r_13), (0, .ref (ad 11)), (1, .int x1), (2, .int x2)]) hx hb d_R_tokenSizeAt_281 hl (by decide) rfl (fun ls hl => ?_)
                        refine lv_goto (tgt := 174) hx hb d_R_tokenSizeAt_283 (by decide) ?_
                        exact ih x5 1 _ _ _ hw hP hD hS (lv_sub hl [4, 5, 6, 0, 1] rfl)
                      · have hw := hwf c_100
                        refine lv_iload hx hb d_R_tokenSizeAt_272 (lv_at hl 6 rfl) ?_
                        refine lv_iconst (v := 1) hx hb d_R_tokenSizeAt_274 (by decide) ?_
                        refine lv_iadd hx hb d_R_tokenSizeAt_275 ?_
                        refine lv_goto (tgt := 281) hx hb d_R_tokenSizeAt_276 (by decide) ?_
                        refine lv_topi (fun x5_101 ex5_101 => ?_)
                        have hw := hw x5_101 ex5_101
                        refine lv_istore (lv' := [(5, .int x5_101), (6, .int 1), (8, .int 1), (7, .int r_13), (0, .ref (ad 11)), (1, .int x1), (2, .int x2)]) hx hb d_R_tokenSizeAt_281 hl (by decide) rfl (fun ls hl => ?_)
                        refine lv_goto (tgt := 174) hx hb d_R_tokenSizeAt_283 (by decide) ?_
                        exact ih x5_101 1 _ _ _ hw hP hD hS (lv_sub hl [4, 5, 6, 0, 1] rfl)
  have L_107 : ∀ (x1 : Int32) (x2 : Int32) (rsize : Int32) (rval : Int64) (risP : Int32) (cnt : Int32) (look : Int32) (bad : Int32) (byZ : Int32) (inr : Int32) (rpl : Int32) (hld : Int32) (store : Nat → Int32) (n : Nat) (x5 : Int32) (H : Heap) (locs : List Loc) (ls : Array Slot), w_R_tokenSizeAt_107 post x1 x2 rsize rval risP cnt look bad byZ inr rpl hld store n x5 → va_P (dC, dI) vwCl (wd_R_tokenSizeAt ad ck rsize rval risP cnt look bad byZ inr rpl hld store) H → va_D A (wd_R_tokenSizeAt ad ck rsize rval risP cnt look bad byZ inr rpl hld store) → va_S A s.heap H locs → lv_has ls 9 [(0, .ref (ad 11)), (1, .int x1), (2, .int x2), (5, .int x5)] → W p l e (headSpec ws_R_tokenSizeAt ({ frames := 6, cells := 0, slots := 0, locals := 135 } : Room)).room s m ([.ref (ad 11), .int p0, .int p1] : List Value).toArray below meth c H locs 0 0 (k_Qi below (dC, dI) vwCl (TYr ck) A (fun (r : Int32) (u : Unit) => post r ) (fun (u : Unit) => wd_R_tokenSizeAt ad ck rsize rval risP cnt look bad byZ inr rpl hld store) ([.ref (ad 11), .int p0, .int p1] : List Value).toArray s) (F0 m 107 ls []) := by
    intro x1 x2 rsize rval risP cnt look bad byZ inr rpl hld store n
    induction n with
    | zero =>
      intro x5 H locs ls hw
      exact False.elim hw
    | succ n ih =>
      intro x5 H locs ls hw hP hD hS hl
      unfold w_R_tokenSizeAt_107 at hw
      refine lv_aload_n hx hb d_R_tokenSizeAt_107 rfl (lv_at hl 0 rfl) ?_
      refine va_get (D := (dC, dI)) (ci := 5) (v := .ref (ad 12)) (C := R_R) (T := T_R) (N := 16) hx hb hts in_R hown hK hP 0 rfl rfl 1 (by decide) (hts _ ux_46) (fun _ h9 => h9) rfl d_R_tokenSizeAt_108 ?_
      refine lv_iload hx hb d_R_tokenSizeAt_111 (lv_at hl 3 rfl) ?_
      refine lv_iload_n hx hb d_R_tokenSizeAt_113 rfl (lv_at hl 2 rfl) ?_
      refine k_callSi (As := [.ref (ad 12), .int x5, .int x2]) (rest := []) (fun (u : Unit) => wd_R_tokenSizeAt ad ck rsize rval risP cnt look bad byZ inr rpl hld store) ⟨hx, hb, hml, hown, hts⟩ (kc_R_byteAt l dC dI ad ck store x5 x2 (hw := hw)) (va_cwS 3 hts (gS ux_47 ux_50 ux_49 ux_48) rfl rfl rfl hd_R_byteAt ⟨Nat.le_of_ble_eq_true rfl, Nat.le_of_ble_eq_true rfl⟩) hK hP hD hS hA k_x0c trivial [1] [0] [0, 1] rfl rfl (by decide) (by decide) (fun _ => rfl) rfl hl.1 rfl (lv_room (Nat.le_of_ble_eq_true rfl)) d_R_tokenSizeAt_114 ⟨Nat.zero_le _, Nat.zero_le _⟩ ?_
      intro r_107 u H locs hw hP hD hS
      have hP : va_P (dC, dI) vwCl (wd_R_tokenSizeAt ad ck rsize rval risP cnt look bad byZ inr rpl hld store) H := hP
      have hD : va_D A (wd_R_tokenSizeAt ad ck rsize rval risP cnt look bad byZ inr rpl hld store) := hD
      try dsimp only at hw
      refine k_callSi (As := [.int r_107]) (rest := []) (fun (u : Unit) => wd_R_tokenSizeAt ad ck rsize rval risP cnt look bad byZ inr rpl hld store) ⟨hx, hb, hml, hown, hts⟩ (kc_R_isLetter l dC dI ad ck r_107 (hw := hw)) (va_cwS 1 hts (gS ux_58 ux_60 ux_49 ux_59) rfl rfl rfl hd_R_isLetter ⟨Nat.le_of_ble_eq_true rfl, Nat.le_of_ble_eq_true rfl⟩) hK hP hD hS hA k_x0c trivial [] [0, 1] [0, 1] rfl rfl (by decide) (by decide) (fun _ => rfl) rfl hl.1 rfl (lv_room (Nat.le_of_ble_eq_true rfl)) d_R_tokenSizeAt_117 ⟨Nat.zero_le _, Nat.zero_le _⟩ ?_
      intro r_108 u H locs hw hP hD hS
      have hP : va_P (dC, dI) vwCl (wd_R_tokenSizeAt ad ck rsize rval risP cnt look bad byZ inr rpl hld store) H := hP
      have hD : va_D A (wd_R_tokenSizeAt ad ck rsize rval risP cnt look bad byZ inr rpl hld store) := hD
      try dsimp only at hw
      obtain ⟨hwt, hwf⟩ := hw
      refine lv_if_ne (tgt := 139) hx hb d_R_tokenSizeAt_120 (by decide) (fun c_109 => ?_) (fun c_109 => ?_)
      · have hw := hwf c_109
        obtain ⟨x5_110, ex5_110⟩ : ∃ y : Int32, y = x5 + 1 := ⟨_, rfl⟩
        have hw := hw x5_110 ex5_110
        refine lv_iinc (v := x5_110) (lv' := [(5, .int x5_110), (0, .ref (ad 11)), (1, .int x1), (2, .int x2)]) hx hb d_R_tokenSizeAt_139 hl (k := 3) rfl (by rw [ex5_110]; rfl) (by decide) rfl (fun ls hl => ?_)
        refine lv_goto (tgt := 107) hx hb d_R_tokenSizeAt_142 (by decide) ?_
        exact ih x5_110 _ _ _ hw hP hD hS (lv_sub hl [1, 2, 3, 0] rfl)
      · have hw := hwt c_109
        refine lv_aload_n hx hb d_R_tokenSizeAt_123 rfl (lv_at hl 0 rfl) ?_
        refine va_get (D := (dC, dI)) (ci := 5) (v := .ref (ad 12)) (C := R_R) (T := T_R) (N := 16) hx hb hts in_R hown hK hP 0 rfl rfl 1 (by decide) (hts _ ux_46) (fun _ h9 => h9) rfl d_R_tokenSizeAt_124 ?_
        refine lv_iload hx hb d_R_tokenSizeAt_127 (lv_at hl 3 rfl) ?_
        refine lv_iload_n hx hb d_R_tokenSizeAt_129 rfl (lv_at hl 2 rfl) ?_
        refine k_callSi (As := [.ref (ad 12), .int x5, .int x2]) (rest := []) (fun (u : Unit) => wd_R_tokenSizeAt ad ck rsize rval risP cnt look bad byZ inr rpl hld store) ⟨hx, hb, hml, hown, hts⟩ (kc_R_byteAt l dC dI ad ck store x5 x2 (hw := hw)) (va_cwS 3 hts (gS ux_47 ux_50 ux_49 ux_48) rfl rfl rfl hd_R_byteAt ⟨Nat.le_of_ble_eq_true rfl, Nat.le_of_ble_eq_true rfl⟩) hK hP hD hS hA k_x0c trivial [1] [0] [0, 1] rfl rfl (by decide) (by decide) (fun _ => rfl) rfl hl.1 rfl (lv_room (Nat.le_of_ble_eq_true rfl)) d_R_tokenSizeAt_130 ⟨Nat.zero_le _, Nat.zero_le _⟩ ?_
        intro r_111 u H locs hw hP hD hS
        have hP : va_P (dC, dI) vwCl (wd_R_tokenSizeAt ad ck rsize rval risP cnt look bad byZ inr rpl hld store) H := hP
        have hD : va_D A (wd_R_tokenSizeAt ad ck rsize rval risP cnt look bad byZ inr rpl hld store) := hD
        try dsimp only at hw
        refine k_callSi (As := [.int r_111]) (rest := []) (fun (u : Unit) => wd_R_tokenSizeAt ad ck rsize rval risP cnt look bad byZ inr rpl hld store) ⟨hx, hb, hml, hown, hts⟩ (kc_R_isDigit l dC dI ad ck r_111 (hw := hw)) (va_cwS 1 hts (gS ux_61 ux_63 ux_49 ux_62) rfl rfl rfl hd_R_isDigit ⟨Nat.le_of_ble_eq_true rfl, Nat.le_of_ble_eq_true rfl⟩) hK hP hD hS hA k_x0c trivial [] [0, 1] [0, 1] rfl rfl (by decide) (by decide) (fun _ => rfl) rfl hl.1 rfl (lv_room (Nat.le_of_ble_eq_true rfl)) d_R_tokenSizeAt_133 ⟨Nat.zero_le _, Nat.zero_le _⟩ ?_
        intro r_112 u H locs hw hP hD hS
        have hP : va_P (dC, dI) vwCl (wd_R_tokenSizeAt ad ck rsize rval risP cnt look bad byZ inr rpl hld store) H := hP
        have hD : va_D A (wd_R_tokenSizeAt ad ck rsize rval risP cnt look bad byZ inr rpl hld store) := hD
        try dsimp only at hw
        obtain ⟨hwt, hwf⟩ := hw
        refine lv_if_eq (tgt := 145) hx hb d_R_tokenSizeAt_136 (by decide) (fun c_113 => ?_) (fun c_113 => ?_)
        · have hw := hwt c_113
          refine lv_iload hx hb d_R_tokenSizeAt_145 (lv_at hl 3 rfl) ?_
          refine lv_iload_n hx hb d_R_tokenSizeAt_147 rfl (lv_at hl 1 rfl) ?_
          refine lv_isub hx hb d_R_tokenSizeAt_148 ?_
          exact W.iret (v := (x5 - x1)) hx hb hr (fun t ht hW => ⟨⟨(x5 - x1), (), rfl, hw, by rw [ht]; exact hP, va_K.moved hW.alike hK, hD⟩, hS.F ht⟩) hS.2.2 d_R_tokenSizeAt_149
        · have hw := hwf c_113
          obtain ⟨x5_114, ex5_114⟩ : ∃ y : Int32, y = x5 + 1 := ⟨_, rfl⟩
          have hw := hw x5_114 ex5_114
          refine lv_iinc (v := x5_114) (lv' := [(5, .int x5_114), (0, .ref (ad 11)), (1, .int x1), (2, .int x2)]) hx hb d_R_tokenSizeAt_139 hl (k := 3) rfl (by rw [ex5_114]; rfl) (by decide) rfl (fun ls hl => ?_)
          refine lv_goto (tgt := 107) hx hb d_R_tokenSizeAt_142 (by decide) ?_
          exact ih x5_114 _ _ _ hw hP hD hS (lv_sub hl [1, 2, 3, 0] rfl)
  have L_95 : ∀ (x1 : Int32) (x2 : Int32) (x3 : Int32) (x4 : Int32) (rsize : Int32) (rval : Int64) (risP : Int32) (cnt : Int32) (look : Int32) (bad : Int32) (byZ : Int32) (inr : Int32) (rpl : Int32) (hld : Int32) (store : Nat → Int32) (H : Heap) (locs : List Loc) (ls : Array Slot), w_R_tokenSizeAt_95 post x1 x2 x3 x4 rsize rval risP cnt look bad byZ inr rpl hld store → va_P (dC, dI) vwCl (wd_R_tokenSizeAt ad ck rsize rval risP cnt look bad byZ inr rpl hld store) H → va_D A (wd_R_tokenSizeAt ad ck rsize rval risP cnt look bad byZ inr rpl hld store) → va_S A s.heap H locs → lv_has ls 9 [(0, .ref (ad 11)), (1, .int x1), (2, .int x2), (3, .int x3), (4, .int x4)] → W p l e (headSpec ws_R_tokenSizeAt ({ frames := 6, cells := 0, slots := 0, locals := 135 } : Room)).room s m ([.ref (ad 11), .int p0, .int p1] : List Value).toArray below meth c H locs 0 0 (k_Qi below (dC, dI) vwCl (TYr ck) A (fun (r : Int32) (u : Unit) => post r ) (fun (u : Unit) => wd_R_tokenSizeAt ad ck rsize rval risP cnt look bad byZ inr rpl hld store) ([.ref (ad 11), .int p0, .int p1] : List Value).toArray s) (F0 m 95 ls []) := by
    intro x1 x2 x3 x4 rsize rval risP cnt look bad byZ inr rpl hld store H locs ls hw hP hD hS hl
    refine lv_iload_n hx hb d_R_tokenSizeAt_95 rfl (lv_at hl 1 rfl) ?_
    refine lv_iconst (v := 1) hx hb d_R_tokenSizeAt_96 (by decide) ?_
    refine lv_iadd hx hb d_R_tokenSizeAt_97 ?_
    refine lv_topi (fun x5_7 ex5_7 => ?_)
    have hw := hw x5_7 ex5_7
    refine lv_istore (lv' := [(5, .int x5_7), (0, .ref (ad 11)), (1, .int x1), (2, .int x2), (3, .int x3), (4, .int x4)]) hx hb d_R_tokenSizeAt_98 hl (by decide) rfl (fun ls hl => ?_)
    refine lv_iload_n hx hb d_R_tokenSizeAt_100 rfl (lv_at hl 4 rfl) ?_
    refine k_callSi (As := [.int x3]) (rest := []) (fun (u : Unit) => wd_R_tokenSizeAt ad ck rsize rval risP cnt look bad byZ inr rpl hld store) ⟨hx, hb, hml, hown, hts⟩ (kc_R_isLetter l dC dI ad ck x3 (hw := hw)) (va_cwS 1 hts (gS ux_58 ux_60 ux_49 ux_59) rfl rfl rfl hd_R_isLetter ⟨Nat.le_of_ble_eq_true rfl, Nat.le_of_ble_eq_true rfl⟩) hK hP hD hS hA k_x0c trivial [] [0, 1] [0, 1] rfl rfl (by decide) (by decide) (fun _ => rfl) rfl hl.1 rfl (lv_room (Nat.le_of_ble_eq_true rfl)) d_R_tokenSizeAt_101 ⟨Nat.zero_le _, Nat.zero_le _⟩ ?_
    intro r_8 u H locs hw hP hD hS
    have hP : va_P (dC, dI) vwCl (wd_R_tokenSizeAt ad ck rsize rval risP cnt look bad byZ inr rpl hld store) H := hP
    have hD : va_D A (wd_R_tokenSizeAt ad ck rsize rval risP cnt look bad byZ inr rpl hld store) := hD
    try dsimp only at hw
    obtain ⟨hwt, hwf⟩ := hw
    refine lv_if_eq (tgt := 150) hx hb d_R_tokenSizeAt_104 (by decide) (fun c_9 => ?_) (fun c_9 => ?_)
    · have hw := hwt c_9
      refine lv_iload_n hx hb d_R_tokenSizeAt_150 rfl (lv_at hl 4 rfl) ?_
      refine k_callSi (As := [.int x3]) (rest := []) (fun (u : Unit) => wd_R_tokenSizeAt ad ck rsize rval risP cnt look bad byZ inr rpl hld store) ⟨hx, hb, hml, hown, hts⟩ (kc_R_isDigit l dC dI ad ck x3 (hw := hw)) (va_cwS 1 hts (gS ux_61 ux_63 ux_49 ux_62) rfl rfl rfl hd_R_isDigit ⟨Nat.le_of_ble_eq_true rfl, Nat.le_of_ble_eq_true rfl⟩) hK hP hD hS hA k_x0c trivial [] [0, 1] [0, 1] rfl rfl (by decide) (by decide) (fun _ => rfl) rfl hl.1 rfl (lv_room (Nat.le_of_ble_eq_true rfl)) d_R_tokenSizeAt_151 ⟨Nat.zero_le _, Nat.zero_le _⟩ ?_
      intro r_10 u H locs hw hP hD hS
      have hP : va_P (dC, dI) vwCl (wd_R_tokenSizeAt ad ck rsize rval risP cnt look bad byZ inr rpl hld store) H := hP
      have hD : va_D A (wd_R_tokenSizeAt ad ck rsize rval risP cnt look bad byZ inr rpl hld store) := hD
      try dsimp only at hw
      obtain ⟨hwt, hwf⟩ := hw
      refine lv_if_ne (tgt := 171) hx hb d_R_tokenSizeAt_154 (by decide) (fun c_11 => ?_) (fun c_11 => ?_)
      · have hw := hwf c_11
        refine lv_iconst (v := 1) hx hb d_R_tokenSizeAt_171 (by decide) ?_
        refine lv_istore (lv' := [(6, .int 1), (5, .int x5_7), (0, .ref (ad 11)), (1, .int x1), (2, .int x2), (3, .int x3), (4, .int x4)]) hx hb d_R_tokenSizeAt_172 hl (by decide) rfl (fun ls hl => ?_)
        obtain ⟨fu174, hw⟩ := hw
        exact L_174 x1 x2 rsize rval risP cnt look bad byZ inr rpl hld store fu174 x5_7 1 _ _ _ hw hP hD hS (lv_sub hl [2, 3, 4, 1, 0] rfl)
      · have hw := hwt c_11
        refine lv_iload_n hx hb d_R_tokenSizeAt_157 rfl (lv_at hl 4 rfl) ?_
        refine lv_bipush (v := 46) hx hb d_R_tokenSizeAt_158 (by decide) ?_
        obtain ⟨hwt, hwf⟩ := hw
        refine lv_icmp_ne (tgt := 291) hx hb d_R_tokenSizeAt_160 (by decide) (fun c_102 => ?_) (fun c_102 => ?_)
        · have hw := hwf c_102
          refine lv_aload_n hx hb d_R_tokenSizeAt_291 rfl (lv_at hl 1 rfl) ?_
          refine lv_iload_n hx hb d_R_tokenSizeAt_292 rfl (lv_at hl 2 rfl) ?_
          refine lv_iload_n hx hb d_R_tokenSizeAt_293 rfl (lv_at hl 3 rfl) ?_
          refine k_callVi (As := [.int x1, .int x2]) (rest := []) (fun (u : Unit) => wd_R_tokenSizeAt ad ck rsize rval risP cnt look bad byZ inr rpl hld store) ⟨hx, hb, hml, hown, hts⟩ (kc_R_signSize l dC dI ad ck sa sv sf rsize rval risP cnt look bad byZ inr rpl hld store x1 x2 (hw := hw)) (cwV 2 hts (gV ux_64 ux_66 ux_67 ux_49 ux_65) rfl rfl rfl hd_R_signSize ⟨Nat.le_of_ble_eq_true rfl, Nat.le_of_ble_eq_true rfl⟩) hK hP hD hS hA (XR_c sa sv sf) hX [0, 1] [] [0, 1] rfl rfl (by decide) (by decide) (fun _ => rfl) (va_recv hK hP (ci := 5) (q0 := 0) rfl rfl) rfl hl.1 rfl (lv_room (Nat.le_of_ble_eq_true rfl)) d_R_tokenSizeAt_294 ⟨Nat.zero_le _, Nat.zero_le _⟩ ?_
          intro r_103 u H locs hw hP hD hS
          have hP : va_P (dC, dI) vwCl (wd_R_tokenSizeAt ad ck rsize rval risP cnt look bad byZ inr rpl hld store) H := hP
          have hD : va_D A (wd_R_tokenSizeAt ad ck rsize rval risP cnt look bad byZ inr rpl hld store) := hD
          try dsimp only at hw
          exact W.iret (v := r_103) hx hb hr (fun t ht hW => ⟨⟨r_103, (), rfl, hw, by rw [ht]; exact hP, va_K.moved hW.alike hK, hD⟩, hS.F ht⟩) hS.2.2 d_R_tokenSizeAt_297
        · have hw := hwt c_102
          refine lv_iload hx hb d_R_tokenSizeAt_163 (lv_at hl 5 rfl) ?_
          refine k_callSi (As := [.int x4]) (rest := []) (fun (u : Unit) => wd_R_tokenSizeAt ad ck rsize rval risP cnt look bad byZ inr rpl hld store) ⟨hx, hb, hml, hown, hts⟩ (kc_R_isDigit l dC dI ad ck x4 (hw := hw)) (va_cwS 1 hts (gS ux_61 ux_63 ux_49 ux_62) rfl rfl rfl hd_R_isDigit ⟨Nat.le_of_ble_eq_true rfl, Nat.le_of_ble_eq_true rfl⟩) hK hP hD hS hA k_x0c trivial [] [0, 1] [0, 1] rfl rfl (by decide) (by decide) (fun _ => rfl) rfl hl.1 rfl (lv_room (Nat.le_of_ble_eq_true rfl)) d_R_tokenSizeAt_165 ⟨Nat.zero_le _, Nat.zero_le _⟩ ?_
          intro r_104 u H locs hw hP hD hS
          have hP : va_P (dC, dI) vwCl (wd_R_tokenSizeAt ad ck rsize rval risP cnt look bad byZ inr rpl hld store) H := hP
          have hD : va_D A (wd_R_tokenSizeAt ad ck rsize rval risP cnt look bad byZ inr rpl hld store) := hD
          try dsimp only at hw
          obtain ⟨hwt, hwf⟩ := hw
          refine lv_if_eq (tgt := 291) hx hb d_R_tokenSizeAt_168 (by decide) (fun c_105 => ?_) (fun c_105 => ?_)
          · have hw := hwt c_105
            refine lv_aload_n hx hb d_R_tokenSizeAt_291 rfl (lv_at hl 1 rfl) ?_
            refine lv_iload_n hx hb d_R_tokenSizeAt_292 rfl (lv_at hl 2 rfl) ?_
            refine lv_iload_n hx hb d_R_tokenSizeAt_293 rfl (lv_at hl 3 rfl) ?_
            refine k_callVi (As := [.int x1, .int x2]) (rest := []) (fun (u : Unit) => wd_R_tokenSizeAt ad ck rsize rval risP cnt look bad byZ inr rpl hld store) ⟨hx, hb, hml, hown, hts⟩ (kc_R_signSize l dC dI ad ck sa sv sf rsize rval risP cnt look bad byZ inr rpl hld store x1 x2 (hw := hw)) (cwV 2 hts (gV ux_64 ux_66 ux_67 ux_49 ux_65) rfl rfl rfl hd_R_signSize ⟨Nat.le_of_ble_eq_true rfl, Nat.le_of_ble_eq_true rfl⟩) hK hP hD hS hA (XR_c sa sv sf) hX [0, 1] [] [0, 1] rfl rfl (by decide) (by decide) (fun _ => rfl) (va_recv hK hP (ci := 5) (q0 := 0) rfl rfl) rfl hl.1 rfl (lv_room (Nat.le_of_ble_eq_true rfl)) d_R_tokenSizeAt_294 ⟨Nat.zero_le _, Nat.zero_le _⟩ ?_
            intro r_106 u H locs hw hP hD hS
            have hP : va_P (dC, dI) vwCl (wd_R_tokenSizeAt ad ck rsize rval risP cnt look bad byZ inr rpl hld store) H := hP
            have hD : va_D A (wd_R_tokenSizeAt ad ck rsize rval risP cnt look bad byZ inr rpl hld store) := hD
            try dsimp only at hw
            exact W.iret (v := r_106) hx hb hr (fun t ht hW => ⟨⟨r_106, (), rfl, hw, by rw [ht]; exact hP, va_K.moved hW.alike hK, hD⟩, hS.F ht⟩) hS.2.2 d_R_tokenSizeAt_297
          · have hw := hwf c_105
            refine lv_iconst (v := 1) hx hb d_R_tokenSizeAt_171 (by decide) ?_
            refine lv_istore (lv' := [(6, .int 1), (5, .int x5_7), (0, .ref (ad 11)), (1, .int x1), (2, .int x2), (3, .int x3), (4, .int x4)]) hx hb d_R_tokenSizeAt_172 hl (by decide) rfl (fun ls hl => ?_)
            obtain ⟨fu174, hw⟩ := hw
            exact L_174 x1 x2 rsize rval risP cnt look bad byZ inr rpl hld store fu174 x5_7 1 _ _ _ hw hP hD hS (lv_sub hl [2, 3, 4, 1, 0] rfl)
    · have hw := hwf c_9
      obtain ⟨fu107, hw⟩ := hw
      exact L_107 x1 x2 rsize rval risP cnt look bad byZ inr rpl hld store fu107 x5_7 _ _ _ hw hP hD hS (lv_sub hl [1, 2, 3, 0] rfl)
  have L_65 : ∀ (x1 : Int32) (x2 : Int32) (x3 : Int32) (x4 : Int32) (rsize : Int32) (rval : Int64) (risP : Int32) (cnt : Int32) (look : Int32) (bad : Int32) (byZ : Int32) (inr : Int32) (rpl : Int32) (hld : Int32) (store : Nat → Int32) (H : Heap) (locs : List Loc) (ls : Array Slot), w_R_tokenSizeAt_65 post x1 x2 x3 x4 rsize rval risP cnt look bad byZ inr rpl hld store → va_P (dC, dI) vwCl (wd_R_tokenSizeAt ad ck rsize rval risP cnt look bad byZ inr rpl hld store) H → va_D A (wd_R_tokenSizeAt ad ck rsize rval risP cnt look bad byZ inr rpl hld store) → va_S A s.heap H locs → lv_has ls 9 [(0, .ref (ad 11)), (1, .int x1), (2, .int x2), (3, .int x3), (4, .int x4)] → W p l e (headSpec ws_R_tokenSizeAt ({ frames := 6, cells := 0, slots := 0, locals := 135 } : Room)).room s m ([.ref (ad 11), .int p0, .int p1] : List Value).toArray below meth c H locs 0 0 (k_Qi below (dC, dI) vwCl (TYr ck) A (fun (r : Int32) (u : Unit) => post r ) (fun (u : Unit) => wd_R_tokenSizeAt ad ck rsize rval risP cnt look bad byZ inr rpl hld store) ([.ref (ad 11), .int p0, .int p1] : List Value).toArray s) (F0 m 65 ls []) := by
    intro x1 x2 x3 x4 rsize rval risP cnt look bad byZ inr rpl hld store H locs ls hw hP hD hS hl
    refine lv_iload_n hx hb d_R_tokenSizeAt_65 rfl (lv_at hl 3 rfl) ?_
    refine lv_bipush (v := 34) hx hb d_R_tokenSizeAt_66 (by decide) ?_
    obtain ⟨hwt, hwf⟩ := hw
    refine lv_icmp_eq (tgt := 77) hx hb d_R_tokenSizeAt_68 (by decide) (fun c_4 => ?_) (fun c_4 => ?_)
    · have hw := hwt c_4
      refine lv_aload_n hx hb d_R_tokenSizeAt_77 rfl (lv_at hl 0 rfl) ?_
      refine lv_iload_n hx hb d_R_tokenSizeAt_78 rfl (lv_at hl 1 rfl) ?_
      refine lv_iload_n hx hb d_R_tokenSizeAt_79 rfl (lv_at hl 2 rfl) ?_
      refine k_callVi (As := [.int x1, .int x2]) (rest := []) (fun (u : Unit) => wd_R_tokenSizeAt ad ck rsize rval risP cnt look bad byZ inr rpl hld store) ⟨hx, hb, hml, hown, hts⟩ (kc_R_quotedEnd l dC dI ad ck rsize rval risP cnt look bad byZ inr rpl hld store x1 x2 (hw := hw)) (cwV 2 hts (gV ux_54 ux_56 ux_57 ux_49 ux_55) rfl rfl rfl hd_R_quotedEnd ⟨Nat.le_of_ble_eq_true rfl, Nat.le_of_ble_eq_true rfl⟩) hK hP hD hS hA k_x0c trivial [0, 1] [] [0, 1] rfl rfl (by decide) (by decide) (fun _ => rfl) (va_recv hK hP (ci := 5) (q0 := 0) rfl rfl) rfl hl.1 rfl (lv_room (Nat.le_of_ble_eq_true rfl)) d_R_tokenSizeAt_80 ⟨Nat.zero_le _, Nat.zero_le _⟩ ?_
      intro r_5 u H locs hw hP hD hS
      have hP : va_P (dC, dI) vwCl (wd_R_tokenSizeAt ad ck rsize rval risP cnt look bad byZ inr rpl hld store) H := hP
      have hD : va_D A (wd_R_tokenSizeAt ad ck rsize rval risP cnt look bad byZ inr rpl hld store) := hD
      try dsimp only at hw
      obtain ⟨hwt, hwf⟩ := hw
      refine lv_if_le (tgt := 95) hx hb d_R_tokenSizeAt_83 (by decide) (fun c_6 => ?_) (fun c_6 => ?_)
      · have hw := hwt c_6
        exact L_95 x1 x2 x3 x4 rsize rval risP cnt look bad byZ inr rpl hld store _ _ _ hw hP hD hS (lv_sub hl [0, 1, 2, 3, 4] rfl)
      · have hw := hwf c_6
        refine lv_aload_n hx hb d_R_tokenSizeAt_86 rfl (lv_at hl 0 rfl) ?_
        refine lv_iload_n hx hb d_R_tokenSizeAt_87 rfl (lv_at hl 1 rfl) ?_
        refine lv_iload_n hx hb d_R_tokenSizeAt_88 rfl (lv_at hl 2 rfl) ?_
        refine k_callVi (As := [.int x1, .int x2]) (rest := []) (fun (u : Unit) => wd_R_tokenSizeAt ad ck rsize rval risP cnt look bad byZ inr rpl hld store) ⟨hx, hb, hml, hown, hts⟩ (kc_R_quotedEnd l dC dI ad ck rsize rval risP cnt look bad byZ inr rpl hld store x1 x2 (hw := hw)) (cwV 2 hts (gV ux_54 ux_56 ux_57 ux_49 ux_55) rfl rfl rfl hd_R_quotedEnd ⟨Nat.le_of_ble_eq_true rfl, Nat.le_of_ble_eq_true rfl⟩) hK hP hD hS hA k_x0c trivial [0, 1] [] [0, 1] rfl rfl (by decide) (by decide) (fun _ => rfl) (va_recv hK hP (ci := 5) (q0 := 0) rfl rfl) rfl hl.1 rfl (lv_room (Nat.le_of_ble_eq_true rfl)) d_R_tokenSizeAt_89 ⟨Nat.zero_le _, Nat.zero_le _⟩ ?_
        intro r_115 u H locs hw hP hD hS
        have hP : va_P (dC, dI) vwCl (wd_R_tokenSizeAt ad ck rsize rval risP cnt look bad byZ inr rpl hld store) H := hP
        have hD : va_D A (wd_R_tokenSizeAt ad ck rsize rval risP cnt look bad byZ inr rpl hld store) := hD
        try dsimp only at hw
        refine lv_iload_n hx hb d_R_tokenSizeAt_92 rfl (lv_at hl 1 rfl) ?_
        refine lv_isub hx hb d_R_tokenSizeAt_93 ?_
        exact W.iret (v := (r_115 - x1)) hx hb hr (fun t ht hW => ⟨⟨(r_115 - x1), (), rfl, hw, by rw [ht]; exact hP, va_K.moved hW.alike hK, hD⟩, hS.F ht⟩) hS.2.2 d_R_tokenSizeAt_94
    · have hw := hwf c_4
      refine lv_iload_n hx hb d_R_tokenSizeAt_71 rfl (lv_at hl 3 rfl) ?_
      refine lv_bipush (v := 39) hx hb d_R_tokenSizeAt_72 (by decide) ?_
      obtain ⟨hwt, hwf⟩ := hw
      refine lv_icmp_ne (tgt := 95) hx hb d_R_tokenSizeAt_74 (by decide) (fun c_116 => ?_) (fun c_116 => ?_)
      · have hw := hwf c_116
        exact L_95 x1 x2 x3 x4 rsize rval risP cnt look bad byZ inr rpl hld store _ _ _ hw hP hD hS (lv_sub hl [0, 1, 2, 3, 4] rfl)
      · have hw := hwt c_116
        refine lv_aload_n hx hb d_R_tokenSizeAt_77 rfl (lv_at hl 0 rfl) ?_
        refine lv_iload_n hx hb d_R_tokenSizeAt_78 rfl (lv_at hl 1 rfl) ?_
        refine lv_iload_n hx hb d_R_tokenSizeAt_79 rfl (lv_at hl 2 rfl) ?_
        refine k_callVi (As := [.int x1, .int x2]) (rest := []) (fun (u : Unit) => wd_R_tokenSizeAt ad ck rsize rval risP cnt look bad byZ inr rpl hld store) ⟨hx, hb, hml, hown, hts⟩ (kc_R_quotedEnd l dC dI ad ck rsize rval risP cnt look bad byZ inr rpl hld store x1 x2 (hw := hw)) (cwV 2 hts (gV ux_54 ux_56 ux_57 ux_49 ux_55) rfl rfl rfl hd_R_quotedEnd ⟨Nat.le_of_ble_eq_true rfl, Nat.le_of_ble_eq_true rfl⟩) hK hP hD hS hA k_x0c trivial [0, 1] [] [0, 1] rfl rfl (by decide) (by decide) (fun _ => rfl) (va_recv hK hP (ci := 5) (q0 := 0) rfl rfl) rfl hl.1 rfl (lv_room (Nat.le_of_ble_eq_true rfl)) d_R_tokenSizeAt_80 ⟨Nat.zero_le _, Nat.zero_le _⟩ ?_
        intro r_117 u H locs hw hP hD hS
        have hP : va_P (dC, dI) vwCl (wd_R_tokenSizeAt ad ck rsize rval risP cnt look bad byZ inr rpl hld store) H := hP
        have hD : va_D A (wd_R_tokenSizeAt ad ck rsize rval risP cnt look bad byZ inr rpl hld store) := hD
        try dsimp only at hw
        obtain ⟨hwt, hwf⟩ := hw
        refine lv_if_le (tgt := 95) hx hb d_R_tokenSizeAt_83 (by decide) (fun c_118 => ?_) (fun c_118 => ?_)
        · have hw := hwt c_118
          exact L_95 x1 x2 x3 x4 rsize rval risP cnt look bad byZ inr rpl hld store _ _ _ hw hP hD hS (lv_sub hl [0, 1, 2, 3, 4] rfl)
        · have hw := hwf c_118
          refine lv_aload_n hx hb d_R_tokenSizeAt_86 rfl (lv_at hl 0 rfl) ?_
          refine lv_iload_n hx hb d_R_tokenSizeAt_87 rfl (lv_at hl 1 rfl) ?_
          refine lv_iload_n hx hb d_R_tokenSizeAt_88 rfl (lv_at hl 2 rfl) ?_
          refine k_callVi (As := [.int x1, .int x2]) (rest := []) (fun (u : Unit) => wd_R_tokenSizeAt ad ck rsize rval risP cnt look bad byZ inr rpl hld store) ⟨hx, hb, hml, hown, hts⟩ (kc_R_quotedEnd l dC dI ad ck rsize rval risP cnt look bad byZ inr rpl hld store x1 x2 (hw := hw)) (cwV 2 hts (gV ux_54 ux_56 ux_57 ux_49 ux_55) rfl rfl rfl hd_R_quotedEnd ⟨Nat.le_of_ble_eq_true rfl, Nat.le_of_ble_eq_true rfl⟩) hK hP hD hS hA k_x0c trivial [0, 1] [] [0, 1] rfl rfl (by decide) (by decide) (fun _ => rfl) (va_recv hK hP (ci := 5) (q0 := 0) rfl rfl) rfl hl.1 rfl (lv_room (Nat.le_of_ble_eq_true rfl)) d_R_tokenSizeAt_89 ⟨Nat.zero_le _, Nat.zero_le _⟩ ?_
          intro r_119 u H locs hw hP hD hS
          have hP : va_P (dC, dI) vwCl (wd_R_tokenSizeAt ad ck rsize rval risP cnt look bad byZ inr rpl hld store) H := hP
          have hD : va_D A (wd_R_tokenSizeAt ad ck rsize rval risP cnt look bad byZ inr rpl hld store) := hD
          try dsimp only at hw
          refine lv_iload_n hx hb d_R_tokenSizeAt_92 rfl (lv_at hl 1 rfl) ?_
          refine lv_isub hx hb d_R_tokenSizeAt_93 ?_
          exact W.iret (v := (r_119 - x1)) hx hb hr (fun t ht hW => ⟨⟨(r_119 - x1), (), rfl, hw, by rw [ht]; exact hP, va_K.moved hW.alike hK, hD⟩, hS.F ht⟩) hS.2.2 d_R_tokenSizeAt_94
  have L_43 : ∀ (x1 : Int32) (x2 : Int32) (x3 : Int32) (x4 : Int32) (rsize : Int32) (rval : Int64) (risP : Int32) (cnt : Int32) (look : Int32) (bad : Int32) (byZ : Int32) (inr : Int32) (rpl : Int32) (hld : Int32) (store : Nat → Int32) (H : Heap) (locs : List Loc) (ls : Array Slot), w_R_tokenSizeAt_43 post x1 x2 x3 x4 rsize rval risP cnt look bad byZ inr rpl hld store → va_P (dC, dI) vwCl (wd_R_tokenSizeAt ad ck rsize rval risP cnt look bad byZ inr rpl hld store) H → va_D A (wd_R_tokenSizeAt ad ck rsize rval risP cnt look bad byZ inr rpl hld store) → va_S A s.heap H locs → lv_has ls 9 [(0, .ref (ad 11)), (1, .int x1), (2, .int x2), (3, .int x3), (4, .int x4)] → W p l e (headSpec ws_R_tokenSizeAt ({ frames := 6, cells := 0, slots := 0, locals := 135 } : Room)).room s m ([.ref (ad 11), .int p0, .int p1] : List Value).toArray below meth c H locs 0 0 (k_Qi below (dC, dI) vwCl (TYr ck) A (fun (r : Int32) (u : Unit) => post r ) (fun (u : Unit) => wd_R_tokenSizeAt ad ck rsize rval risP cnt look bad byZ inr rpl hld store) ([.ref (ad 11), .int p0, .int p1] : List Value).toArray s) (F0 m 43 ls []) := by
    intro x1 x2 x3 x4 rsize rval risP cnt look bad byZ inr rpl hld store H locs ls hw hP hD hS hl
    refine lv_aload_n hx hb d_R_tokenSizeAt_43 rfl (lv_at hl 0 rfl) ?_
    refine lv_iload_n hx hb d_R_tokenSizeAt_44 rfl (lv_at hl 1 rfl) ?_
    refine lv_iconst (v := 1) hx hb d_R_tokenSizeAt_45 (by decide) ?_
    refine lv_iadd hx hb d_R_tokenSizeAt_46 ?_
    refine lv_iload_n hx hb d_R_tokenSizeAt_47 rfl (lv_at hl 2 rfl) ?_
    refine k_callVi (As := [.int (x1 + 1), .int x2]) (rest := []) (fun (u : Unit) => wd_R_tokenSizeAt ad ck rsize rval risP cnt look bad byZ inr rpl hld store) ⟨hx, hb, hml, hown, hts⟩ (kc_R_quotedEnd l dC dI ad ck rsize rval risP cnt look bad byZ inr rpl hld store (x1 + 1) x2 (hw := hw)) (cwV 2 hts (gV ux_54 ux_56 ux_57 ux_49 ux_55) rfl rfl rfl hd_R_quotedEnd ⟨Nat.le_of_ble_eq_true rfl, Nat.le_of_ble_eq_true rfl⟩) hK hP hD hS hA k_x0c trivial [0, 1] [] [0, 1] rfl rfl (by decide) (by decide) (fun _ => rfl) (va_recv hK hP (ci := 5) (q0 := 0) rfl rfl) rfl hl.1 rfl (lv_room (Nat.le_of_ble_eq_true rfl)) d_R_tokenSizeAt_48 ⟨Nat.zero_le _, Nat.zero_le _⟩ ?_
    intro r_121 u H locs hw hP hD hS
    have hP : va_P (dC, dI) vwCl (wd_R_tokenSizeAt ad ck rsize rval risP cnt look bad byZ inr rpl hld store) H := hP
    have hD : va_D A (wd_R_tokenSizeAt ad ck rsize rval risP cnt look bad byZ inr rpl hld store) := hD
    try dsimp only at hw
    obtain ⟨hwt, hwf⟩ := hw
    refine lv_if_le (tgt := 65) hx hb d_R_tokenSizeAt_51 (by decide) (fun c_122 => ?_) (fun c_122 => ?_)
    · have hw := hwt c_122
      exact L_65 x1 x2 x3 x4 rsize rval risP cnt look bad byZ inr rpl hld store _ _ _ hw hP hD hS (lv_sub hl [0, 1, 2, 3, 4] rfl)
    · have hw := hwf c_122
      refine lv_aload_n hx hb d_R_tokenSizeAt_54 rfl (lv_at hl 0 rfl) ?_
      refine lv_iload_n hx hb d_R_tokenSizeAt_55 rfl (lv_at hl 1 rfl) ?_
      refine lv_iconst (v := 1) hx hb d_R_tokenSizeAt_56 (by decide) ?_
      refine lv_iadd hx hb d_R_tokenSizeAt_57 ?_
      refine lv_iload_n hx hb d_R_tokenSizeAt_58 rfl (lv_at hl 2 rfl) ?_
      refine k_callVi (As := [.int (x1 + 1), .int x2]) (rest := []) (fun (u : Unit) => wd_R_tokenSizeAt ad ck rsize rval risP cnt look bad byZ inr rpl hld store) ⟨hx, hb, hml, hown, hts⟩ (kc_R_quotedEnd l dC dI ad ck rsize rval risP cnt look bad byZ inr rpl hld store (x1 + 1) x2 (hw := hw)) (cwV 2 hts (gV ux_54 ux_56 ux_57 ux_49 ux_55) rfl rfl rfl hd_R_quotedEnd ⟨Nat.le_of_ble_eq_true rfl, Nat.le_of_ble_eq_true rfl⟩) hK hP hD hS hA k_x0c trivial [0, 1] [] [0, 1] rfl rfl (by decide) (by decide) (fun _ => rfl) (va_recv hK hP (ci := 5) (q0 := 0) rfl rfl) rfl hl.1 rfl (lv_room (Nat.le_of_ble_eq_true rfl)) d_R_tokenSizeAt_59 ⟨Nat.zero_le _, Nat.zero_le _⟩ ?_
      intro r_123 u H locs hw hP hD hS
      have hP : va_P (dC, dI) vwCl (wd_R_tokenSizeAt ad ck rsize rval risP cnt look bad byZ inr rpl hld store) H := hP
      have hD : va_D A (wd_R_tokenSizeAt ad ck rsize rval risP cnt look bad byZ inr rpl hld store) := hD
      try dsimp only at hw
      refine lv_iload_n hx hb d_R_tokenSizeAt_62 rfl (lv_at hl 1 rfl) ?_
      refine lv_isub hx hb d_R_tokenSizeAt_63 ?_
      exact W.iret (v := (r_123 - x1)) hx hb hr (fun t ht hW => ⟨⟨(r_123 - x1), (), rfl, hw, by rw [ht]; exact hP, va_K.moved hW.alike hK, hD⟩, hS.F ht⟩) hS.2.2 d_R_tokenSizeAt_64
  refine lv_aload_n hx hb d_R_tokenSizeAt_0 rfl (lv_at hl 0 rfl) ?_
  refine va_get (D := (dC, dI)) (ci := 5) (v := .ref (ad 12)) (C := R_R) (T := T_R) (N := 16) hx hb hts in_R hown hK hP 0 rfl rfl 1 (by decide) (hts _ ux_46) (fun _ h9 => h9) rfl d_R_tokenSizeAt_1 ?_
  refine lv_iload_n hx hb d_R_tokenSizeAt_4 rfl (lv_at hl 1 rfl) ?_
  refine lv_iload_n hx hb d_R_tokenSizeAt_5 rfl (lv_at hl 2 rfl) ?_
  refine k_callSi (As := [.ref (ad 12), .int p0, .int p1]) (rest := []) (fun (u : Unit) => wd_R_tokenSizeAt ad ck rsize rval risP cnt look bad byZ inr rpl hld store) ⟨hx, hb, hml, hown, hts⟩ (kc_R_byteAt l dC dI ad ck store p0 p1 (hw := hw)) (va_cwS 3 hts (gS ux_47 ux_50 ux_49 ux_48) rfl rfl rfl hd_R_byteAt ⟨Nat.le_of_ble_eq_true rfl, Nat.le_of_ble_eq_true rfl⟩) hK hP hD hS hA k_x0c trivial [1] [0] [0, 1] rfl rfl (by decide) (by decide) (fun _ => rfl) rfl hl.1 rfl (lv_room (Nat.le_of_ble_eq_true rfl)) d_R_tokenSizeAt_6 ⟨Nat.zero_le _, Nat.zero_le _⟩ ?_
  intro r_1 u H locs hw hP hD hS
  have hP : va_P (dC, dI) vwCl (wd_R_tokenSizeAt ad ck rsize rval risP cnt look bad byZ inr rpl hld store) H := hP
  have hD : va_D A (wd_R_tokenSizeAt ad ck rsize rval risP cnt look bad byZ inr rpl hld store) := hD
  try dsimp only at hw
  refine lv_istore_n (lv' := [(3, .int r_1), (0, .ref (ad 11)), (1, .int p0), (2, .int p1)]) hx hb d_R_tokenSizeAt_9 rfl hl (by decide) rfl (fun ls hl => ?_)
  refine lv_aload_n hx hb d_R_tokenSizeAt_10 rfl (lv_at hl 1 rfl) ?_
  refine va_get (D := (dC, dI)) (ci := 5) (v := .ref (ad 12)) (C := R_R) (T := T_R) (N := 16) hx hb hts in_R hown hK hP 0 rfl rfl 1 (by decide) (hts _ ux_46) (fun _ h9 => h9) rfl d_R_tokenSizeAt_11 ?_
  refine lv_iload_n hx hb d_R_tokenSizeAt_14 rfl (lv_at hl 2 rfl) ?_
  refine lv_iconst (v := 1) hx hb d_R_tokenSizeAt_15 (by decide) ?_
  refine lv_iadd hx hb d_R_tokenSizeAt_16 ?_
  refine lv_iload_n hx hb d_R_tokenSizeAt_17 rfl (lv_at hl 3 rfl) ?_
  refine k_callSi (As := [.ref (ad 12), .int (p0 + 1), .int p1]) (rest := []) (fun (u : Unit) => wd_R_tokenSizeAt ad ck rsize rval risP cnt look bad byZ inr rpl hld store) ⟨hx, hb, hml, hown, hts⟩ (kc_R_byteAt l dC dI ad ck store (p0 + 1) p1 (hw := hw)) (va_cwS 3 hts (gS ux_47 ux_50 ux_49 ux_48) rfl rfl rfl hd_R_byteAt ⟨Nat.le_of_ble_eq_true rfl, Nat.le_of_ble_eq_true rfl⟩) hK hP hD hS hA k_x0c trivial [1] [0] [0, 1] rfl rfl (by decide) (by decide) (fun _ => rfl) rfl hl.1 rfl (lv_room (Nat.le_of_ble_eq_true rfl)) d_R_tokenSizeAt_18 ⟨Nat.zero_le _, Nat.zero_le _⟩ ?_
  intro r_2 u H locs hw hP hD hS
  have hP : va_P (dC, dI) vwCl (wd_R_tokenSizeAt ad ck rsize rval risP cnt look bad byZ inr rpl hld store) H := hP
  have hD : va_D A (wd_R_tokenSizeAt ad ck rsize rval risP cnt look bad byZ inr rpl hld store) := hD
  try dsimp only at hw
  refine lv_istore (lv' := [(4, .int r_2), (3, .int r_1), (0, .ref (ad 11)), (1, .int p0), (2, .int p1)]) hx hb d_R_tokenSizeAt_21 hl (by decide) rfl (fun ls hl => ?_)
  refine lv_iload_n hx hb d_R_tokenSizeAt_23 rfl (lv_at hl 1 rfl) ?_
  refine lv_bipush (v := 76) hx hb d_R_tokenSizeAt_24 (by decide) ?_
  obtain ⟨hwt, hwf⟩ := hw
  refine lv_icmp_ne (tgt := 65) hx hb d_R_tokenSizeAt_26 (by decide) (fun c_3 => ?_) (fun c_3 => ?_)
  · have hw := hwf c_3
    exact L_65 p0 p1 r_1 r_2 rsize rval risP cnt look bad byZ inr rpl hld store _ _ _ hw hP hD hS (lv_sub hl [2, 3, 4, 1, 0] rfl)
  · have hw := hwt c_3
    refine lv_iload hx hb d_R_tokenSizeAt_29 (lv_at hl 0 rfl) ?_
    refine lv_bipush (v := 34) hx hb d_R_tokenSizeAt_31 (by decide) ?_
    obtain ⟨hwt, hwf⟩ := hw
    refine lv_icmp_eq (tgt := 43) hx hb d_R_tokenSizeAt_33 (by decide) (fun c_120 => ?_) (fun c_120 => ?_)
    · have hw := hwt c_120
      exact L_43 p0 p1 r_1 r_2 rsize rval risP cnt look bad byZ inr rpl hld store _ _ _ hw hP hD hS (lv_sub hl [2, 3, 4, 1, 0] rfl)
    · have hw := hwf c_120
      refine lv_iload hx hb d_R_tokenSizeAt_36 (lv_at hl 0 rfl) ?_
      refine lv_bipush (v := 39) hx hb d_R_tokenSizeAt_38 (by decide) ?_
      obtain ⟨hwt, hwf⟩ := hw
      refine lv_icmp_ne (tgt := 65) hx hb d_R_tokenSizeAt_40 (by decide) (fun c_124 => ?_) (fun c_124 => ?_)
      · have hw := hwf c_124
        exact L_65 p0 p1 r_1 r_2 rsize rval risP cnt look bad byZ inr rpl hld store _ _ _ hw hP hD hS (lv_sub hl [2, 3, 4, 1, 0] rfl)
      · have hw := hwt c_124
        exact L_43 p0 p1 r_1 r_2 rsize rval risP cnt look bad byZ inr rpl hld store _ _ _ hw hP hD hS (lv_sub hl [2, 3, 4, 1, 0] rfl)

abbrev wd_R_cutAll (ad : Nat → Nat) (ck : Nat → ClassId) (rsize : Int32) (rval : Int64) (risP : Int32) (cnt : Int32) (look : Int32) (bad : Int32) (byZ : Int32) (inr : Int32) (rpl : Int32) (hld : Int32) (store : Nat → Int32) (tAt : Nat → Int32) (tSz : Nat → Int32) : va_W := [(ad 11, .inr (5, [.int rsize, .ref (ad 12), .long rval, .int risP, .int cnt, .ref (ad 13), .ref (ad 14), .int look, .int bad, .int byZ, .int inr, .int rpl, .int hld, .ref (ad 15), .ref (ad 16), .ref (ad 17)])), (ad 12, .inl (ck 6, 4096, .inl store)), (ad 13, .inl (ck 7, 4096, .inl tAt)), (ad 14, .inl (ck 8, 4096, .inl tSz))]
def w_R_cutAll_7 (post : Int32 → (Nat → Int32) → (Nat → Int32) → Prop) (rsize : Int32) (rval : Int64) (risP : Int32) (look : Int32) (bad : Int32) (byZ : Int32) (inr : Int32) (rpl : Int32) (hld : Int32) (store : Nat → Int32) : Nat → Int32 → Int32 → (Nat → Int32) → (Nat → Int32) → Prop
  | 0 => fun _ _ _ _ => False
  | n + 1 => fun x1 cnt tAt tSz => (rsize ≤ x1 → (post cnt tAt tSz)) ∧ (¬ rsize ≤ x1 → (vp_in x1 4096 ∧ (wp_R_isBlank (fun (r_3 : Int32) => (r_3 = 0 → (vp_in cnt 4096 ∧ (∀ tAt_6 : Nat → Int32, tAt_6 = upd tAt cnt.toNatClampNeg x1 → (wp_R_tokenSizeAt (fun (r_7 : Int32) => vp_in cnt 4096 ∧ (∀ tSz_9 : Nat → Int32, tSz_9 = upd tSz cnt.toNatClampNeg r_7 → (vp_in cnt 4096 ∧ (∀ x1_11 : Int32, x1_11 = (x1 + (tSz_9 cnt.toNatClampNeg)) → (∀ cnt_12 : Int32, cnt_12 = (cnt + 1) → (w_R_cutAll_7 post rsize rval risP look bad byZ inr rpl hld store n x1_11 cnt_12 tAt_6 tSz_9)))))) rsize rval risP cnt look bad byZ inr rpl hld store x1 rsize)))) ∧ (¬ r_3 = 0 → (∀ x1_13 : Int32, x1_13 = x1 + 1 → (w_R_cutAll_7 post rsize rval risP look bad byZ inr rpl hld store n x1_13 cnt tAt tSz)))) ((store x1.toNatClampNeg) &&& 255))))
def wp_R_cutAll (post : Int32 → (Nat → Int32) → (Nat → Int32) → Prop) (rsize : Int32) (rval : Int64) (risP : Int32) (cnt : Int32) (look : Int32) (bad : Int32) (byZ : Int32) (inr : Int32) (rpl : Int32) (hld : Int32) (store : Nat → Int32) (tAt : Nat → Int32) (tSz : Nat → Int32)  : Prop := ∃ fu7 : Nat, w_R_cutAll_7 post rsize rval risP look bad byZ inr rpl hld store fu7 0 0 tAt tSz
set_option maxHeartbeats 4000000 in
set_option maxRecDepth 100000 in
theorem kc_R_cutAll (l : Launch) (dC : Nat → ClassId) (dI : Nat → Nat → Nat) (ad : Nat → Nat) (ck : Nat → ClassId) (sa sv : Nat → Nat) (sf : Option Nat) (rsize : Int32) (rval : Int64) (risP : Int32) (cnt : Int32) (look : Int32) (bad : Int32) (byZ : Int32) (inr : Int32) (rpl : Int32) (hld : Int32) (store : Nat → Int32) (tAt : Nat → Int32) (tSz : Nat → Int32)  {post : Int32 → (Nat → Int32) → (Nat → Int32) → Prop} (hw : wp_R_cutAll post rsize rval risP cnt look bad byZ inr rpl hld store tAt tSz ) : k_Cv l y_R_cutAll ws_R_cutAll ({ frames := 7, cells := 0, slots := 0, locals := 163 } : Room) (dC, dI) vwCl (TYr ck) (XR sa sv sf) [.ref (ad 11)] (wd_R_cutAll ad ck rsize rval risP cnt look bad byZ inr rpl hld store tAt tSz) (fun (u : Int32 × (Nat → Int32) × (Nat → Int32)) => post u.1 u.2.1 u.2.2) (fun (u : Int32 × (Nat → Int32) × (Nat → Int32)) => wd_R_cutAll ad ck rsize rval risP u.1 look bad byZ inr rpl hld store u.2.1 u.2.2) := by
  intro sz
  refine Met.ofW (cc := c_R_cutAll) (maxL := 2) (ret := none) (by decide) rfl ?_
  intro p e s m args below meth c s₁ B hml hv
  obtain ⟨rfl, hsz, hP, hK, hD0, hX⟩ := hv
  have hx := B.exec
  have hb := B.bytes
  have hr := B.returns
  have hts : ∀ w ∈ TB, w.before _ s = true := fun w h => atoms_spec (ws := ws_R_cutAll) B.pre w (List.mem_cons_of_mem _ h)
  have hown : s.vm.findClass R_R = some m.cls := findClass_of_methodNamed B.named
  have hlocks := B.notSynchronized
  subst hsz
  have hD := hD0.self (sz := s.heap.size)
  generalize hAe : va_A (wd_R_cutAll ad ck rsize rval risP cnt look bad byZ inr rpl hld store tAt tSz) s.heap.size = A at hD hX ⊢
  have hA : ∀ q : Nat, s.heap.size ≤ q → A q := fun q h => by rw [← hAe]; exact Or.inr h
  have hS : va_S A s.heap s.heap [] := va_S.rf
  have hP : va_P (dC, dI) vwCl (wd_R_cutAll ad ck rsize rval risP cnt look bad byZ inr rpl hld store tAt tSz) s.heap := hP
  have hl := lv_entry ([.ref (ad 11)]) (n := 2) (Nat.le_of_ble_eq_true rfl)
  rw [lg_entry_eq]
  generalize (lg_sl ([.ref (ad 11)]) ++ List.replicate (2 - (lg_sl ([.ref (ad 11)])).length) Slot.unset).toArray = ls at hl ⊢
  have hl : lv_has ls 2 [(0, .ref (ad 11))] := hl
  have L_7 : ∀ (rsize : Int32) (rval : Int64) (risP : Int32) (look : Int32) (bad : Int32) (byZ : Int32) (inr : Int32) (rpl : Int32) (hld : Int32) (store : Nat → Int32) (n : Nat) (x1 : Int32) (cnt : Int32) (tAt : Nat → Int32) (tSz : Nat → Int32) (H : Heap) (locs : List Loc) (ls : Array Slot), w_R_cutAll_7 post rsize rval risP look bad byZ inr rpl hld store n x1 cnt tAt tSz → va_P (dC, dI) vwCl (wd_R_cutAll ad ck rsize rval risP cnt look bad byZ inr rpl hld store tAt tSz) H → va_D A (wd_R_cutAll ad ck rsize rval risP cnt look bad byZ inr rpl hld store tAt tSz) → va_S A s.heap H locs → lv_has ls 2 [(0, .ref (ad 11)), (1, .int x1)] → W p l e (headSpec ws_R_cutAll ({ frames := 7, cells := 0, slots := 0, locals := 163 } : Room)).room s m ([.ref (ad 11)] : List Value).toArray below meth c H locs 0 0 (k_Qv below (dC, dI) vwCl (TYr ck) A (fun (u : Int32 × (Nat → Int32) × (Nat → Int32)) => post u.1 u.2.1 u.2.2) (fun (u : Int32 × (Nat → Int32) × (Nat → Int32)) => wd_R_cutAll ad ck rsize rval risP u.1 look bad byZ inr rpl hld store u.2.1 u.2.2) ([.ref (ad 11)] : List Value).toArray s) (F0 m 7 ls []) := by
    intro rsize rval risP look bad byZ inr rpl hld store n
    induction n with
    | zero =>
      intro x1 cnt tAt tSz H locs ls hw
      exact False.elim hw
    | succ n ih =>
      intro x1 cnt tAt tSz H locs ls hw hP hD hS hl
      refine lv_iload_n hx hb d_R_cutAll_7 rfl (lv_at hl 1 rfl) ?_
      refine lv_aload_n hx hb d_R_cutAll_8 rfl (lv_at hl 0 rfl) ?_
      refine va_get (D := (dC, dI)) (ci := 5) (v := .int rsize) (C := R_R) (T := T_R) (N := 16) hx hb hts in_R hown hK hP 0 rfl rfl 0 (by decide) (hts _ ux_69) (fun _ h9 => h9) rfl d_R_cutAll_9 ?_
      obtain ⟨hwt, hwf⟩ := hw
      refine lv_icmp_ge (tgt := 90) hx hb d_R_cutAll_12 (by decide) (fun c_1 => ?_) (fun c_1 => ?_)
      · have hw := hwt c_1
        exact W.vret hx hb hr (fun t ht hW => ⟨⟨(cnt, tAt, tSz), rfl, hw, by rw [ht]; exact hP, va_K.moved hW.alike hK, hD⟩, hS.F ht⟩) hS.2.2 d_R_cutAll_90
      · have hw := hwf c_1
        refine lv_aload_n hx hb d_R_cutAll_15 rfl (lv_at hl 0 rfl) ?_
        refine va_get (D := (dC, dI)) (ci := 5) (v := .ref (ad 12)) (C := R_R) (T := T_R) (N := 16) hx hb hts in_R hown hK hP 0 rfl rfl 1 (by decide) (hts _ ux_46) (fun _ h9 => h9) rfl d_R_cutAll_16 ?_
        refine lv_iload_n hx hb d_R_cutAll_19 rfl (lv_at hl 1 rfl) ?_
        obtain ⟨hi_2, hw⟩ := hw
        refine va_bald hx hb hK hP 1 0 rfl rfl hi_2 d_R_cutAll_20 ?_
        refine lv_sipush (v := 255) hx hb d_R_cutAll_21 (by decide) ?_
        refine lv_iand hx hb d_R_cutAll_24 ?_
        refine k_callSi (As := [.int ((store x1.toNatClampNeg) &&& 255)]) (rest := []) (fun (u : Unit) => wd_R_cutAll ad ck rsize rval risP cnt look bad byZ inr rpl hld store tAt tSz) ⟨hx, hb, hml, hown, hts⟩ (kc_R_isBlank l dC dI ad ck ((store x1.toNatClampNeg) &&& 255) (hw := hw)) (va_cwS 1 hts (gS ux_70 ux_72 ux_49 ux_71) rfl rfl rfl hd_R_isBlank ⟨Nat.le_of_ble_eq_true rfl, Nat.le_of_ble_eq_true rfl⟩) hK hP hD hS hA k_x0c trivial [] [0, 1, 2, 3] [0, 1, 2, 3] rfl rfl (by decide) (by decide) (fun _ => rfl) rfl hl.1 rfl (lv_room (Nat.le_of_ble_eq_true rfl)) d_R_cutAll_25 ⟨Nat.zero_le _, Nat.zero_le _⟩ ?_
        intro r_3 u H locs hw hP hD hS
        have hP : va_P (dC, dI) vwCl (wd_R_cutAll ad ck rsize rval risP cnt look bad byZ inr rpl hld store tAt tSz) H := hP
        have hD : va_D A (wd_R_cutAll ad ck rsize rval risP cnt look bad byZ inr rpl hld store tAt tSz) := hD
        try dsimp only at hw
        obtain ⟨hwt, hwf⟩ := hw
        refine lv_if_eq (tgt := 37) hx hb d_R_cutAll_28 (by decide) (fun c_4 => ?_) (fun c_4 => ?_)
        · have hw := hwt c_4
          refine lv_aload_n hx hb d_R_cutAll_37 rfl (lv_at hl 0 rfl) ?_
          refine va_get (D := (dC, dI)) (ci := 5) (v := .ref (ad 13)) (C := R_R) (T := T_R) (N := 16) hx hb hts in_R hown hK hP 0 rfl rfl 5 (by decide) (hts _ ux_73) (fun _ h9 => h9) rfl d_R_cutAll_38 ?_
          refine lv_aload_n hx hb d_R_cutAll_41 rfl (lv_at hl 0 rfl) ?_
          refine va_get (D := (dC, dI)) (ci := 5) (v := .int cnt) (C := R_R) (T := T_R) (N := 16) hx hb hts in_R hown hK hP 0 rfl rfl 4 (by decide) (hts _ ux_68) (fun _ h9 => h9) rfl d_R_cutAll_42 ?_
          refine lv_iload_n hx hb d_R_cutAll_45 rfl (lv_at hl 1 rfl) ?_
          obtain ⟨hi_5, hw⟩ := hw
          refine va_iast hx hb hK hP hD hS 2 1 rfl rfl hi_5 d_R_cutAll_46 (fun H locs hP hD hS => ?_)
          obtain ⟨tAt_6, etAt_6⟩ : ∃ z : Nat → Int32, z = upd tAt cnt.toNatClampNeg x1 := ⟨_, rfl⟩
          have hw := hw tAt_6 etAt_6
          have hP : va_P (dC, dI) vwCl (wd_R_cutAll ad ck rsize rval risP cnt look bad byZ inr rpl hld store tAt_6 tSz) H := by rw [etAt_6]; exact hP
          have hD : va_D A (wd_R_cutAll ad ck rsize rval risP cnt look bad byZ inr rpl hld store tAt_6 tSz) := by rw [etAt_6]; exact hD
          refine lv_aload_n hx hb d_R_cutAll_47 rfl (lv_at hl 0 rfl) ?_
          refine va_get (D := (dC, dI)) (ci := 5) (v := .ref (ad 14)) (C := R_R) (T := T_R) (N := 16) hx hb hts in_R hown hK hP 0 rfl rfl 6 (by decide) (hts _ ux_74) (fun _ h9 => h9) rfl d_R_cutAll_48 ?_
          refine lv_aload_n hx hb d_R_cutAll_51 rfl (lv_at hl 0 rfl) ?_
          refine va_get (D := (dC, dI)) (ci := 5) (v := .int cnt) (C := R_R) (T := T_R) (N := 16) hx hb hts in_R hown hK hP 0 rfl rfl 4 (by decide) (hts _ ux_68) (fun _ h9 => h9) rfl d_R_cutAll_52 ?_
          refine lv_aload_n hx hb d_R_cutAll_55 rfl (lv_at hl 0 rfl) ?_
          refine lv_iload_n hx hb d_R_cutAll_56 rfl (lv_at hl 1 rfl) ?_
          refine lv_aload_n hx hb d_R_cutAll_57 rfl (lv_at hl 0 rfl) ?_
          refine va_get (D := (dC, dI)) (ci := 5) (v := .int rsize) (C := R_R) (T := T_R) (N := 16) hx hb hts in_R hown hK hP 0 rfl rfl 0 (by decide) (hts _ ux_69) (fun _ h9 => h9) rfl d_R_cutAll_58 ?_
          refine k_callVi (As := [.int x1, .int rsize]) (rest := [.int cnt, .ref (ad 14)]) (fun (u : Unit) => wd_R_cutAll ad ck rsize rval risP cnt look bad byZ inr rpl hld store tAt_6 tSz) ⟨hx, hb, hml, hown, hts⟩ (kc_R_tokenSizeAt l dC dI ad ck sa sv sf rsize rval risP cnt look bad byZ inr rpl hld store x1 rsize (hw := hw)) (cwV 2 hts (gV ux_75 ux_77 ux_78 ux_49 ux_76) rfl rfl rfl hd_R_tokenSizeAt ⟨Nat.le_of_ble_eq_true rfl, Nat.le_of_ble_eq_true rfl⟩) hK hP hD hS hA (XR_c sa sv sf) hX [0, 1] [2, 3] [2, 3, 0, 1] rfl rfl (by decide) (by decide) (fun _ => rfl) (va_recv hK hP (ci := 5) (q0 := 0) rfl rfl) rfl hl.1 rfl (lv_room (Nat.le_of_ble_eq_true rfl)) d_R_cutAll_61 ⟨Nat.zero_le _, Nat.zero_le _⟩ ?_
          intro r_7 u H locs hw hP hD hS
          have hP : va_P (dC, dI) vwCl (wd_R_cutAll ad ck rsize rval risP cnt look bad byZ inr rpl hld store tAt_6 tSz) H := hP
          have hD : va_D A (wd_R_cutAll ad ck rsize rval risP cnt look bad byZ inr rpl hld store tAt_6 tSz) := hD
          try dsimp only at hw
          obtain ⟨hi_8, hw⟩ := hw
          refine va_iast hx hb hK hP hD hS 3 2 rfl rfl hi_8 d_R_cutAll_64 (fun H locs hP hD hS => ?_)
          obtain ⟨tSz_9, etSz_9⟩ : ∃ z : Nat → Int32, z = upd tSz cnt.toNatClampNeg r_7 := ⟨_, rfl⟩
          have hw := hw tSz_9 etSz_9
          have hP : va_P (dC, dI) vwCl (wd_R_cutAll ad ck rsize rval risP cnt look bad byZ inr rpl hld store tAt_6 tSz_9) H := by rw [etSz_9]; exact hP
          have hD : va_D A (wd_R_cutAll ad ck rsize rval risP cnt look bad byZ inr rpl hld store tAt_6 tSz_9) := by rw [etSz_9]; exact hD
          refine lv_iload_n hx hb d_R_cutAll_65 rfl (lv_at hl 1 rfl) ?_
          refine lv_aload_n hx hb d_R_cutAll_66 rfl (lv_at hl 0 rfl) ?_
          refine va_get (D := (dC, dI)) (ci := 5) (v := .ref (ad 14)) (C := R_R) (T := T_R) (N := 16) hx hb hts in_R hown hK hP 0 rfl rfl 6 (by decide) (hts _ ux_74) (fun _ h9 => h9) rfl d_R_cutAll_67 ?_
          refine lv_aload_n hx hb d_R_cutAll_70 rfl (lv_at hl 0 rfl) ?_
          refine va_get (D := (dC, dI)) (ci := 5) (v := .int cnt) (C := R_R) (T := T_R) (N := 16) hx hb hts in_R hown hK hP 0 rfl rfl 4 (by decide) (hts _ ux_68) (fun _ h9 => h9) rfl d_R_cutAll_71 ?_
          obtain ⟨hi_10, hw⟩ := hw
          refine va_iald hx hb hK hP 3 2 rfl rfl hi_10 d_R_cutAll_74 ?_
          refine lv_iadd hx hb d_R_cutAll_75 ?_
          refine lv_topi (fun x1_11 ex1_11 => ?_)
          have hw := hw x1_11 ex1_11
          refine lv_istore_n (lv' := [(1, .int x1_11), (0, .ref (ad 11))]) hx hb d_R_cutAll_76 rfl hl (by decide) rfl (fun ls hl => ?_)
          refine lv_aload_n hx hb d_R_cutAll_77 rfl (lv_at hl 1 rfl) ?_
          refine lv_dup hx hb d_R_cutAll_78 rfl ?_
          refine va_get (D := (dC, dI)) (ci := 5) (v := .int cnt) (C := R_R) (T := T_R) (N := 16) hx hb hts in_R hown hK hP 0 rfl rfl 4 (by decide) (hts _ ux_68) (fun _ h9 => h9) rfl d_R_cutAll_79 ?_
          refine lv_iconst (v := 1) hx hb d_R_cutAll_82 (by decide) ?_
          refine lv_iadd hx hb d_R_cutAll_83 ?_
          refine lv_topi (fun cnt_12 ecnt_12 => ?_)
          have hw := hw cnt_12 ecnt_12
          refine va_put (D := (dC, dI)) (ci := 5) (v := .int cnt_12) (ty := .int) (C := R_R) (T := T_R) (N := 16) hx hb hts in_R ty_R ty_R_ok nm_R hown hK hP hD hS 0 rfl rfl 4 (by decide) (hts _ ux_68) (fun _ h9 => h9) rfl (by decide +kernel) rfl rfl (Nat.le_of_ble_eq_true rfl) d_R_cutAll_84 (fun H locs hP hD hS => ?_)
          have hP : va_P (dC, dI) vwCl (wd_R_cutAll ad ck rsize rval risP cnt_12 look bad byZ inr rpl hld store tAt_6 tSz_9) H := hP
          have hD : va_D A (wd_R_cutAll ad ck rsize rval risP cnt_12 look bad byZ inr rpl hld store tAt_6 tSz_9) := hD
          refine lv_goto (tgt := 7) hx hb d_R_cutAll_87 (by decide) ?_
          exact ih x1_11 cnt_12 tAt_6 tSz_9 _ _ _ hw hP hD hS (lv_sub hl [1, 0] rfl)
        · have hw := hwf c_4
          obtain ⟨x1_13, ex1_13⟩ : ∃ y : Int32, y = x1 + 1 := ⟨_, rfl⟩
          have hw := hw x1_13 ex1_13
          refine lv_iinc (v := x1_13) (lv' := [(1, .int x1_13), (0, .ref (ad 11))]) hx hb d_R_cutAll_31 hl (k := 1) rfl (by rw [ex1_13]; rfl) (by decide) rfl (fun ls hl => ?_)
          refine lv_goto (tgt := 7) hx hb d_R_cutAll_34 (by decide) ?_
          exact ih x1_13 cnt tAt tSz _ _ _ hw hP hD hS (lv_sub hl [1, 0] rfl)
  refine lv_aload_n hx hb d_R_cutAll_0 rfl (lv_at hl 0 rfl) ?_
  refine lv_iconst (v := 0) hx hb d_R_cutAll_1 (by decide) ?_
  refine va_put (D := (dC, dI)) (ci := 5) (v := .int 0) (ty := .int) (C := R_R) (T := T_R) (N := 16) hx hb hts in_R ty_R ty_R_ok nm_R hown hK hP hD hS 0 rfl rfl 4 (by decide) (hts _ ux_68) (fun _ h9 => h9) rfl (by decide +kernel) rfl rfl (Nat.le_of_ble_eq_true rfl) d_R_cutAll_2 (fun H locs hP hD hS => ?_)
  have hP : va_P (dC, dI) vwCl (wd_R_cutAll ad ck rsize rval risP 0 look bad byZ inr rpl hld store tAt tSz) H := hP
  have hD : va_D A (wd_R_cutAll ad ck rsize rval risP 0 look bad byZ inr rpl hld store tAt tSz) := hD
  refine lv_iconst (v := 0) hx hb d_R_cutAll_5 (by decide) ?_
  refine lv_istore_n (lv' := [(1, .int 0), (0, .ref (ad 11))]) hx hb d_R_cutAll_6 rfl hl (by decide) rfl (fun ls hl => ?_)
  obtain ⟨fu7, hw⟩ := hw
  exact L_7 rsize rval risP look bad byZ inr rpl hld store fu7 0 0 tAt tSz _ _ _ hw hP hD hS (lv_sub hl [1, 0] rfl)

abbrev wd_R_byteOf (ad : Nat → Nat) (ck : Nat → ClassId) (rsize : Int32) (rval : Int64) (risP : Int32) (cnt : Int32) (look : Int32) (bad : Int32) (byZ : Int32) (inr : Int32) (rpl : Int32) (hld : Int32) (store : Nat → Int32) (tAt : Nat → Int32) : va_W := [(ad 11, .inr (5, [.int rsize, .ref (ad 12), .long rval, .int risP, .int cnt, .ref (ad 13), .ref (ad 14), .int look, .int bad, .int byZ, .int inr, .int rpl, .int hld, .ref (ad 15), .ref (ad 16), .ref (ad 17)])), (ad 12, .inl (ck 6, 4096, .inl store)), (ad 13, .inl (ck 7, 4096, .inl tAt))]
def wp_R_byteOf (post : Int32 → Prop) (rsize : Int32) (rval : Int64) (risP : Int32) (cnt : Int32) (look : Int32) (bad : Int32) (byZ : Int32) (inr : Int32) (rpl : Int32) (hld : Int32) (store : Nat → Int32) (tAt : Nat → Int32) (p0 : Int32) (p1 : Int32) : Prop := vp_in p0 4096 ∧ (vp_in ((tAt p0.toNatClampNeg) + p1) 4096 ∧ (post ((store ((tAt p0.toNatClampNeg) + p1).toNatClampNeg) &&& 255)))
set_option maxHeartbeats 4000000 in
set_option maxRecDepth 100000 in
theorem kc_R_byteOf (l : Launch) (dC : Nat → ClassId) (dI : Nat → Nat → Nat) (ad : Nat → Nat) (ck : Nat → ClassId) (rsize : Int32) (rval : Int64) (risP : Int32) (cnt : Int32) (look : Int32) (bad : Int32) (byZ : Int32) (inr : Int32) (rpl : Int32) (hld : Int32) (store : Nat → Int32) (tAt : Nat → Int32) (p0 : Int32) (p1 : Int32) {post : Int32 → Prop} (hw : wp_R_byteOf post rsize rval risP cnt look bad byZ inr rpl hld store tAt p0 p1) : k_Ci l y_R_byteOf ws_R_byteOf ({ frames := 0, cells := 0, slots := 0, locals := 0 } : Room) (dC, dI) vwCl (TYr ck) k_x0 [.ref (ad 11), .int p0, .int p1] (wd_R_byteOf ad ck rsize rval risP cnt look bad byZ inr rpl hld store tAt) (fun (r : Int32) (u : Unit) => post r ) (fun (u : Unit) => wd_R_byteOf ad ck rsize rval risP cnt look bad byZ inr rpl hld store tAt) := by
  intro sz
  refine Met.ofW (cc := c_R_byteOf) (maxL := 3) (ret := (some .int)) (by decide) rfl ?_
  intro p e s m args below meth c s₁ B hml hv
  obtain ⟨rfl, hsz, hP, hK, hD0, hX⟩ := hv
  have hx := B.exec
  have hb := B.bytes
  have hr := B.returns
  have hts : ∀ w ∈ TB, w.before _ s = true := fun w h => atoms_spec (ws := ws_R_byteOf) B.pre w (List.mem_cons_of_mem _ h)
  have hown : s.vm.findClass R_R = some m.cls := findClass_of_methodNamed B.named
  have hlocks := B.notSynchronized
  subst hsz
  have hD := hD0.self (sz := s.heap.size)
  generalize hAe : va_A (wd_R_byteOf ad ck rsize rval risP cnt look bad byZ inr rpl hld store tAt) s.heap.size = A at hD hX ⊢
  have hA : ∀ q : Nat, s.heap.size ≤ q → A q := fun q h => by rw [← hAe]; exact Or.inr h
  have hS : va_S A s.heap s.heap [] := va_S.rf
  have hP : va_P (dC, dI) vwCl (wd_R_byteOf ad ck rsize rval risP cnt look bad byZ inr rpl hld store tAt) s.heap := hP
  have hl := lv_entry ([.ref (ad 11), .int p0, .int p1]) (n := 3) (Nat.le_of_ble_eq_true rfl)
  rw [lg_entry_eq]
  generalize (lg_sl ([.ref (ad 11), .int p0, .int p1]) ++ List.replicate (3 - (lg_sl ([.ref (ad 11), .int p0, .int p1])).length) Slot.unset).toArray = ls at hl ⊢
  have hl : lv_has ls 3 [(0, .ref (ad 11)), (1, .int p0), (2, .int p1)] := hl
  refine lv_aload_n hx hb d_R_byteOf_0 rfl (lv_at hl 0 rfl) ?_
  refine va_get (D := (dC, dI)) (ci := 5) (v := .ref (ad 12)) (C := R_R) (T := T_R) (N := 16) hx hb hts in_R hown hK hP 0 rfl rfl 1 (by decide) (hts _ ux_46) (fun _ h9 => h9) rfl d_R_byteOf_1 ?_
  refine lv_aload_n hx hb d_R_byteOf_4 rfl (lv_at hl 0 rfl) ?_
  refine va_get (D := (dC, dI)) (ci := 5) (v := .ref (ad 13)) (C := R_R) (T := T_R) (N := 16) hx hb hts in_R hown hK hP 0 rfl rfl 5 (by decide) (hts _ ux_73) (fun _ h9 => h9) rfl d_R_byteOf_5 ?_
  refine lv_iload_n hx hb d_R_byteOf_8 rfl (lv_at hl 1 rfl) ?_
  obtain ⟨hi_1, hw⟩ := hw
  refine va_iald hx hb hK hP 2 1 rfl rfl hi_1 d_R_byteOf_9 ?_
  refine lv_iload_n hx hb d_R_byteOf_10 rfl (lv_at hl 2 rfl) ?_
  refine lv_iadd hx hb d_R_byteOf_11 ?_
  obtain ⟨hi_2, hw⟩ := hw
  refine va_bald hx hb hK hP 1 0 rfl rfl hi_2 d_R_byteOf_12 ?_
  refine lv_sipush (v := 255) hx hb d_R_byteOf_13 (by decide) ?_
  refine lv_iand hx hb d_R_byteOf_16 ?_
  exact W.iret (v := ((store ((tAt p0.toNatClampNeg) + p1).toNatClampNeg) &&& 255)) hx hb hr (fun t ht hW => ⟨⟨((store ((tAt p0.toNatClampNeg) + p1).toNatClampNeg) &&& 255), (), rfl, hw, by rw [ht]; exact hP, va_K.moved hW.alike hK, hD⟩, hS.F ht⟩) hS.2.2 d_R_byteOf_17

abbrev wd_R_is (ad : Nat → Nat) (ck : Nat → ClassId) (rsize : Int32) (rval : Int64) (risP : Int32) (cnt : Int32) (look : Int32) (bad : Int32) (byZ : Int32) (inr : Int32) (rpl : Int32) (hld : Int32) (store : Nat → Int32) (tAt : Nat → Int32) (tSz : Nat → Int32) : va_W := [(ad 11, .inr (5, [.int rsize, .ref (ad 12), .long rval, .int risP, .int cnt, .ref (ad 13), .ref (ad 14), .int look, .int bad, .int byZ, .int inr, .int rpl, .int hld, .ref (ad 15), .ref (ad 16), .ref (ad 17)])), (ad 12, .inl (ck 6, 4096, .inl store)), (ad 13, .inl (ck 7, 4096, .inl tAt)), (ad 14, .inl (ck 8, 4096, .inl tSz))]
def w_R_is_26 (post : Int32 → Prop) (q1 : Nat) (x1 : Int32) (rsize : Int32) (rval : Int64) (risP : Int32) (cnt : Int32) (look : Int32) (bad : Int32) (byZ : Int32) (inr : Int32) (rpl : Int32) (hld : Int32) (store : Nat → Int32) (tAt : Nat → Int32) (tSz : Nat → Int32) : Nat → Int32 → Int32 → Prop
  | 0 => fun _ _ => False
  | n + 1 => fun x3 x4 => (x3 = 0 → (vz x3 ∧ (post x3))) ∧ (¬ x3 = 0 → (wp_QJS_length (fun (r_4 : Int32) => (r_4 ≤ x4 → (vz x3 ∧ (post x3))) ∧ (¬ r_4 ≤ x4 → (wp_R_byteOf (fun (r_7 : Int32) => wp_QJS_charAt (fun (r_8 : Int32) => (r_7 = r_8 → (∀ x4_11 : Int32, x4_11 = x4 + 1 → (w_R_is_26 post q1 x1 rsize rval risP cnt look bad byZ inr rpl hld store tAt tSz n 1 x4_11))) ∧ (¬ r_7 = r_8 → (∀ x4_10 : Int32, x4_10 = x4 + 1 → (w_R_is_26 post q1 x1 rsize rval risP cnt look bad byZ inr rpl hld store tAt tSz n 0 x4_10)))) q1 x4) rsize rval risP cnt look bad byZ inr rpl hld store tAt x1 x4))) q1))
def wp_R_is (post : Int32 → Prop) (rsize : Int32) (rval : Int64) (risP : Int32) (cnt : Int32) (look : Int32) (bad : Int32) (byZ : Int32) (inr : Int32) (rpl : Int32) (hld : Int32) (store : Nat → Int32) (tAt : Nat → Int32) (tSz : Nat → Int32) (p0 : Int32) (q1 : Nat) : Prop := q1 < NS ∧ ((p0 < 0 → (∃ fu26 : Nat, w_R_is_26 post q1 p0 rsize rval risP cnt look bad byZ inr rpl hld store tAt tSz fu26 0 0)) ∧ (¬ p0 < 0 → (vp_in p0 4096 ∧ (wp_QJS_length (fun (r_13 : Int32) => ((tSz p0.toNatClampNeg) = r_13 → (∃ fu26 : Nat, w_R_is_26 post q1 p0 rsize rval risP cnt look bad byZ inr rpl hld store tAt tSz fu26 1 0)) ∧ (¬ (tSz p0.toNatClampNeg) = r_13 → (∃ fu26 : Nat, w_R_is_26 post q1 p0 rsize rval risP cnt look bad byZ inr rpl hld store tAt tSz fu26 0 0))) q1))))
set_option maxHeartbeats 4000000 in
set_option maxRecDepth 100000 in
theorem kc_R_is (l : Launch) (dC : Nat → ClassId) (dI : Nat → Nat → Nat) (ad : Nat → Nat) (ck : Nat → ClassId) (sa sv : Nat → Nat) (sf : Option Nat) (rsize : Int32) (rval : Int64) (risP : Int32) (cnt : Int32) (look : Int32) (bad : Int32) (byZ : Int32) (inr : Int32) (rpl : Int32) (hld : Int32) (store : Nat → Int32) (tAt : Nat → Int32) (tSz : Nat → Int32) (p0 : Int32) (q1 : Nat) {post : Int32 → Prop} (hw : wp_R_is post rsize rval risP cnt look bad byZ inr rpl hld store tAt tSz p0 q1) : k_Ci l y_R_is ws_R_is ({ frames := 4, cells := 0, slots := 0, locals := 85 } : Room) (dC, dI) vwCl (TYr ck) (XR sa sv sf) [.ref (ad 11), .int p0, .ref (sa q1)] (wd_R_is ad ck rsize rval risP cnt look bad byZ inr rpl hld store tAt tSz) (fun (r : Int32) (u : Unit) => post r ) (fun (u : Unit) => wd_R_is ad ck rsize rval risP cnt look bad byZ inr rpl hld store tAt tSz) := by
  intro sz
  refine Met.ofW (cc := c_R_is) (maxL := 5) (ret := (some .boolean)) (by decide) rfl ?_
  intro p e s m args below meth c s₁ B hml hv
  obtain ⟨rfl, hsz, hP, hK, hD0, hX⟩ := hv
  have hx := B.exec
  have hb := B.bytes
  have hr := B.returns
  have hts : ∀ w ∈ TB, w.before _ s = true := fun w h => atoms_spec (ws := ws_R_is) B.pre w (List.mem_cons_of_mem _ h)
  have hown : s.vm.findClass R_R = some m.cls := findClass_of_methodNamed B.named
  have hlocks := B.notSynchronized
  subst hsz
  have hD := hD0.self (sz := s.heap.size)
  generalize hAe : va_A (wd_R_is ad ck rsize rval risP cnt look bad byZ inr rpl hld store tAt tSz) s.heap.size = A at hD hX ⊢
  have hA : ∀ q : Nat, s.heap.size ≤ q → A q := fun q h => by rw [← hAe]; exact Or.inr h
  have hS : va_S A s.heap s.heap [] := va_S.rf
  have hP : va_P (dC, dI) vwCl (wd_R_is ad ck rsize rval risP cnt look bad byZ inr rpl hld store tAt tSz) s.heap := hP
  have hl := lv_entry ([.ref (ad 11), .int p0, .ref (sa q1)]) (n := 5) (Nat.le_of_ble_eq_true rfl)
  rw [lg_entry_eq]
  generalize (lg_sl ([.ref (ad 11), .int p0, .ref (sa q1)]) ++ List.replicate (5 - (lg_sl ([.ref (ad 11), .int p0, .ref (sa q1)])).length) Slot.unset).toArray = ls at hl ⊢
  have hl : lv_has ls 5 [(0, .ref (ad 11)), (1, .int p0), (2, .ref (sa q1))] := hl
  obtain ⟨hq1, hw⟩ := hw
  have L_26 : ∀ (x1 : Int32) (rsize : Int32) (rval : Int64) (risP : Int32) (cnt : Int32) (look : Int32) (bad : Int32) (byZ : Int32) (inr : Int32) (rpl : Int32) (hld : Int32) (store : Nat → Int32) (tAt : Nat → Int32) (tSz : Nat → Int32) (n : Nat) (x3 : Int32) (x4 : Int32) (H : Heap) (locs : List Loc) (ls : Array Slot), w_R_is_26 post q1 x1 rsize rval risP cnt look bad byZ inr rpl hld store tAt tSz n x3 x4 → va_P (dC, dI) vwCl (wd_R_is ad ck rsize rval risP cnt look bad byZ inr rpl hld store tAt tSz) H → va_D A (wd_R_is ad ck rsize rval risP cnt look bad byZ inr rpl hld store tAt tSz) → va_S A s.heap H locs → lv_has ls 5 [(0, .ref (ad 11)), (1, .int x1), (2, .ref (sa q1)), (3, .int x3), (4, .int x4)] → W p l e (headSpec ws_R_is ({ frames := 4, cells := 0, slots := 0, locals := 85 } : Room)).room s m ([.ref (ad 11), .int p0, .ref (sa q1)] : List Value).toArray below meth c H locs 0 0 (k_Qi below (dC, dI) vwCl (TYr ck) A (fun (r : Int32) (u : Unit) => post r ) (fun (u : Unit) => wd_R_is ad ck rsize rval risP cnt look bad byZ inr rpl hld store tAt tSz) ([.ref (ad 11), .int p0, .ref (sa q1)] : List Value).toArray s) (F0 m 26 ls []) := by
    intro x1 rsize rval risP cnt look bad byZ inr rpl hld store tAt tSz n
    induction n with
    | zero =>
      intro x3 x4 H locs ls hw
      exact False.elim hw
    | succ n ih =>
      intro x3 x4 H locs ls hw hP hD hS hl
      refine lv_iload_n hx hb d_R_is_26 rfl (lv_at hl 3 rfl) ?_
      obtain ⟨hwt, hwf⟩ := hw
      refine lv_if_eq (tgt := 67) hx hb d_R_is_27 (by decide) (fun c_2 => ?_) (fun c_2 => ?_)
      · have hw := hwt c_2
        refine lv_iload_n hx hb d_R_is_67 rfl (lv_at hl 3 rfl) ?_
        obtain ⟨hz_3, hw⟩ := hw
        exact W.zret (v := x3) hx hb hr (vz_n hz_3) (fun t ht hW => ⟨⟨x3, (), rfl, hw, by rw [ht]; exact hP, va_K.moved hW.alike hK, hD⟩, hS.F ht⟩) hS.2.2 d_R_is_68
      · have hw := hwf c_2
        refine lv_iload hx hb d_R_is_30 (lv_at hl 4 rfl) ?_
        refine lv_aload_n hx hb d_R_is_32 rfl (lv_at hl 2 rfl) ?_
        refine k_callVi (As := []) (rest := [.int x4]) (fun (u : Unit) => wd_R_is ad ck rsize rval risP cnt look bad byZ inr rpl hld store tAt tSz) ⟨hx, hb, hml, hown, hts⟩ (kc_QJS_length l dC dI ad ck sa sv sf q1 (hw := hw)) (cwV 0 hts (gV ux_30 ux_32 ux_33 ux_5 ux_31) rfl rfl rfl hd_QJS_length ⟨Nat.le_of_ble_eq_true rfl, Nat.le_of_ble_eq_true rfl⟩) hK hP hD hS hA (XR_c sa sv sf) hX [] [0, 1, 2, 3] [0, 1, 2, 3] rfl rfl (by decide) (by decide) (fun _ => rfl) (st_recv (hX.2.1 q1 hq1).1 hS) rfl hl.1 rfl (lv_room (Nat.le_of_ble_eq_true rfl)) d_R_is_33 ⟨Nat.zero_le _, Nat.zero_le _⟩ ?_
        intro r_4 u H locs hw hP hD hS
        have hP : va_P (dC, dI) vwCl (wd_R_is ad ck rsize rval risP cnt look bad byZ inr rpl hld store tAt tSz) H := hP
        have hD : va_D A (wd_R_is ad ck rsize rval risP cnt look bad byZ inr rpl hld store tAt tSz) := hD
        try dsimp only at hw
        obtain ⟨hwt, hwf⟩ := hw
        refine lv_icmp_ge (tgt := 67) hx hb d_R_is_36 (by decide) (fun c_5 => ?_) (fun c_5 => ?_)
        · have hw := hwt c_5
          refine lv_iload_n hx hb d_R_is_67 rfl (lv_at hl 3 rfl) ?_
          obtain ⟨hz_6, hw⟩ := hw
          exact W.zret (v := x3) hx hb hr (vz_n hz_6) (fun t ht hW => ⟨⟨x3, (), rfl, hw, by rw [ht]; exact hP, va_K.moved hW.alike hK, hD⟩, hS.F ht⟩) hS.2.2 d_R_is_68
        · have hw := hwf c_5
          refine lv_aload_n hx hb d_R_is_39 rfl (lv_at hl 0 rfl) ?_
          refine lv_iload_n hx hb d_R_is_40 rfl (lv_at hl 1 rfl) ?_
          refine lv_iload hx hb d_R_is_41 (lv_at hl 4 rfl) ?_
          refine k_callVi (As := [.int x1, .int x4]) (rest := []) (fun (u : Unit) => wd_R_is ad ck rsize rval risP cnt look bad byZ inr rpl hld store tAt tSz) ⟨hx, hb, hml, hown, hts⟩ (kc_R_byteOf l dC dI ad ck rsize rval risP cnt look bad byZ inr rpl hld store tAt x1 x4 (hw := hw)) (cwV 2 hts (gV ux_79 ux_81 ux_82 ux_49 ux_80) rfl rfl rfl hd_R_byteOf ⟨Nat.le_of_ble_eq_true rfl, Nat.le_of_ble_eq_true rfl⟩) hK hP hD hS hA k_x0c trivial [0, 1, 2] [3] [1, 2, 3, 0] rfl rfl (by decide) (by decide) (fun _ => rfl) (va_recv hK hP (ci := 5) (q0 := 0) rfl rfl) rfl hl.1 rfl (lv_room (Nat.le_of_ble_eq_true rfl)) d_R_is_43 ⟨Nat.zero_le _, Nat.zero_le _⟩ ?_
          intro r_7 u H locs hw hP hD hS
          have hP : va_P (dC, dI) vwCl (wd_R_is ad ck rsize rval risP cnt look bad byZ inr rpl hld store tAt tSz) H := hP
          have hD : va_D A (wd_R_is ad ck rsize rval risP cnt look bad byZ inr rpl hld store tAt tSz) := hD
          try dsimp only at hw
          refine lv_aload_n hx hb d_R_is_46 rfl (lv_at hl 2 rfl) ?_
          refine lv_iload hx hb d_R_is_47 (lv_at hl 4 rfl) ?_
          refine k_callVi (As := [.int x4]) (rest := [.int r_7]) (fun (u : Unit) => wd_R_is ad ck rsize rval risP cnt look bad byZ inr rpl hld store tAt tSz) ⟨hx, hb, hml, hown, hts⟩ (kc_QJS_charAt l dC dI ad ck sa sv sf q1 x4 (hw := hw)) (cwV 1 hts (gV ux_34 ux_36 ux_37 ux_5 ux_35) rfl rfl rfl hd_QJS_charAt ⟨Nat.le_of_ble_eq_true rfl, Nat.le_of_ble_eq_true rfl⟩) hK hP hD hS hA (XR_c sa sv sf) hX [] [0, 1, 2, 3] [0, 1, 2, 3] rfl rfl (by decide) (by decide) (fun _ => rfl) (st_recv (hX.2.1 q1 hq1).1 hS) rfl hl.1 rfl (lv_room (Nat.le_of_ble_eq_true rfl)) d_R_is_49 ⟨Nat.zero_le _, Nat.zero_le _⟩ ?_
          intro r_8 u H locs hw hP hD hS
          have hP : va_P (dC, dI) vwCl (wd_R_is ad ck rsize rval risP cnt look bad byZ inr rpl hld store tAt tSz) H := hP
          have hD : va_D A (wd_R_is ad ck rsize rval risP cnt look bad byZ inr rpl hld store tAt tSz) := hD
          try dsimp only at hw
          obtain ⟨hwt, hwf⟩ := hw
          refine lv_icmp_ne (tgt := 59) hx hb d_R_is_52 (by decide) (fun c_9 => ?_) (fun c_9 => ?_)
          · have hw := hwf c_9
            refine lv_iconst (v := 0) hx hb d_R_is_59 (by decide) ?_
            refine lv_istore_n (lv' := [(3, .int 0), (0, .ref (ad 11)), (1, .int x1), (2, .ref (sa q1)), (4, .int x4)]) hx hb d_R_is_60 rfl hl (by decide) rfl (fun ls hl => ?_)
            obtain ⟨x4_10, ex4_10⟩ : ∃ y : Int32, y = x4 + 1 := ⟨_, rfl⟩
            have hw := hw x4_10 ex4_10
            refine lv_iinc (v := x4_10) (lv' := [(4, .int x4_10), (3, .int 0), (0, .ref (ad 11)), (1, .int x1), (2, .ref (sa q1))]) hx hb d_R_is_61 hl (k := 4) rfl (by rw [ex4_10]; rfl) (by decide) rfl (fun ls hl => ?_)
            refine lv_goto (tgt := 26) hx hb d_R_is_64 (by decide) ?_
            exact ih 0 x4_10 _ _ _ hw hP hD hS (lv_sub hl [2, 3, 4, 1, 0] rfl)
          · have hw := hwt c_9
            refine lv_iconst (v := 1) hx hb d_R_is_55 (by decide) ?_
            refine lv_goto (tgt := 60) hx hb d_R_is_56 (by decide) ?_
            refine lv_istore_n (lv' := [(3, .int 1), (0, .ref (ad 11)), (1, .int x1), (2, .ref (sa q1)), (4, .int x4)]) hx hb d_R_is_60 rfl hl (by decide) rfl (fun ls hl => ?_)
            obtain ⟨x4_11, ex4_11⟩ : ∃ y : Int32, y = x4 + 1 := ⟨_, rfl⟩
            have hw := hw x4_11 ex4_11
            refine lv_iinc (v := x4_11) (lv' := [(4, .int x4_11), (3, .int 1), (0, .ref (ad 11)), (1, .int x1), (2, .ref (sa q1))]) hx hb d_R_is_61 hl (k := 4) rfl (by rw [ex4_11]; rfl) (by decide) rfl (fun ls hl => ?_)
            refine lv_goto (tgt := 26) hx hb d_R_is_64 (by decide) ?_
            exact ih 1 x4_11 _ _ _ hw hP hD hS (lv_sub hl [2, 3, 4, 1, 0] rfl)
  refine lv_iload_n hx hb d_R_is_0 rfl (lv_at hl 1 rfl) ?_
  obtain ⟨hwt, hwf⟩ := hw
  refine lv_if_lt (tgt := 21) hx hb d_R_is_1 (by decide) (fun c_1 => ?_) (fun c_1 => ?_)
  · have hw := hwt c_1
    refine lv_iconst (v := 0) hx hb d_R_is_21 (by decide) ?_
    refine lv_istore_n (lv' := [(3, .int 0), (0, .ref (ad 11)), (1, .int p0), (2, .ref (sa q1))]) hx hb d_R_is_22 rfl hl (by decide) rfl (fun ls hl => ?_)
    refine lv_iconst (v := 0) hx hb d_R_is_23 (by decide) ?_
    refine lv_istore (lv' := [(4, .int 0), (3, .int 0), (0, .ref (ad 11)), (1, .int p0), (2, .ref (sa q1))]) hx hb d_R_is_24 hl (by decide) rfl (fun ls hl => ?_)
    obtain ⟨fu26, hw⟩ := hw
    exact L_26 p0 rsize rval risP cnt look bad byZ inr rpl hld store tAt tSz fu26 0 0 _ _ _ hw hP hD hS (lv_sub hl [2, 3, 4, 1, 0] rfl)
  · have hw := hwf c_1
    refine lv_aload_n hx hb d_R_is_4 rfl (lv_at hl 0 rfl) ?_
    refine va_get (D := (dC, dI)) (ci := 5) (v := .ref (ad 14)) (C := R_R) (T := T_R) (N := 16) hx hb hts in_R hown hK hP 0 rfl rfl 6 (by decide) (hts _ ux_74) (fun _ h9 => h9) rfl d_R_is_5 ?_
    refine lv_iload_n hx hb d_R_is_8 rfl (lv_at hl 1 rfl) ?_
    obtain ⟨hi_12, hw⟩ := hw
    refine va_iald hx hb hK hP 3 2 rfl rfl hi_12 d_R_is_9 ?_
    refine lv_aload_n hx hb d_R_is_10 rfl (lv_at hl 2 rfl) ?_
    refine k_callVi (As := []) (rest := [.int (tSz p0.toNatClampNeg)]) (fun (u : Unit) => wd_R_is ad ck rsize rval risP cnt look bad byZ inr rpl hld store tAt tSz) ⟨hx, hb, hml, hown, hts⟩ (kc_QJS_length l dC dI ad ck sa sv sf q1 (hw := hw)) (cwV 0 hts (gV ux_30 ux_32 ux_33 ux_5 ux_31) rfl rfl rfl hd_QJS_length ⟨Nat.le_of_ble_eq_true rfl, Nat.le_of_ble_eq_true rfl⟩) hK hP hD hS hA (XR_c sa sv sf) hX [] [0, 1, 2, 3] [0, 1, 2, 3] rfl rfl (by decide) (by decide) (fun _ => rfl) (st_recv (hX.2.1 q1 hq1).1 hS) rfl hl.1 rfl (lv_room (Nat.le_of_ble_eq_true rfl)) d_R_is_11 ⟨Nat.zero_le _, Nat.zero_le _⟩ ?_
    intro r_13 u H locs hw hP hD hS
    have hP : va_P (dC, dI) vwCl (wd_R_is ad ck rsize rval risP cnt look bad byZ inr rpl hld store tAt tSz) H := hP
    have hD : va_D A (wd_R_is ad ck rsize rval risP cnt look bad byZ inr rpl hld store tAt tSz) := hD
    try dsimp only at hw
    obtain ⟨hwt, hwf⟩ := hw
    refine lv_icmp_ne (tgt := 21) hx hb d_R_is_14 (by decide) (fun c_14 => ?_) (fun c_14 => ?_)
    · have hw := hwf c_14
      refine lv_iconst (v := 0) hx hb d_R_is_21 (by decide) ?_
      refine lv_istore_n (lv' := [(3, .int 0), (0, .ref (ad 11)), (1, .int p0), (2, .ref (sa q1))]) hx hb d_R_is_22 rfl hl (by decide) rfl (fun ls hl => ?_)
      refine lv_iconst (v := 0) hx hb d_R_is_23 (by decide) ?_
      refine lv_istore (lv' := [(4, .int 0), (3, .int 0), (0, .ref (ad 11)), (1, .int p0), (2, .ref (sa q1))]) hx hb d_R_is_24 hl (by decide) rfl (fun ls hl => ?_)
      obtain ⟨fu26, hw⟩ := hw
      exact L_26 p0 rsize rval risP cnt look bad byZ inr rpl hld store tAt tSz fu26 0 0 _ _ _ hw hP hD hS (lv_sub hl [2, 3, 4, 1, 0] rfl)
    · have hw := hwt c_14
      refine lv_iconst (v := 1) hx hb d_R_is_17 (by decide) ?_
      refine lv_goto (tgt := 22) hx hb d_R_is_18 (by decide) ?_
      refine lv_istore_n (lv' := [(3, .int 1), (0, .ref (ad 11)), (1, .int p0), (2, .ref (sa q1))]) hx hb d_R_is_22 rfl hl (by decide) rfl (fun ls hl => ?_)
      refine lv_iconst (v := 0) hx hb d_R_is_23 (by decide) ?_
      refine lv_istore (lv' := [(4, .int 0), (3, .int 1), (0, .ref (ad 11)), (1, .int p0), (2, .ref (sa q1))]) hx hb d_R_is_24 hl (by decide) rfl (fun ls hl => ?_)
      obtain ⟨fu26, hw⟩ := hw
      exact L_26 p0 rsize rval risP cnt look bad byZ inr rpl hld store tAt tSz fu26 1 0 _ _ _ hw hP hD hS (lv_sub hl [2, 3, 4, 1, 0] rfl)

abbrev wd_R_kindOf (ad : Nat → Nat) (ck : Nat → ClassId) (rsize : Int32) (rval : Int64) (risP : Int32) (cnt : Int32) (look : Int32) (bad : Int32) (byZ : Int32) (inr : Int32) (rpl : Int32) (hld : Int32) (store : Nat → Int32) (tAt : Nat → Int32) (tSz : Nat → Int32) : va_W := [(ad 11, .inr (5, [.int rsize, .ref (ad 12), .long rval, .int risP, .int cnt, .ref (ad 13), .ref (ad 14), .int look, .int bad, .int byZ, .int inr, .int rpl, .int hld, .ref (ad 15), .ref (ad 16), .ref (ad 17)])), (ad 12, .inl (ck 6, 4096, .inl store)), (ad 13, .inl (ck 7, 4096, .inl tAt)), (ad 14, .inl (ck 8, 4096, .inl tSz))]
def w_R_kindOf_59 (post : Int32 → Prop) (x2 : Int32) (x3 : Int32) (z0 : Int32) (rsize : Int32) (rval : Int64) (risP : Int32) (cnt : Int32) (look : Int32) (bad : Int32) (byZ : Int32) (inr : Int32) (rpl : Int32) (hld : Int32) (store : Nat → Int32) (tAt : Nat → Int32) (tSz : Nat → Int32) : Prop := (z0 = 34 → ((z0 = 34 → (post 3)) ∧ (¬ z0 = 34 → (post 4)))) ∧ (¬ z0 = 34 → ((z0 = 39 → ((z0 = 34 → (post 3)) ∧ (¬ z0 = 34 → (post 4)))) ∧ (¬ z0 = 39 → (wp_R_isLetter (fun (r_9 : Int32) => (r_9 = 0 → (wp_R_isDigit (fun (r_11 : Int32) => (r_11 = 0 → ((x2 = 46 → (wp_R_isDigit (fun (r_17 : Int32) => (r_17 = 0 → ((0 ≤ x3 → (post 5)) ∧ (¬ 0 ≤ x3 → (wp_R_isOneOf (fun (r_20 : Int32) => (r_20 = 0 → (post 6)) ∧ (¬ r_20 = 0 → (post 5))) x2 3)))) ∧ (¬ r_17 = 0 → (post 2))) x3)) ∧ (¬ x2 = 46 → ((0 ≤ x3 → (post 5)) ∧ (¬ 0 ≤ x3 → (wp_R_isOneOf (fun (r_15 : Int32) => (r_15 = 0 → (post 6)) ∧ (¬ r_15 = 0 → (post 5))) x2 3)))))) ∧ (¬ r_11 = 0 → (post 2))) x2)) ∧ (¬ r_9 = 0 → (post 1))) x2))))
def w_R_kindOf_27 (post : Int32 → Prop) (x2 : Int32) (z0 : Int32) (rsize : Int32) (rval : Int64) (risP : Int32) (cnt : Int32) (look : Int32) (bad : Int32) (byZ : Int32) (inr : Int32) (rpl : Int32) (hld : Int32) (store : Nat → Int32) (tAt : Nat → Int32) (tSz : Nat → Int32) : Prop := (x2 = 76 → ((z0 = 34 → (w_R_kindOf_59 post x2 z0 z0 rsize rval risP cnt look bad byZ inr rpl hld store tAt tSz)) ∧ (¬ z0 = 34 → ((z0 = 39 → (w_R_kindOf_59 post x2 z0 z0 rsize rval risP cnt look bad byZ inr rpl hld store tAt tSz)) ∧ (¬ z0 = 39 → ((z0 < 0 → (w_R_kindOf_59 post x2 z0 (-1) rsize rval risP cnt look bad byZ inr rpl hld store tAt tSz)) ∧ (¬ z0 < 0 → (w_R_kindOf_59 post x2 z0 x2 rsize rval risP cnt look bad byZ inr rpl hld store tAt tSz)))))))) ∧ (¬ x2 = 76 → ((z0 < 0 → (w_R_kindOf_59 post x2 z0 (-1) rsize rval risP cnt look bad byZ inr rpl hld store tAt tSz)) ∧ (¬ z0 < 0 → (w_R_kindOf_59 post x2 z0 x2 rsize rval risP cnt look bad byZ inr rpl hld store tAt tSz))))
def wp_R_kindOf (post : Int32 → Prop) (rsize : Int32) (rval : Int64) (risP : Int32) (cnt : Int32) (look : Int32) (bad : Int32) (byZ : Int32) (inr : Int32) (rpl : Int32) (hld : Int32) (store : Nat → Int32) (tAt : Nat → Int32) (tSz : Nat → Int32) (p0 : Int32) : Prop := wp_R_byteOf (fun (r_1 : Int32) => vp_in p0 4096 ∧ (((tSz p0.toNatClampNeg) ≤ 1 → (w_R_kindOf_27 post r_1 (-1) rsize rval risP cnt look bad byZ inr rpl hld store tAt tSz)) ∧ (¬ (tSz p0.toNatClampNeg) ≤ 1 → (wp_R_byteOf (fun (r_26 : Int32) => w_R_kindOf_27 post r_1 r_26 rsize rval risP cnt look bad byZ inr rpl hld store tAt tSz) rsize rval risP cnt look bad byZ inr rpl hld store tAt p0 1)))) rsize rval risP cnt look bad byZ inr rpl hld store tAt p0 0
set_option maxHeartbeats 4000000 in
set_option maxRecDepth 100000 in
theorem kc_R_kindOf (l : Launch) (dC : Nat → ClassId) (dI : Nat → Nat → Nat) (ad : Nat → Nat) (ck : Nat → ClassId) (sa sv : Nat → Nat) (sf : Option Nat) (rsize : Int32) (rval : Int64) (risP : Int32) (cnt : Int32) (look : Int32) (bad : Int32) (byZ : Int32) (inr : Int32) (rpl : Int32) (hld : Int32) (store : Nat → Int32) (tAt : Nat → Int32) (tSz : Nat → Int32) (p0 : Int32) {post : Int32 → Prop} (hw : wp_R_kindOf post rsize rval risP cnt look bad byZ inr rpl hld store tAt tSz p0) : k_Ci l y_R_kindOf ws_R_kindOf ({ frames := 5, cells := 0, slots := 0, locals := 108 } : Room) (dC, dI) vwCl (TYr ck) (XR sa sv sf) [.ref (ad 11), .int p0] (wd_R_kindOf ad ck rsize rval risP cnt look bad byZ inr rpl hld store tAt tSz) (fun (r : Int32) (u : Unit) => post r ) (fun (u : Unit) => wd_R_kindOf ad ck rsize rval risP cnt look bad byZ inr rpl hld store tAt tSz) := by
  intro sz
  refine Met.ofW (cc := c_R_kindOf) (maxL := 5) (ret := (some .int)) (by decide) rfl ?_
  intro p e s m args below meth c s₁ B hml hv
  obtain ⟨rfl, hsz, hP, hK, hD0, hX⟩ := hv
  have hx := B.exec
  have hb := B.bytes
  have hr := B.returns
  have hts : ∀ w ∈ TB, w.before _ s = true := fun w h => atoms_spec (ws := ws_R_kindOf) B.pre w (List.mem_cons_of_mem _ h)
  have hown : s.vm.findClass R_R = some m.cls := findClass_of_methodNamed B.named
  have hlocks := B.notSynchronized
  subst hsz
  have hD := hD0.self (sz := s.heap.size)
  generalize hAe : va_A (wd_R_kindOf ad ck rsize rval risP cnt look bad byZ inr rpl hld store tAt tSz) s.heap.size = A at hD hX ⊢
  have hA : ∀ q : Nat, s.heap.size ≤ q → A q := fun q h => by rw [← hAe]; exact Or.inr h
  have hS : va_S A s.heap s.heap [] := va_S.rf
  have hP : va_P (dC, dI) vwCl (wd_R_kindOf ad ck rsize rval risP cnt look bad byZ inr rpl hld store tAt tSz) s.heap := hP
  have hl := lv_entry ([.ref (ad 11), .int p0]) (n := 5) (Nat.le_of_ble_eq_true rfl)
  rw [lg_entry_eq]
  generalize (lg_sl ([.ref (ad 11), .int p0]) ++ List.replicate (5 - (lg_sl ([.ref (ad 11), .int p0])).length) Slot.unset).toArray = ls at hl ⊢
  have hl : lv_has ls 5 [(0, .ref (ad 11)), (1, .int p0)] := hl
  have L_59 : ∀ (x2 : Int32) (x3 : Int32) (z0 : Int32) (rsize : Int32) (rval : Int64) (risP : Int32) (cnt : Int32) (look : Int32) (bad : Int32) (byZ : Int32) (inr : Int32) (rpl : Int32) (hld : Int32) (store : Nat → Int32) (tAt : Nat → Int32) (tSz : Nat → Int32) (H : Heap) (locs : List Loc) (ls : Array Slot), w_R_kindOf_59 post x2 x3 z0 rsize rval risP cnt look bad byZ inr rpl hld store tAt tSz → va_P (dC, dI) vwCl (wd_R_kindOf ad ck rsize rval risP cnt look bad byZ inr rpl hld store tAt tSz) H → va_D A (wd_R_kindOf ad ck rsize rval risP cnt look bad byZ inr rpl hld store tAt tSz) → va_S A s.heap H locs → lv_has ls 5 [(2, .int x2), (3, .int x3)] → W p l e (headSpec ws_R_kindOf ({ frames := 5, cells := 0, slots := 0, locals := 108 } : Room)).room s m ([.ref (ad 11), .int p0] : List Value).toArray below meth c H locs 0 0 (k_Qi below (dC, dI) vwCl (TYr ck) A (fun (r : Int32) (u : Unit) => post r ) (fun (u : Unit) => wd_R_kindOf ad ck rsize rval risP cnt look bad byZ inr rpl hld store tAt tSz) ([.ref (ad 11), .int p0] : List Value).toArray s) (F0 m 59 ls [.int z0]) := by
    intro x2 x3 z0 rsize rval risP cnt look bad byZ inr rpl hld store tAt tSz H locs ls hw hP hD hS hl
    refine lv_istore (lv' := [(4, .int z0), (2, .int x2), (3, .int x3)]) hx hb d_R_kindOf_59 hl (by decide) rfl (fun ls hl => ?_)
    refine lv_iload hx hb d_R_kindOf_61 (lv_at hl 0 rfl) ?_
    refine lv_bipush (v := 34) hx hb d_R_kindOf_63 (by decide) ?_
    obtain ⟨hwt, hwf⟩ := hw
    refine lv_icmp_eq (tgt := 75) hx hb d_R_kindOf_65 (by decide) (fun c_6 => ?_) (fun c_6 => ?_)
    · have hw := hwt c_6
      refine lv_iload hx hb d_R_kindOf_75 (lv_at hl 0 rfl) ?_
      refine lv_bipush (v := 34) hx hb d_R_kindOf_77 (by decide) ?_
      obtain ⟨hwt, hwf⟩ := hw
      refine lv_icmp_ne (tgt := 86) hx hb d_R_kindOf_79 (by decide) (fun c_7 => ?_) (fun c_7 => ?_)
      · have hw := hwf c_7
        refine lv_iconst (v := 4) hx hb d_R_kindOf_86 (by decide) ?_
        exact W.iret (v := 4) hx hb hr (fun t ht hW => ⟨⟨4, (), rfl, hw, by rw [ht]; exact hP, va_K.moved hW.alike hK, hD⟩, hS.F ht⟩) hS.2.2 d_R_kindOf_87
      · have hw := hwt c_7
        refine lv_iconst (v := 3) hx hb d_R_kindOf_82 (by decide) ?_
        refine lv_goto (tgt := 87) hx hb d_R_kindOf_83 (by decide) ?_
        exact W.iret (v := 3) hx hb hr (fun t ht hW => ⟨⟨3, (), rfl, hw, by rw [ht]; exact hP, va_K.moved hW.alike hK, hD⟩, hS.F ht⟩) hS.2.2 d_R_kindOf_87
    · have hw := hwf c_6
      refine lv_iload hx hb d_R_kindOf_68 (lv_at hl 0 rfl) ?_
      refine lv_bipush (v := 39) hx hb d_R_kindOf_70 (by decide) ?_
      obtain ⟨hwt, hwf⟩ := hw
      refine lv_icmp_ne (tgt := 88) hx hb d_R_kindOf_72 (by decide) (fun c_8 => ?_) (fun c_8 => ?_)
      · have hw := hwf c_8
        refine lv_iload_n hx hb d_R_kindOf_88 rfl (lv_at hl 1 rfl) ?_
        refine k_callSi (As := [.int x2]) (rest := []) (fun (u : Unit) => wd_R_kindOf ad ck rsize rval risP cnt look bad byZ inr rpl hld store tAt tSz) ⟨hx, hb, hml, hown, hts⟩ (kc_R_isLetter l dC dI ad ck x2 (hw := hw)) (va_cwS 1 hts (gS ux_58 ux_60 ux_49 ux_59) rfl rfl rfl hd_R_isLetter ⟨Nat.le_of_ble_eq_true rfl, Nat.le_of_ble_eq_true rfl⟩) hK hP hD hS hA k_x0c trivial [] [0, 1, 2, 3] [0, 1, 2, 3] rfl rfl (by decide) (by decide) (fun _ => rfl) rfl hl.1 rfl (lv_room (Nat.le_of_ble_eq_true rfl)) d_R_kindOf_89 ⟨Nat.zero_le _, Nat.zero_le _⟩ ?_
        intro r_9 u H locs hw hP hD hS
        have hP : va_P (dC, dI) vwCl (wd_R_kindOf ad ck rsize rval risP cnt look bad byZ inr rpl hld store tAt tSz) H := hP
        have hD : va_D A (wd_R_kindOf ad ck rsize rval risP cnt look bad byZ inr rpl hld store tAt tSz) := hD
        try dsimp only at hw
        obtain ⟨hwt, hwf⟩ := hw
        refine lv_if_eq (tgt := 97) hx hb d_R_kindOf_92 (by decide) (fun c_10 => ?_) (fun c_10 => ?_)
        · have hw := hwt c_10
          refine lv_iload_n hx hb d_R_kindOf_97 rfl (lv_at hl 1 rfl) ?_
          refine k_callSi (As := [.int x2]) (rest := []) (fun (u : Unit) => wd_R_kindOf ad ck rsize rval risP cnt look bad byZ inr rpl hld store tAt tSz) ⟨hx, hb, hml, hown, hts⟩ (kc_R_isDigit l dC dI ad ck x2 (hw := hw)) (va_cwS 1 hts (gS ux_61 ux_63 ux_49 ux_62) rfl rfl rfl hd_R_isDigit ⟨Nat.le_of_ble_eq_true rfl, Nat.le_of_ble_eq_true rfl⟩) hK hP hD hS hA k_x0c trivial [] [0, 1, 2, 3] [0, 1, 2, 3] rfl rfl (by decide) (by decide) (fun _ => rfl) rfl hl.1 rfl (lv_room (Nat.le_of_ble_eq_true rfl)) d_R_kindOf_98 ⟨Nat.zero_le _, Nat.zero_le _⟩ ?_
          intro r_11 u H locs hw hP hD hS
          have hP : va_P (dC, dI) vwCl (wd_R_kindOf ad ck rsize rval risP cnt look bad byZ inr rpl hld store tAt tSz) H := hP
          have hD : va_D A (wd_R_kindOf ad ck rsize rval risP cnt look bad byZ inr rpl hld store tAt tSz) := hD
          try dsimp only at hw
          obtain ⟨hwt, hwf⟩ := hw
          refine lv_if_ne (tgt := 117) hx hb d_R_kindOf_101 (by decide) (fun c_12 => ?_) (fun c_12 => ?_)
          · have hw := hwf c_12
            refine lv_iconst (v := 2) hx hb d_R_kindOf_117 (by decide) ?_
            refine lv_goto (tgt := 140) hx hb d_R_kindOf_118 (by decide) ?_
            exact W.iret (v := 2) hx hb hr (fun t ht hW => ⟨⟨2, (), rfl, hw, by rw [ht]; exact hP, va_K.moved hW.alike hK, hD⟩, hS.F ht⟩) hS.2.2 d_R_kindOf_140
          · have hw := hwt c_12
            refine lv_iload_n hx hb d_R_kindOf_104 rfl (lv_at hl 1 rfl) ?_
            refine lv_bipush (v := 46) hx hb d_R_kindOf_105 (by decide) ?_
            obtain ⟨hwt, hwf⟩ := hw
            refine lv_icmp_ne (tgt := 121) hx hb d_R_kindOf_107 (by decide) (fun c_13 => ?_) (fun c_13 => ?_)
            · have hw := hwf c_13
              refine lv_iload_n hx hb d_R_kindOf_121 rfl (lv_at hl 2 rfl) ?_
              obtain ⟨hwt, hwf⟩ := hw
              refine lv_if_ge (tgt := 134) hx hb d_R_kindOf_122 (by decide) (fun c_14 => ?_) (fun c_14 => ?_)
              · have hw := hwt c_14
                refine lv_iconst (v := 5) hx hb d_R_kindOf_134 (by decide) ?_
                refine lv_goto (tgt := 140) hx hb d_R_kindOf_135 (by decide) ?_
                exact W.iret (v := 5) hx hb hr (fun t ht hW => ⟨⟨5, (), rfl, hw, by rw [ht]; exact hP, va_K.moved hW.alike hK, hD⟩, hS.F ht⟩) hS.2.2 d_R_kindOf_140
              · have hw := hwf c_14
                refine lv_iload_n hx hb d_R_kindOf_125 rfl (lv_at hl 1 rfl) ?_
                refine va_ldcS hx hb hown (hX.1 _ rs_3) d_R_kindOf_126 ?_
                refine k_callSi (As := [.int x2, .ref (sa 3)]) (rest := []) (fun (u : Unit) => wd_R_kindOf ad ck rsize rval risP cnt look bad byZ inr rpl hld store tAt tSz) ⟨hx, hb, hml, hown, hts⟩ (kc_R_isOneOf l dC dI ad ck sa sv sf x2 3 (hw := hw)) (va_cwS 2 hts (gS ux_51 ux_53 ux_49 ux_52) rfl rfl rfl hd_R_isOneOf ⟨Nat.le_of_ble_eq_true rfl, Nat.le_of_ble_eq_true rfl⟩) hK hP hD hS hA (XR_c sa sv sf) hX [] [0, 1, 2, 3] [0, 1, 2, 3] rfl rfl (by decide) (by decide) (fun _ => rfl) rfl hl.1 rfl (lv_room (Nat.le_of_ble_eq_true rfl)) d_R_kindOf_128 ⟨Nat.zero_le _, Nat.zero_le _⟩ ?_
                intro r_15 u H locs hw hP hD hS
                have hP : va_P (dC, dI) vwCl (wd_R_kindOf ad ck rsize rval risP cnt look bad byZ inr rpl hld store tAt tSz) H := hP
                have hD : va_D A (wd_R_kindOf ad ck rsize rval risP cnt look bad byZ inr rpl hld store tAt tSz) := hD
                try dsimp only at hw
                obtain ⟨hwt, hwf⟩ := hw
                refine lv_if_eq (tgt := 138) hx hb d_R_kindOf_131 (by decide) (fun c_16 => ?_) (fun c_16 => ?_)
                · have hw := hwt c_16
                  refine lv_bipush (v := 6) hx hb d_R_kindOf_138 (by decide) ?_
                  exact W.iret (v := 6) hx hb hr (fun t ht hW => ⟨⟨6, (), rfl, hw, by rw [ht]; exact hP, va_K.moved hW.alike hK, hD⟩, hS.F ht⟩) hS.2.2 d_R_kindOf_140
                · have hw := hwf c_16
                  refine lv_iconst (v := 5) hx hb d_R_kindOf_134 (by decide) ?_
                  refine lv_goto (tgt := 140) hx hb d_R_kindOf_135 (by decide) ?_
                  exact W.iret (v := 5) hx hb hr (fun t ht hW => ⟨⟨5, (), rfl, hw, by rw [ht]; exact hP, va_K.moved hW.alike hK, hD⟩, hS.F ht⟩) hS.2.2 d_R_kindOf_140
            · have hw := hwt c_13
              refine lv_iload_n hx hb d_R_kindOf_110 rfl (lv_at hl 2 rfl) ?_
              refine k_callSi (As := [.int x3]) (rest := []) (fun (u : Unit) => wd_R_kindOf ad ck rsize rval risP cnt look bad byZ inr rpl hld store tAt tSz) ⟨hx, hb, hml, hown, hts⟩ (kc_R_isDigit l dC dI ad ck x3 (hw := hw)) (va_cwS 1 hts (gS ux_61 ux_63 ux_49 ux_62) rfl rfl rfl hd_R_isDigit ⟨Nat.le_of_ble_eq_true rfl, Nat.le_of_ble_eq_true rfl⟩) hK hP hD hS hA k_x0c trivial [] [0, 1, 2, 3] [0, 1, 2, 3] rfl rfl (by decide) (by decide) (fun _ => rfl) rfl hl.1 rfl (lv_room (Nat.le_of_ble_eq_true rfl)) d_R_kindOf_111 ⟨Nat.zero_le _, Nat.zero_le _⟩ ?_
              intro r_17 u H locs hw hP hD hS
              have hP : va_P (dC, dI) vwCl (wd_R_kindOf ad ck rsize rval risP cnt look bad byZ inr rpl hld store tAt tSz) H := hP
              have hD : va_D A (wd_R_kindOf ad ck rsize rval risP cnt look bad byZ inr rpl hld store tAt tSz) := hD
              try dsimp only at hw
              obtain ⟨hwt, hwf⟩ := hw
              refine lv_if_eq (tgt := 121) hx hb d_R_kindOf_114 (by decide) (fun c_18 => ?_) (fun c_18 => ?_)
              · have hw := hwt c_18
                refine lv_iload_n hx hb d_R_kindOf_121 rfl (lv_at hl 2 rfl) ?_
                obtain ⟨hwt, hwf⟩ := hw
                refine lv_if_ge (tgt := 134) hx hb d_R_kindOf_122 (by decide) (fun c_19 => ?_) (fun c_19 => ?_)
                · have hw := hwt c_19
                  refine lv_iconst (v := 5) hx hb d_R_kindOf_134 (by decide) ?_
                  refine lv_goto (tgt := 140) hx hb d_R_kindOf_135 (by decide) ?_
                  exact W.iret (v := 5) hx hb hr (fun t ht hW => ⟨⟨5, (), rfl, hw, by rw [ht]; exact hP, va_K.moved hW.alike hK, hD⟩, hS.F ht⟩) hS.2.2 d_R_kindOf_140
                · have hw := hwf c_19
                  refine lv_iload_n hx hb d_R_kindOf_125 rfl (lv_at hl 1 rfl) ?_
                  refine va_ldcS hx hb hown (hX.1 _ rs_3) d_R_kindOf_126 ?_
                  refine k_callSi (As := [.int x2, .ref (sa 3)]) (rest := []) (fun (u : Unit) => wd_R_kindOf ad ck rsize rval risP cnt look bad byZ inr rpl hld store tAt tSz) ⟨hx, hb, hml, hown, hts⟩ (kc_R_isOneOf l dC dI ad ck sa sv sf x2 3 (hw := hw)) (va_cwS 2 hts (gS ux_51 ux_53 ux_49 ux_52) rfl rfl rfl hd_R_isOneOf ⟨Nat.le_of_ble_eq_true rfl, Nat.le_of_ble_eq_true rfl⟩) hK hP hD hS hA (XR_c sa sv sf) hX [] [0, 1, 2, 3] [0, 1, 2, 3] rfl rfl (by decide) (by decide) (fun _ => rfl) rfl hl.1 rfl (lv_room (Nat.le_of_ble_eq_true rfl)) d_R_kindOf_128 ⟨Nat.zero_le _, Nat.zero_le _⟩ ?_
                  intro r_20 u H locs hw hP hD hS
                  have hP : va_P (dC, dI) vwCl (wd_R_kindOf ad ck rsize rval risP cnt look bad byZ inr rpl hld store tAt tSz) H := hP
                  have hD : va_D A (wd_R_kindOf ad ck rsize rval risP cnt look bad byZ inr rpl hld store tAt tSz) := hD
                  try dsimp only at hw
                  obtain ⟨hwt, hwf⟩ := hw
                  refine lv_if_eq (tgt := 138) hx hb d_R_kindOf_131 (by decide) (fun c_21 => ?_) (fun c_21 => ?_)
                  · have hw := hwt c_21
                    refine lv_bipush (v := 6) hx hb d_R_kindOf_138 (by decide) ?_
                    exact W.iret (v := 6) hx hb hr (fun t ht hW => ⟨⟨6, (), rfl, hw, by rw [ht]; exact hP, va_K.moved hW.alike hK, hD⟩, hS.F ht⟩) hS.2.2 d_R_kindOf_140
                  · have hw := hwf c_21
                    refine lv_iconst (v := 5) hx hb d_R_kindOf_134 (by decide) ?_
                    refine lv_goto (tgt := 140) hx hb d_R_kindOf_135 (by decide) ?_
                    exact W.iret (v := 5) hx hb hr (fun t ht hW => ⟨⟨5, (), rfl, hw, by rw [ht]; exact hP, va_K.moved hW.alike hK, hD⟩, hS.F ht⟩) hS.2.2 d_R_kindOf_140
              · have hw := hwf c_18
                refine lv_iconst (v := 2) hx hb d_R_kindOf_117 (by decide) ?_
                refine lv_goto (tgt := 140) hx hb d_R_kindOf_118 (by decide) ?_
                exact W.iret (v := 2) hx hb hr (fun t ht hW => ⟨⟨2, (), rfl, hw, by rw [ht]; exact hP, va_K.moved hW.alike hK, hD⟩, hS.F ht⟩) hS.2.2 d_R_kindOf_140
        · have hw := hwf c_10
          refine lv_iconst (v := 1) hx hb d_R_kindOf_95 (by decide) ?_
          exact W.iret (v := 1) hx hb hr (fun t ht hW => ⟨⟨1, (), rfl, hw, by rw [ht]; exact hP, va_K.moved hW.alike hK, hD⟩, hS.F ht⟩) hS.2.2 d_R_kindOf_96
      · have hw := hwt c_8
        refine lv_iload hx hb d_R_kindOf_75 (lv_at hl 0 rfl) ?_
        refine lv_bipush (v := 34) hx hb d_R_kindOf_77 (by decide) ?_
        obtain ⟨hwt, hwf⟩ := hw
        refine lv_icmp_ne (tgt := 86) hx hb d_R_kindOf_79 (by decide) (fun c_22 => ?_) (fun c_22 => ?_)
        · have hw := hwf c_22
          refine lv_iconst (v := 4) hx hb d_R_kindOf_86 (by decide) ?_
          exact W.iret (v := 4) hx hb hr (fun t ht hW => ⟨⟨4, (), rfl, hw, by rw [ht]; exact hP, va_K.moved hW.alike hK, hD⟩, hS.F ht⟩) hS.2.2 d_R_kindOf_87
        · have hw := hwt c_22
          refine lv_iconst (v := 3) hx hb d_R_kindOf_82 (by decide) ?_
          refine lv_goto (tgt := 87) hx hb d_R_kindOf_83 (by decide) ?_
          exact W.iret (v := 3) hx hb hr (fun t ht hW => ⟨⟨3, (), rfl, hw, by rw [ht]; exact hP, va_K.moved hW.alike hK, hD⟩, hS.F ht⟩) hS.2.2 d_R_kindOf_87
  have L_27 : ∀ (x2 : Int32) (z0 : Int32) (rsize : Int32) (rval : Int64) (risP : Int32) (cnt : Int32) (look : Int32) (bad : Int32) (byZ : Int32) (inr : Int32) (rpl : Int32) (hld : Int32) (store : Nat → Int32) (tAt : Nat → Int32) (tSz : Nat → Int32) (H : Heap) (locs : List Loc) (ls : Array Slot), w_R_kindOf_27 post x2 z0 rsize rval risP cnt look bad byZ inr rpl hld store tAt tSz → va_P (dC, dI) vwCl (wd_R_kindOf ad ck rsize rval risP cnt look bad byZ inr rpl hld store tAt tSz) H → va_D A (wd_R_kindOf ad ck rsize rval risP cnt look bad byZ inr rpl hld store tAt tSz) → va_S A s.heap H locs → lv_has ls 5 [(2, .int x2)] → W p l e (headSpec ws_R_kindOf ({ frames := 5, cells := 0, slots := 0, locals := 108 } : Room)).room s m ([.ref (ad 11), .int p0] : List Value).toArray below meth c H locs 0 0 (k_Qi below (dC, dI) vwCl (TYr ck) A (fun (r : Int32) (u : Unit) => post r ) (fun (u : Unit) => wd_R_kindOf ad ck rsize rval risP cnt look bad byZ inr rpl hld store tAt tSz) ([.ref (ad 11), .int p0] : List Value).toArray s) (F0 m 27 ls [.int z0]) := by
    intro x2 z0 rsize rval risP cnt look bad byZ inr rpl hld store tAt tSz H locs ls hw hP hD hS hl
    refine lv_istore_n (lv' := [(3, .int z0), (2, .int x2)]) hx hb d_R_kindOf_27 rfl hl (by decide) rfl (fun ls hl => ?_)
    refine lv_iload_n hx hb d_R_kindOf_28 rfl (lv_at hl 1 rfl) ?_
    refine lv_bipush (v := 76) hx hb d_R_kindOf_29 (by decide) ?_
    obtain ⟨hwt, hwf⟩ := hw
    refine lv_icmp_ne (tgt := 50) hx hb d_R_kindOf_31 (by decide) (fun c_4 => ?_) (fun c_4 => ?_)
    · have hw := hwf c_4
      refine lv_iload_n hx hb d_R_kindOf_50 rfl (lv_at hl 0 rfl) ?_
      obtain ⟨hwt, hwf⟩ := hw
      refine lv_if_lt (tgt := 58) hx hb d_R_kindOf_51 (by decide) (fun c_5 => ?_) (fun c_5 => ?_)
      · have hw := hwt c_5
        refine lv_iconst (v := (-1)) hx hb d_R_kindOf_58 (by decide) ?_
        exact L_59 x2 z0 (-1) rsize rval risP cnt look bad byZ inr rpl hld store tAt tSz _ _ _ hw hP hD hS (lv_sub hl [1, 0] rfl)
      · have hw := hwf c_5
        refine lv_iload_n hx hb d_R_kindOf_54 rfl (lv_at hl 1 rfl) ?_
        refine lv_goto (tgt := 59) hx hb d_R_kindOf_55 (by decide) ?_
        exact L_59 x2 z0 x2 rsize rval risP cnt look bad byZ inr rpl hld store tAt tSz _ _ _ hw hP hD hS (lv_sub hl [1, 0] rfl)
    · have hw := hwt c_4
      refine lv_iload_n hx hb d_R_kindOf_34 rfl (lv_at hl 0 rfl) ?_
      refine lv_bipush (v := 34) hx hb d_R_kindOf_35 (by decide) ?_
      obtain ⟨hwt, hwf⟩ := hw
      refine lv_icmp_eq (tgt := 46) hx hb d_R_kindOf_37 (by decide) (fun c_23 => ?_) (fun c_23 => ?_)
      · have hw := hwt c_23
        refine lv_iload_n hx hb d_R_kindOf_46 rfl (lv_at hl 0 rfl) ?_
        refine lv_goto (tgt := 59) hx hb d_R_kindOf_47 (by decide) ?_
        exact L_59 x2 z0 z0 rsize rval risP cnt look bad byZ inr rpl hld store tAt tSz _ _ _ hw hP hD hS (lv_sub hl [1, 0] rfl)
      · have hw := hwf c_23
        refine lv_iload_n hx hb d_R_kindOf_40 rfl (lv_at hl 0 rfl) ?_
        refine lv_bipush (v := 39) hx hb d_R_kindOf_41 (by decide) ?_
        obtain ⟨hwt, hwf⟩ := hw
        refine lv_icmp_ne (tgt := 50) hx hb d_R_kindOf_43 (by decide) (fun c_24 => ?_) (fun c_24 => ?_)
        · have hw := hwf c_24
          refine lv_iload_n hx hb d_R_kindOf_50 rfl (lv_at hl 0 rfl) ?_
          obtain ⟨hwt, hwf⟩ := hw
          refine lv_if_lt (tgt := 58) hx hb d_R_kindOf_51 (by decide) (fun c_25 => ?_) (fun c_25 => ?_)
          · have hw := hwt c_25
            refine lv_iconst (v := (-1)) hx hb d_R_kindOf_58 (by decide) ?_
            exact L_59 x2 z0 (-1) rsize rval risP cnt look bad byZ inr rpl hld store tAt tSz _ _ _ hw hP hD hS (lv_sub hl [1, 0] rfl)
          · have hw := hwf c_25
            refine lv_iload_n hx hb d_R_kindOf_54 rfl (lv_at hl 1 rfl) ?_
            refine lv_goto (tgt := 59) hx hb d_R_kindOf_55 (by decide) ?_
            exact L_59 x2 z0 x2 rsize rval risP cnt look bad byZ inr rpl hld store tAt tSz _ _ _ hw hP hD hS (lv_sub hl [1, 0] rfl)
        · have hw := hwt c_24
          refine lv_iload_n hx hb d_R_kindOf_46 rfl (lv_at hl 0 rfl) ?_
          refine lv_goto (tgt := 59) hx hb d_R_kindOf_47 (by decide) ?_
          exact L_59 x2 z0 z0 rsize rval risP cnt look bad byZ inr rpl hld store tAt tSz _ _ _ hw hP hD hS (lv_sub hl [1, 0] rfl)
  refine lv_aload_n hx hb d_R_kindOf_0 rfl (lv_at hl 0 rfl) ?_
  refine lv_iload_n hx hb d_R_kindOf_1 rfl (lv_at hl 1 rfl) ?_
  refine lv_iconst (v := 0) hx hb d_R_kindOf_2 (by decide) ?_
  refine k_callVi (As := [.int p0, .int 0]) (rest := []) (fun (u : Unit) => wd_R_kindOf ad ck rsize rval risP cnt look bad byZ inr rpl hld store tAt tSz) ⟨hx, hb, hml, hown, hts⟩ (kc_R_byteOf l dC dI ad ck rsize rval risP cnt look bad byZ inr rpl hld store tAt p0 0 (hw := hw)) (cwV 2 hts (gV ux_79 ux_81 ux_82 ux_49 ux_80) rfl rfl rfl hd_R_byteOf ⟨Nat.le_of_ble_eq_true rfl, Nat.le_of_ble_eq_true rfl⟩) hK hP hD hS hA k_x0c trivial [0, 1, 2] [3] [1, 2, 3, 0] rfl rfl (by decide) (by decide) (fun _ => rfl) (va_recv hK hP (ci := 5) (q0 := 0) rfl rfl) rfl hl.1 rfl (lv_room (Nat.le_of_ble_eq_true rfl)) d_R_kindOf_3 ⟨Nat.zero_le _, Nat.zero_le _⟩ ?_
  intro r_1 u H locs hw hP hD hS
  have hP : va_P (dC, dI) vwCl (wd_R_kindOf ad ck rsize rval risP cnt look bad byZ inr rpl hld store tAt tSz) H := hP
  have hD : va_D A (wd_R_kindOf ad ck rsize rval risP cnt look bad byZ inr rpl hld store tAt tSz) := hD
  try dsimp only at hw
  refine lv_istore_n (lv' := [(2, .int r_1), (0, .ref (ad 11)), (1, .int p0)]) hx hb d_R_kindOf_6 rfl hl (by decide) rfl (fun ls hl => ?_)
  refine lv_aload_n hx hb d_R_kindOf_7 rfl (lv_at hl 1 rfl) ?_
  refine va_get (D := (dC, dI)) (ci := 5) (v := .ref (ad 14)) (C := R_R) (T := T_R) (N := 16) hx hb hts in_R hown hK hP 0 rfl rfl 6 (by decide) (hts _ ux_74) (fun _ h9 => h9) rfl d_R_kindOf_8 ?_
  refine lv_iload_n hx hb d_R_kindOf_11 rfl (lv_at hl 2 rfl) ?_
  obtain ⟨hi_2, hw⟩ := hw
  refine va_iald hx hb hK hP 3 2 rfl rfl hi_2 d_R_kindOf_12 ?_
  refine lv_iconst (v := 1) hx hb d_R_kindOf_13 (by decide) ?_
  obtain ⟨hwt, hwf⟩ := hw
  refine lv_icmp_le (tgt := 26) hx hb d_R_kindOf_14 (by decide) (fun c_3 => ?_) (fun c_3 => ?_)
  · have hw := hwt c_3
    refine lv_iconst (v := (-1)) hx hb d_R_kindOf_26 (by decide) ?_
    exact L_27 r_1 (-1) rsize rval risP cnt look bad byZ inr rpl hld store tAt tSz _ _ _ hw hP hD hS (lv_sub hl [0] rfl)
  · have hw := hwf c_3
    refine lv_aload_n hx hb d_R_kindOf_17 rfl (lv_at hl 1 rfl) ?_
    refine lv_iload_n hx hb d_R_kindOf_18 rfl (lv_at hl 2 rfl) ?_
    refine lv_iconst (v := 1) hx hb d_R_kindOf_19 (by decide) ?_
    refine k_callVi (As := [.int p0, .int 1]) (rest := []) (fun (u : Unit) => wd_R_kindOf ad ck rsize rval risP cnt look bad byZ inr rpl hld store tAt tSz) ⟨hx, hb, hml, hown, hts⟩ (kc_R_byteOf l dC dI ad ck rsize rval risP cnt look bad byZ inr rpl hld store tAt p0 1 (hw := hw)) (cwV 2 hts (gV ux_79 ux_81 ux_82 ux_49 ux_80) rfl rfl rfl hd_R_byteOf ⟨Nat.le_of_ble_eq_true rfl, Nat.le_of_ble_eq_true rfl⟩) hK hP hD hS hA k_x0c trivial [0, 1, 2] [3] [1, 2, 3, 0] rfl rfl (by decide) (by decide) (fun _ => rfl) (va_recv hK hP (ci := 5) (q0 := 0) rfl rfl) rfl hl.1 rfl (lv_room (Nat.le_of_ble_eq_true rfl)) d_R_kindOf_20 ⟨Nat.zero_le _, Nat.zero_le _⟩ ?_
    intro r_26 u H locs hw hP hD hS
    have hP : va_P (dC, dI) vwCl (wd_R_kindOf ad ck rsize rval risP cnt look bad byZ inr rpl hld store tAt tSz) H := hP
    have hD : va_D A (wd_R_kindOf ad ck rsize rval risP cnt look bad byZ inr rpl hld store tAt tSz) := hD
    try dsimp only at hw
    refine lv_goto (tgt := 27) hx hb d_R_kindOf_23 (by decide) ?_
    exact L_27 r_1 r_26 rsize rval risP cnt look bad byZ inr rpl hld store tAt tSz _ _ _ hw hP hD hS (lv_sub hl [0] rfl)
