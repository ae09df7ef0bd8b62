abbrev wd_JL_canEncode (ad : Nat → Nat) (ck : Nat → ClassId)  : va_W := []
def wp_JL_canEncode (post : Int32 → Prop)  (p0 : Int32) : Prop := (p0 < 0 → (post 0)) ∧ (¬ p0 < 0 → ((255 < p0 → (post 0)) ∧ (¬ 255 < p0 → (post 1))))
set_option maxHeartbeats 4000000 in
set_option maxRecDepth 100000 in
theorem kc_JL_canEncode (l : Launch) (dC : Nat → ClassId) (dI : Nat → Nat → Nat) (ad : Nat → Nat) (ck : Nat → ClassId)  (p0 : Int32) {post : Int32 → Prop} (hw : wp_JL_canEncode post  p0) : k_Ci l y_JL_canEncode ws_JL_canEncode ({ frames := 0, cells := 0, slots := 0, locals := 0 } : Room) (dC, dI) vwCl (TYm ck) k_x0 [.int p0] ([]) (fun (r : Int32) (u : Unit) => post r ) (fun (u : Unit) => []) := by
  intro sz
  refine Met.ofW (cc := c_JL_canEncode) (maxL := 1) (ret := (some .boolean)) (by decide) rfl ?_
  intro p e s m args below meth c s₁ B hml hv
  obtain ⟨rfl, hsz, hP, hK, hD0, hX⟩ := hv
  have hx := B.exec
  have hb := B.bytes
  have hr := B.returns
  have hts : ∀ w ∈ TB, w.before _ s = true := fun w h => atoms_spec (ws := ws_JL_canEncode) B.pre w (List.mem_cons_of_mem _ h)
  have hown : s.vm.findClass R_JL = some m.cls := findClass_of_methodNamed B.named
  have hlocks := B.notSynchronized
  subst hsz
  have hD := hD0.self (sz := s.heap.size)
  generalize hAe : va_A ([]) s.heap.size = A at hD hX ⊢
  have hA : ∀ q : Nat, s.heap.size ≤ q → A q := fun q h => by rw [← hAe]; exact Or.inr h
  have hS : va_S A s.heap s.heap [] := va_S.rf
  have hP : va_P (dC, dI) vwCl ([]) s.heap := hP
  have hl := lv_entry ([.int p0]) (n := 1) (Nat.le_of_ble_eq_true rfl)
  rw [lg_entry_eq]
  generalize (lg_sl ([.int p0]) ++ List.replicate (1 - (lg_sl ([.int p0])).length) Slot.unset).toArray = ls at hl ⊢
  have hl : lv_has ls 1 [(0, .int p0)] := hl
  refine lv_iload_n hx hb d_JL_canEncode_0 rfl (lv_at hl 0 rfl) ?_
  obtain ⟨hwt, hwf⟩ := hw
  refine lv_if_lt (tgt := 15) hx hb d_JL_canEncode_1 (by decide) (fun c_1 => ?_) (fun c_1 => ?_)
  · have hw := hwt c_1
    refine lv_iconst (v := 0) hx hb d_JL_canEncode_15 (by decide) ?_
    exact W.zret (v := 0) hx hb hr (by decide) (fun t ht hW => ⟨⟨0, (), rfl, hw, by rw [ht]; exact hP, va_K.moved hW.alike hK, hD⟩, hS.F ht⟩) hS.2.2 d_JL_canEncode_16
  · have hw := hwf c_1
    refine lv_iload_n hx hb d_JL_canEncode_4 rfl (lv_at hl 0 rfl) ?_
    refine lv_sipush (v := 255) hx hb d_JL_canEncode_5 (by decide) ?_
    obtain ⟨hwt, hwf⟩ := hw
    refine lv_icmp_gt (tgt := 15) hx hb d_JL_canEncode_8 (by decide) (fun c_2 => ?_) (fun c_2 => ?_)
    · have hw := hwt c_2
      refine lv_iconst (v := 0) hx hb d_JL_canEncode_15 (by decide) ?_
      exact W.zret (v := 0) hx hb hr (by decide) (fun t ht hW => ⟨⟨0, (), rfl, hw, by rw [ht]; exact hP, va_K.moved hW.alike hK, hD⟩, hS.F ht⟩) hS.2.2 d_JL_canEncode_16
    · have hw := hwf c_2
      refine lv_iconst (v := 1) hx hb d_JL_canEncode_11 (by decide) ?_
      refine lv_goto (tgt := 16) hx hb d_JL_canEncode_12 (by decide) ?_
      exact W.zret (v := 1) hx hb hr (by decide) (fun t ht hW => ⟨⟨1, (), rfl, hw, by rw [ht]; exact hP, va_K.moved hW.alike hK, hD⟩, hS.F ht⟩) hS.2.2 d_JL_canEncode_16
def f_JL_canEncode (p0 : Int32) : Int32 := (if p0 < 0 then 0 else (if 255 < p0 then 0 else 1))
theorem q_JL_canEncode {post : Int32 → Prop} {p0 : Int32} (h : post (f_JL_canEncode p0)) : wp_JL_canEncode post p0 := by
  unfold wp_JL_canEncode
  refine br_c (fun c1 => ?_) (fun c1 => ?_)
  · rw [f_JL_canEncode, if_pos c1] at h; exact h
  · refine br_c (fun c2 => ?_) (fun c2 => ?_)
    · rw [f_JL_canEncode, if_neg c1, if_pos c2] at h; exact h
    · rw [f_JL_canEncode, if_neg c1, if_neg c2] at h; exact h

abbrev wd_JL_indexOfChar (ad : Nat → Nat) (ck : Nat → ClassId)  : va_W := []
def w_JL_indexOfChar_7 (post : Int32 → Prop) (x3 : Int32) (x4 : Int32) : Nat → Int32 → Prop
  | 0 => fun _ => False
  | n + 1 => fun x5 => (x3 ≤ x5 → (post (-1))) ∧ (¬ x3 ≤ x5 → (vp_in x5 strN ∧ (((strB x5.toNatClampNeg) = x4 → (post x5)) ∧ (¬ (strB x5.toNatClampNeg) = x4 → (∀ x5_5 : Int32, x5_5 = x5 + 1 → (w_JL_indexOfChar_7 post x3 x4 n x5_5))))))
def wp_JL_indexOfChar (post : Int32 → Prop)  (p1 : Int32) (p2 : Int32) (p3 : Int32) : Prop := ∀ x4_1 : Int32, x4_1 = p1.toInt8.toInt32 → (∃ fu7 : Nat, w_JL_indexOfChar_7 post p3 x4_1 fu7 p2)
set_option maxHeartbeats 4000000 in
set_option maxRecDepth 100000 in
theorem kc_JL_indexOfChar (l : Launch) (dC : Nat → ClassId) (dI : Nat → Nat → Nat) (ad : Nat → Nat) (ck : Nat → ClassId) (sk : Nat → Nat)  (p1 : Int32) (p2 : Int32) (p3 : Int32) {post : Int32 → Prop} (hw : wp_JL_indexOfChar post  p1 p2 p3) : k_Ci l y_JL_indexOfChar ws_JL_indexOfChar ({ frames := 0, cells := 0, slots := 0, locals := 0 } : Room) (dC, dI) vwCl (TYm ck) (XM sk) [.ref (sk 1), .int p1, .int p2, .int p3] ([]) (fun (r : Int32) (u : Unit) => post r ) (fun (u : Unit) => []) := by
  intro sz
  refine Met.ofW (cc := c_JL_indexOfChar) (maxL := 6) (ret := (some .int)) (by decide) rfl ?_
  intro p e s m args below meth c s₁ B hml hv
  obtain ⟨rfl, hsz, hP, hK, hD0, hX⟩ := hv
  have hx := B.exec
  have hb := B.bytes
  have hr := B.returns
  have hts : ∀ w ∈ TB, w.before _ s = true := fun w h => atoms_spec (ws := ws_JL_indexOfChar) B.pre w (List.mem_cons_of_mem _ h)
  have hown : s.vm.findClass R_JL = some m.cls := findClass_of_methodNamed B.named
  have hlocks := B.notSynchronized
  subst hsz
  have hD := hD0.self (sz := s.heap.size)
  generalize hAe : va_A ([]) s.heap.size = A at hD hX ⊢
  have hA : ∀ q : Nat, s.heap.size ≤ q → A q := fun q h => by rw [← hAe]; exact Or.inr h
  have hS : va_S A s.heap s.heap [] := va_S.rf
  have hP : va_P (dC, dI) vwCl ([]) s.heap := hP
  have hl := lv_entry ([.ref (sk 1), .int p1, .int p2, .int p3]) (n := 6) (Nat.le_of_ble_eq_true rfl)
  rw [lg_entry_eq]
  generalize (lg_sl ([.ref (sk 1), .int p1, .int p2, .int p3]) ++ List.replicate (6 - (lg_sl ([.ref (sk 1), .int p1, .int p2, .int p3])).length) Slot.unset).toArray = ls at hl ⊢
  have hl : lv_has ls 6 [(0, .ref (sk 1)), (1, .int p1), (2, .int p2), (3, .int p3)] := hl
  have L_7 : ∀ (x3 : Int32) (x4 : Int32) (n : Nat) (x5 : Int32) (H : Heap) (locs : List Loc) (ls : Array Slot), w_JL_indexOfChar_7 post x3 x4 n x5 → va_P (dC, dI) vwCl ([]) H → va_D A ([]) → va_S A s.heap H locs → lv_has ls 6 [(0, .ref (sk 1)), (3, .int x3), (4, .int x4), (5, .int x5)] → W p l e (headSpec ws_JL_indexOfChar ({ frames := 0, cells := 0, slots := 0, locals := 0 } : Room)).room s m ([.ref (sk 1), .int p1, .int p2, .int p3] : List Value).toArray below meth c H locs 0 0 (k_Qi below (dC, dI) vwCl (TYm ck) A (fun (r : Int32) (u : Unit) => post r ) (fun (u : Unit) => []) ([.ref (sk 1), .int p1, .int p2, .int p3] : List Value).toArray s) (F0 m 7 ls []) := by
    intro x3 x4 n
    induction n with
    | zero =>
      intro x5 H locs ls hw
      exact False.elim hw
    | succ n ih =>
      intro x5 H locs ls hw hP hD hS hl
      refine lv_iload hx hb d_JL_indexOfChar_7 (lv_at hl 3 rfl) ?_
      refine lv_iload_n hx hb d_JL_indexOfChar_9 rfl (lv_at hl 1 rfl) ?_
      obtain ⟨hwt, hwf⟩ := hw
      refine lv_icmp_ge (tgt := 31) hx hb d_JL_indexOfChar_10 (by decide) (fun c_2 => ?_) (fun c_2 => ?_)
      · have hw := hwt c_2
        refine lv_iconst (v := (-1)) hx hb d_JL_indexOfChar_31 (by decide) ?_
        exact W.iret (v := (-1)) hx hb hr (fun t ht hW => ⟨⟨(-1), (), rfl, hw, by rw [ht]; exact hP, va_K.moved hW.alike hK, hD⟩, hS.F ht⟩) hS.2.2 d_JL_indexOfChar_32
      · have hw := hwf c_2
        refine lv_aload_n hx hb d_JL_indexOfChar_13 rfl (lv_at hl 0 rfl) ?_
        refine lv_iload hx hb d_JL_indexOfChar_14 (lv_at hl 3 rfl) ?_
        obtain ⟨hi_3, hw⟩ := hw
        refine va_tb (v := .int (strB x5.toNatClampNeg)) hx hb (hX.2.1.1 0 (by decide)).2.2.2 hS hi_3 rfl d_JL_indexOfChar_16 ?_
        refine lv_iload hx hb d_JL_indexOfChar_17 (lv_at hl 2 rfl) ?_
        obtain ⟨hwt, hwf⟩ := hw
        refine lv_icmp_ne (tgt := 25) hx hb d_JL_indexOfChar_19 (by decide) (fun c_4 => ?_) (fun c_4 => ?_)
        · have hw := hwf c_4
          obtain ⟨x5_5, ex5_5⟩ : ∃ y : Int32, y = x5 + 1 := ⟨_, rfl⟩
          have hw := hw x5_5 ex5_5
          refine lv_iinc (v := x5_5) (lv' := [(5, .int x5_5), (0, .ref (sk 1)), (3, .int x3), (4, .int x4)]) hx hb d_JL_indexOfChar_25 hl (k := 3) rfl (by rw [ex5_5]; rfl) (by decide) rfl (fun ls hl => ?_)
          refine lv_goto (tgt := 7) hx hb d_JL_indexOfChar_28 (by decide) ?_
          exact ih x5_5 _ _ _ hw hP hD hS (lv_sub hl [1, 2, 3, 0] rfl)
        · have hw := hwt c_4
          refine lv_iload hx hb d_JL_indexOfChar_22 (lv_at hl 3 rfl) ?_
          exact W.iret (v := x5) hx hb hr (fun t ht hW => ⟨⟨x5, (), rfl, hw, by rw [ht]; exact hP, va_K.moved hW.alike hK, hD⟩, hS.F ht⟩) hS.2.2 d_JL_indexOfChar_24
  refine lv_iload_n hx hb d_JL_indexOfChar_0 rfl (lv_at hl 1 rfl) ?_
  refine lv_i2b (v := p1.toInt8.toInt32) hx hb d_JL_indexOfChar_1 rfl ?_
  refine lv_topi (fun x4_1 ex4_1 => ?_)
  have hw := hw x4_1 ex4_1
  refine lv_istore (lv' := [(4, .int x4_1), (0, .ref (sk 1)), (1, .int p1), (2, .int p2), (3, .int p3)]) hx hb d_JL_indexOfChar_2 hl (by decide) rfl (fun ls hl => ?_)
  refine lv_iload_n hx hb d_JL_indexOfChar_4 rfl (lv_at hl 3 rfl) ?_
  refine lv_istore (lv' := [(5, .int p2), (4, .int x4_1), (0, .ref (sk 1)), (1, .int p1), (2, .int p2), (3, .int p3)]) hx hb d_JL_indexOfChar_5 hl (by decide) rfl (fun ls hl => ?_)
  obtain ⟨fu7, hw⟩ := hw
  exact L_7 p3 x4_1 fu7 p2 _ _ _ hw hP hD hS (lv_sub hl [2, 5, 1, 0] rfl)

abbrev wd_JL_indexOf (ad : Nat → Nat) (ck : Nat → ClassId)  : va_W := []
def wp_JL_indexOf (post : Int32 → Prop)  (p1 : Int32) (p2 : Int32) (p3 : Int32) : Prop := wp_JL_canEncode (fun (r_1 : Int32) => (r_1 = 0 → (post (-1))) ∧ (¬ r_1 = 0 → (∀ x2_3 : Int32, x2_3 = (if p2 < 0 then 0 else p2) → (∀ x3_4 : Int32, x3_4 = (if 25 < p3 then 25 else p3) → ((x2_3 < x3_4 → (wp_JL_indexOfChar (fun (r_6 : Int32) => post r_6) p1 x2_3 x3_4)) ∧ (¬ x2_3 < x3_4 → (post (-1)))))))) p1
set_option maxHeartbeats 4000000 in
set_option maxRecDepth 100000 in
theorem kc_JL_indexOf (l : Launch) (dC : Nat → ClassId) (dI : Nat → Nat → Nat) (ad : Nat → Nat) (ck : Nat → ClassId) (sk : Nat → Nat)  (p1 : Int32) (p2 : Int32) (p3 : Int32) {post : Int32 → Prop} (hw : wp_JL_indexOf post  p1 p2 p3) : k_Ci l y_JL_indexOf ws_JL_indexOf ({ frames := 1, cells := 0, slots := 0, locals := 25 } : Room) (dC, dI) vwCl (TYm ck) (XM sk) [.ref (sk 1), .int p1, .int p2, .int p3] ([]) (fun (r : Int32) (u : Unit) => post r ) (fun (u : Unit) => []) := by
  intro sz
  refine Met.ofW (cc := c_JL_indexOf) (maxL := 4) (ret := (some .int)) (by decide) rfl ?_
  intro p e s m args below meth c s₁ B hml hv
  obtain ⟨rfl, hsz, hP, hK, hD0, hX⟩ := hv
  have hx := B.exec
  have hb := B.bytes
  have hr := B.returns
  have hts : ∀ w ∈ TB, w.before _ s = true := fun w h => atoms_spec (ws := ws_JL_indexOf) B.pre w (List.mem_cons_of_mem _ h)
  have hown : s.vm.findClass R_JL = some m.cls := findClass_of_methodNamed B.named
  have hlocks := B.notSynchronized
  subst hsz
  have hD := hD0.self (sz := s.heap.size)
  generalize hAe : va_A ([]) s.heap.size = A at hD hX ⊢
  have hA : ∀ q : Nat, s.heap.size ≤ q → A q := fun q h => by rw [← hAe]; exact Or.inr h
  have hS : va_S A s.heap s.heap [] := va_S.rf
  have hP : va_P (dC, dI) vwCl ([]) s.heap := hP
  have hl := lv_entry ([.ref (sk 1), .int p1, .int p2, .int p3]) (n := 4) (Nat.le_of_ble_eq_true rfl)
  rw [lg_entry_eq]
  generalize (lg_sl ([.ref (sk 1), .int p1, .int p2, .int p3]) ++ List.replicate (4 - (lg_sl ([.ref (sk 1), .int p1, .int p2, .int p3])).length) Slot.unset).toArray = ls at hl ⊢
  have hl : lv_has ls 4 [(0, .ref (sk 1)), (1, .int p1), (2, .int p2), (3, .int p3)] := hl
  refine lv_iload_n hx hb d_JL_indexOf_0 rfl (lv_at hl 1 rfl) ?_
  refine k_callSi (As := [.int p1]) (rest := []) (fun (u : Unit) => []) ⟨hx, hb, hml, hown, hts⟩ (kc_JL_canEncode l dC dI ad ck p1 (hw := hw)) (va_cwS 1 hts (gS tw_31 tw_34 tw_33 tw_32) rfl rfl rfl hd_JL_canEncode ⟨Nat.le_of_ble_eq_true rfl, Nat.le_of_ble_eq_true rfl⟩) hK hP hD hS hA k_x0c trivial [] [] [] rfl rfl (by decide) (by decide) (fun _ => rfl) rfl hl.1 rfl (lv_room (Nat.le_of_ble_eq_true rfl)) d_JL_indexOf_1 ⟨Nat.zero_le _, Nat.zero_le _⟩ ?_
  intro r_1 u H locs hw hP hD hS
  have hP : va_P (dC, dI) vwCl ([]) H := hP
  have hD : va_D A ([]) := hD
  try dsimp only at hw
  obtain ⟨hwt, hwf⟩ := hw
  refine lv_if_ne (tgt := 9) hx hb d_JL_indexOf_4 (by decide) (fun c_2 => ?_) (fun c_2 => ?_)
  · have hw := hwf c_2
    refine lv_iload_n hx hb d_JL_indexOf_9 rfl (lv_at hl 2 rfl) ?_
    refine lv_iconst (v := 0) hx hb d_JL_indexOf_10 (by decide) ?_
    refine va_mmax hx hb (hml.trans hl.1.symm) hown (hts _ tw_35) (hts _ tw_36) (hts _ tw_37) (hts _ tw_38) (Nat.le_of_ble_eq_true rfl) (Nat.le_of_ble_eq_true rfl) (Nat.zero_le _) (Nat.zero_le _) d_JL_indexOf_11 ?_
    refine lv_topi (fun x2_3 ex2_3 => ?_)
    have hw := hw x2_3 ex2_3
    refine lv_istore_n (lv' := [(2, .int x2_3), (0, .ref (sk 1)), (1, .int p1), (3, .int p3)]) hx hb d_JL_indexOf_14 rfl hl (by decide) rfl (fun ls hl => ?_)
    refine lv_iload_n hx hb d_JL_indexOf_15 rfl (lv_at hl 3 rfl) ?_
    refine lv_aload_n hx hb d_JL_indexOf_16 rfl (lv_at hl 1 rfl) ?_
    refine va_tlen (v := 25) hx hb (hX.2.1.1 0 (by decide)).2.2.2 hS (by decide) d_JL_indexOf_17 ?_
    refine va_mmin hx hb (hml.trans hl.1.symm) hown (hts _ tw_39) (hts _ tw_40) (hts _ tw_37) (hts _ tw_41) (Nat.le_of_ble_eq_true rfl) (Nat.le_of_ble_eq_true rfl) (Nat.zero_le _) (Nat.zero_le _) d_JL_indexOf_18 ?_
    refine lv_topi (fun x3_4 ex3_4 => ?_)
    have hw := hw x3_4 ex3_4
    refine lv_istore_n (lv' := [(3, .int x3_4), (2, .int x2_3), (0, .ref (sk 1)), (1, .int p1)]) hx hb d_JL_indexOf_21 rfl hl (by decide) rfl (fun ls hl => ?_)
    refine lv_iload_n hx hb d_JL_indexOf_22 rfl (lv_at hl 1 rfl) ?_
    refine lv_iload_n hx hb d_JL_indexOf_23 rfl (lv_at hl 0 rfl) ?_
    obtain ⟨hwt, hwf⟩ := hw
    refine lv_icmp_lt (tgt := 29) hx hb d_JL_indexOf_24 (by decide) (fun c_5 => ?_) (fun c_5 => ?_)
    · have hw := hwt c_5
      refine lv_aload_n hx hb d_JL_indexOf_29 rfl (lv_at hl 2 rfl) ?_
      refine lv_iload_n hx hb d_JL_indexOf_30 rfl (lv_at hl 3 rfl) ?_
      refine lv_iload_n hx hb d_JL_indexOf_31 rfl (lv_at hl 1 rfl) ?_
      refine lv_iload_n hx hb d_JL_indexOf_32 rfl (lv_at hl 0 rfl) ?_
      refine k_callSi (As := [.ref (sk 1), .int p1, .int x2_3, .int x3_4]) (rest := []) (fun (u : Unit) => []) ⟨hx, hb, hml, hown, hts⟩ (kc_JL_indexOfChar l dC dI ad ck sk p1 x2_3 x3_4 (hw := hw)) (va_cwS 4 hts (gS tw_42 tw_44 tw_33 tw_43) rfl rfl rfl hd_JL_indexOfChar ⟨Nat.le_of_ble_eq_true rfl, Nat.le_of_ble_eq_true rfl⟩) hK hP hD hS hA (XM_c sk) hX [] [] [] rfl rfl (by decide) (by decide) (fun _ => rfl) rfl hl.1 rfl (lv_room (Nat.le_of_ble_eq_true rfl)) d_JL_indexOf_33 ⟨Nat.zero_le _, Nat.zero_le _⟩ ?_
      intro r_6 u H locs hw hP hD hS
      have hP : va_P (dC, dI) vwCl ([]) H := hP
      have hD : va_D A ([]) := hD
      try dsimp only at hw
      exact W.iret (v := r_6) hx hb hr (fun t ht hW => ⟨⟨r_6, (), rfl, hw, by rw [ht]; exact hP, va_K.moved hW.alike hK, hD⟩, hS.F ht⟩) hS.2.2 d_JL_indexOf_36
    · have hw := hwf c_5
      refine lv_iconst (v := (-1)) hx hb d_JL_indexOf_27 (by decide) ?_
      exact W.iret (v := (-1)) hx hb hr (fun t ht hW => ⟨⟨(-1), (), rfl, hw, by rw [ht]; exact hP, va_K.moved hW.alike hK, hD⟩, hS.F ht⟩) hS.2.2 d_JL_indexOf_28
  · have hw := hwt c_2
    refine lv_iconst (v := (-1)) hx hb d_JL_indexOf_7 (by decide) ?_
    exact W.iret (v := (-1)) hx hb hr (fun t ht hW => ⟨⟨(-1), (), rfl, hw, by rw [ht]; exact hP, va_K.moved hW.alike hK, hD⟩, hS.F ht⟩) hS.2.2 d_JL_indexOf_8

abbrev wd_JS_isLatin1 (ad : Nat → Nat) (ck : Nat → ClassId)  : va_W := []
def wp_JS_isLatin1 (post : Int32 → Prop)   : Prop := ((1 : Int32) = 0 → (post 0)) ∧ (¬ (1 : Int32) = 0 → (((0 : Int32) = 0 → (post 1)) ∧ (¬ (0 : Int32) = 0 → (post 0))))
set_option maxHeartbeats 4000000 in
set_option maxRecDepth 100000 in
theorem kc_JS_isLatin1 (l : Launch) (dC : Nat → ClassId) (dI : Nat → Nat → Nat) (ad : Nat → Nat) (ck : Nat → ClassId) (sk : Nat → Nat)   {post : Int32 → Prop} (hw : wp_JS_isLatin1 post  ) : k_Ci l y_JS_isLatin1 ws_JS_isLatin1 ({ frames := 0, cells := 0, slots := 0, locals := 0 } : Room) (dC, dI) vwCl (TYm ck) (XM sk) [.ref (sk 0)] ([]) (fun (r : Int32) (u : Unit) => post r ) (fun (u : Unit) => []) := by
  intro sz
  refine Met.ofW (cc := c_JS_isLatin1) (maxL := 1) (ret := (some .boolean)) (by decide) rfl ?_
  intro p e s m args below meth c s₁ B hml hv
  obtain ⟨rfl, hsz, hP, hK, hD0, hX⟩ := hv
  have hx := B.exec
  have hb := B.bytes
  have hr := B.returns
  have hts : ∀ w ∈ TB, w.before _ s = true := fun w h => atoms_spec (ws := ws_JS_isLatin1) B.pre w (List.mem_cons_of_mem _ h)
  have hown : s.vm.findClass R_JS = some m.cls := findClass_of_methodNamed B.named
  have hlocks := B.notSynchronized
  subst hsz
  have hD := hD0.self (sz := s.heap.size)
  generalize hAe : va_A ([]) s.heap.size = A at hD hX ⊢
  have hA : ∀ q : Nat, s.heap.size ≤ q → A q := fun q h => by rw [← hAe]; exact Or.inr h
  have hS : va_S A s.heap s.heap [] := va_S.rf
  have hP : va_P (dC, dI) vwCl ([]) s.heap := hP
  have hl := lv_entry ([.ref (sk 0)]) (n := 1) (Nat.le_of_ble_eq_true rfl)
  rw [lg_entry_eq]
  generalize (lg_sl ([.ref (sk 0)]) ++ List.replicate (1 - (lg_sl ([.ref (sk 0)])).length) Slot.unset).toArray = ls at hl ⊢
  have hl : lv_has ls 1 [(0, .ref (sk 0))] := hl
  refine va_gets (v := .int 1) hx hb hX.2.2.1 hS hown (hts _ tw_45) (fun _ h9 => h9) d_JS_isLatin1_0 ?_
  obtain ⟨hwt, hwf⟩ := hw
  refine lv_if_eq (tgt := 17) hx hb d_JS_isLatin1_3 (by decide) (fun c_1 => ?_) (fun c_1 => ?_)
  · have hw := hwt c_1
    refine lv_iconst (v := 0) hx hb d_JS_isLatin1_17 (by decide) ?_
    exact W.zret (v := 0) hx hb hr (by decide) (fun t ht hW => ⟨⟨0, (), rfl, hw, by rw [ht]; exact hP, va_K.moved hW.alike hK, hD⟩, hS.F ht⟩) hS.2.2 d_JS_isLatin1_18
  · have hw := hwf c_1
    refine lv_aload_n hx hb d_JS_isLatin1_6 rfl (lv_at hl 0 rfl) ?_
    refine vk_getf (v := .int 0) hx hb (hX.2.1.1 0 (by decide)).2.1 hS hown (hts _ tw_46) (fun _ h9 => h9) d_JS_isLatin1_7 ?_
    obtain ⟨hwt, hwf⟩ := hw
    refine lv_if_ne (tgt := 17) hx hb d_JS_isLatin1_10 (by decide) (fun c_2 => ?_) (fun c_2 => ?_)
    · have hw := hwf c_2
      refine lv_iconst (v := 0) hx hb d_JS_isLatin1_17 (by decide) ?_
      exact W.zret (v := 0) hx hb hr (by decide) (fun t ht hW => ⟨⟨0, (), rfl, hw, by rw [ht]; exact hP, va_K.moved hW.alike hK, hD⟩, hS.F ht⟩) hS.2.2 d_JS_isLatin1_18
    · have hw := hwt c_2
      refine lv_iconst (v := 1) hx hb d_JS_isLatin1_13 (by decide) ?_
      refine lv_goto (tgt := 18) hx hb d_JS_isLatin1_14 (by decide) ?_
      exact W.zret (v := 1) hx hb hr (by decide) (fun t ht hW => ⟨⟨1, (), rfl, hw, by rw [ht]; exact hP, va_K.moved hW.alike hK, hD⟩, hS.F ht⟩) hS.2.2 d_JS_isLatin1_18

abbrev wd_JS_coder (ad : Nat → Nat) (ck : Nat → ClassId)  : va_W := []
def wp_JS_coder (post : Int32 → Prop)   : Prop := ((1 : Int32) = 0 → (post 1)) ∧ (¬ (1 : Int32) = 0 → (post 0))
set_option maxHeartbeats 4000000 in
set_option maxRecDepth 100000 in
theorem kc_JS_coder (l : Launch) (dC : Nat → ClassId) (dI : Nat → Nat → Nat) (ad : Nat → Nat) (ck : Nat → ClassId) (sk : Nat → Nat)   {post : Int32 → Prop} (hw : wp_JS_coder post  ) : k_Ci l y_JS_coder ws_JS_coder ({ frames := 0, cells := 0, slots := 0, locals := 0 } : Room) (dC, dI) vwCl (TYm ck) (XM sk) [.ref (sk 0)] ([]) (fun (r : Int32) (u : Unit) => post r ) (fun (u : Unit) => []) := by
  intro sz
  refine Met.ofW (cc := c_JS_coder) (maxL := 1) (ret := (some .byte)) (by decide) rfl ?_
  intro p e s m args below meth c s₁ B hml hv
  obtain ⟨rfl, hsz, hP, hK, hD0, hX⟩ := hv
  have hx := B.exec
  have hb := B.bytes
  have hr := B.returns
  have hts : ∀ w ∈ TB, w.before _ s = true := fun w h => atoms_spec (ws := ws_JS_coder) B.pre w (List.mem_cons_of_mem _ h)
  have hown : s.vm.findClass R_JS = some m.cls := findClass_of_methodNamed B.named
  have hlocks := B.notSynchronized
  subst hsz
  have hD := hD0.self (sz := s.heap.size)
  generalize hAe : va_A ([]) s.heap.size = A at hD hX ⊢
  have hA : ∀ q : Nat, s.heap.size ≤ q → A q := fun q h => by rw [← hAe]; exact Or.inr h
  have hS : va_S A s.heap s.heap [] := va_S.rf
  have hP : va_P (dC, dI) vwCl ([]) s.heap := hP
  have hl := lv_entry ([.ref (sk 0)]) (n := 1) (Nat.le_of_ble_eq_true rfl)
  rw [lg_entry_eq]
  generalize (lg_sl ([.ref (sk 0)]) ++ List.replicate (1 - (lg_sl ([.ref (sk 0)])).length) Slot.unset).toArray = ls at hl ⊢
  have hl : lv_has ls 1 [(0, .ref (sk 0))] := hl
  refine va_gets (v := .int 1) hx hb hX.2.2.1 hS hown (hts _ tw_45) (fun _ h9 => h9) d_JS_coder_0 ?_
  obtain ⟨hwt, hwf⟩ := hw
  refine lv_if_eq (tgt := 13) hx hb d_JS_coder_3 (by decide) (fun c_1 => ?_) (fun c_1 => ?_)
  · have hw := hwt c_1
    refine lv_iconst (v := 1) hx hb d_JS_coder_13 (by decide) ?_
    exact W.zret (v := 1) hx hb hr (by decide) (fun t ht hW => ⟨⟨1, (), rfl, hw, by rw [ht]; exact hP, va_K.moved hW.alike hK, hD⟩, hS.F ht⟩) hS.2.2 d_JS_coder_14
  · have hw := hwf c_1
    refine lv_aload_n hx hb d_JS_coder_6 rfl (lv_at hl 0 rfl) ?_
    refine vk_getf (v := .int 0) hx hb (hX.2.1.1 0 (by decide)).2.1 hS hown (hts _ tw_46) (fun _ h9 => h9) d_JS_coder_7 ?_
    refine lv_goto (tgt := 14) hx hb d_JS_coder_10 (by decide) ?_
    exact W.zret (v := 0) hx hb hr (by decide) (fun t ht hW => ⟨⟨0, (), rfl, hw, by rw [ht]; exact hP, va_K.moved hW.alike hK, hD⟩, hS.F ht⟩) hS.2.2 d_JS_coder_14

abbrev wd_JS_length (ad : Nat → Nat) (ck : Nat → ClassId)  : va_W := []
def wp_JS_length (post : Int32 → Prop)   : Prop := wp_JS_coder (fun (r_1 : Int32) => post (25 >>> (r_1 &&& 31))) 
set_option maxHeartbeats 4000000 in
set_option maxRecDepth 100000 in
theorem kc_JS_length (l : Launch) (dC : Nat → ClassId) (dI : Nat → Nat → Nat) (ad : Nat → Nat) (ck : Nat → ClassId) (sk : Nat → Nat)   {post : Int32 → Prop} (hw : wp_JS_length post  ) : k_Ci l y_JS_length ws_JS_length ({ frames := 1, cells := 0, slots := 0, locals := 20 } : Room) (dC, dI) vwCl (TYm ck) (XM sk) [.ref (sk 0)] ([]) (fun (r : Int32) (u : Unit) => post r ) (fun (u : Unit) => []) := by
  intro sz
  refine Met.ofW (cc := c_JS_length) (maxL := 1) (ret := (some .int)) (by decide) rfl ?_
  intro p e s m args below meth c s₁ B hml hv
  obtain ⟨rfl, hsz, hP, hK, hD0, hX⟩ := hv
  have hx := B.exec
  have hb := B.bytes
  have hr := B.returns
  have hts : ∀ w ∈ TB, w.before _ s = true := fun w h => atoms_spec (ws := ws_JS_length) B.pre w (List.mem_cons_of_mem _ h)
  have hown : s.vm.findClass R_JS = some m.cls := findClass_of_methodNamed B.named
  have hlocks := B.notSynchronized
  subst hsz
  have hD := hD0.self (sz := s.heap.size)
  generalize hAe : va_A ([]) s.heap.size = A at hD hX ⊢
  have hA : ∀ q : Nat, s.heap.size ≤ q → A q := fun q h => by rw [← hAe]; exact Or.inr h
  have hS : va_S A s.heap s.heap [] := va_S.rf
  have hP : va_P (dC, dI) vwCl ([]) s.heap := hP
  have hl := lv_entry ([.ref (sk 0)]) (n := 1) (Nat.le_of_ble_eq_true rfl)
  rw [lg_entry_eq]
  generalize (lg_sl ([.ref (sk 0)]) ++ List.replicate (1 - (lg_sl ([.ref (sk 0)])).length) Slot.unset).toArray = ls at hl ⊢
  have hl : lv_has ls 1 [(0, .ref (sk 0))] := hl
  refine lv_aload_n hx hb d_JS_length_0 rfl (lv_at hl 0 rfl) ?_
  refine vk_getf (v := .ref (sk 1)) hx hb (hX.2.1.1 0 (by decide)).2.2.1 hS hown (hts _ tw_47) (fun _ h9 => h9) d_JS_length_1 ?_
  refine va_tlen (v := 25) hx hb (hX.2.1.1 0 (by decide)).2.2.2 hS (by decide) d_JS_length_4 ?_
  refine lv_aload_n hx hb d_JS_length_5 rfl (lv_at hl 0 rfl) ?_
  refine k_callVi (As := []) (rest := [.int 25]) (fun (u : Unit) => []) ⟨hx, hb, hml, hown, hts⟩ (kc_JS_coder l dC dI ad ck sk  (hw := hw)) (cwV 0 hts (gV tw_48 tw_51 tw_52 tw_50 tw_49) rfl rfl rfl hd_JS_coder ⟨Nat.le_of_ble_eq_true rfl, Nat.le_of_ble_eq_true rfl⟩) hK hP hD hS hA (XM_c sk) hX [] [] [] rfl rfl (by decide) (by decide) (fun _ => rfl) (vk_recv (N := 1) (len := [strN]) (byt := [strL]) (adK := fun _ => sk 0) (adV := fun _ => sk 1) (i := 0) hX.2.1 (by decide) hS) rfl hl.1 rfl (lv_room (Nat.le_of_ble_eq_true rfl)) d_JS_length_6 ⟨Nat.zero_le _, Nat.zero_le _⟩ ?_
  intro r_1 u H locs hw hP hD hS
  have hP : va_P (dC, dI) vwCl ([]) H := hP
  have hD : va_D A ([]) := hD
  try dsimp only at hw
  refine lv_ishr hx hb d_JS_length_9 ?_
  exact W.iret (v := (25 >>> (r_1 &&& 31))) hx hb hr (fun t ht hW => ⟨⟨(25 >>> (r_1 &&& 31)), (), rfl, hw, by rw [ht]; exact hP, va_K.moved hW.alike hK, hD⟩, hS.F ht⟩) hS.2.2 d_JS_length_10

abbrev wd_JS_indexOf (ad : Nat → Nat) (ck : Nat → ClassId)  : va_W := []
def wp_JS_indexOf (post : Int32 → Prop)  (p0 : Int32) (p1 : Int32) : Prop := wp_JS_isLatin1 (fun (r_1 : Int32) => (r_1 = 0 → (False)) ∧ (¬ r_1 = 0 → (wp_JS_length (fun (r_3 : Int32) => wp_JL_indexOf (fun (r_4 : Int32) => post r_4) p0 p1 r_3) ))) 
set_option maxHeartbeats 4000000 in
set_option maxRecDepth 100000 in
theorem kc_JS_indexOf (l : Launch) (dC : Nat → ClassId) (dI : Nat → Nat → Nat) (ad : Nat → Nat) (ck : Nat → ClassId) (sk : Nat → Nat)  (p0 : Int32) (p1 : Int32) {post : Int32 → Prop} (hw : wp_JS_indexOf post  p0 p1) : k_Ci l y_JS_indexOf ws_JS_indexOf ({ frames := 2, cells := 0, slots := 0, locals := 48 } : Room) (dC, dI) vwCl (TYm ck) (XM sk) [.ref (sk 0), .int p0, .int p1] ([]) (fun (r : Int32) (u : Unit) => post r ) (fun (u : Unit) => []) := by
  intro sz
  refine Met.ofW (cc := c_JS_indexOf) (maxL := 3) (ret := (some .int)) (by decide) rfl ?_
  intro p e s m args below meth c s₁ B hml hv
  obtain ⟨rfl, hsz, hP, hK, hD0, hX⟩ := hv
  have hx := B.exec
  have hb := B.bytes
  have hr := B.returns
  have hts : ∀ w ∈ TB, w.before _ s = true := fun w h => atoms_spec (ws := ws_JS_indexOf) B.pre w (List.mem_cons_of_mem _ h)
  have hown : s.vm.findClass R_JS = some m.cls := findClass_of_methodNamed B.named
  have hlocks := B.notSynchronized
  subst hsz
  have hD := hD0.self (sz := s.heap.size)
  generalize hAe : va_A ([]) s.heap.size = A at hD hX ⊢
  have hA : ∀ q : Nat, s.heap.size ≤ q → A q := fun q h => by rw [← hAe]; exact Or.inr h
  have hS : va_S A s.heap s.heap [] := va_S.rf
  have hP : va_P (dC, dI) vwCl ([]) s.heap := hP
  have hl := lv_entry ([.ref (sk 0), .int p0, .int p1]) (n := 3) (Nat.le_of_ble_eq_true rfl)
  rw [lg_entry_eq]
  generalize (lg_sl ([.ref (sk 0), .int p0, .int p1]) ++ List.replicate (3 - (lg_sl ([.ref (sk 0), .int p0, .int p1])).length) Slot.unset).toArray = ls at hl ⊢
  have hl : lv_has ls 3 [(0, .ref (sk 0)), (1, .int p0), (2, .int p1)] := hl
  refine lv_aload_n hx hb d_JS_indexOf_0 rfl (lv_at hl 0 rfl) ?_
  refine k_callVi (As := []) (rest := []) (fun (u : Unit) => []) ⟨hx, hb, hml, hown, hts⟩ (kc_JS_isLatin1 l dC dI ad ck sk  (hw := hw)) (cwV 0 hts (gV tw_53 tw_55 tw_56 tw_50 tw_54) rfl rfl rfl hd_JS_isLatin1 ⟨Nat.le_of_ble_eq_true rfl, Nat.le_of_ble_eq_true rfl⟩) hK hP hD hS hA (XM_c sk) hX [] [] [] rfl rfl (by decide) (by decide) (fun _ => rfl) (vk_recv (N := 1) (len := [strN]) (byt := [strL]) (adK := fun _ => sk 0) (adV := fun _ => sk 1) (i := 0) hX.2.1 (by decide) hS) rfl hl.1 rfl (lv_room (Nat.le_of_ble_eq_true rfl)) d_JS_indexOf_1 ⟨Nat.zero_le _, Nat.zero_le _⟩ ?_
  intro r_1 u H locs hw hP hD hS
  have hP : va_P (dC, dI) vwCl ([]) H := hP
  have hD : va_D A ([]) := hD
  try dsimp only at hw
  obtain ⟨hwt, hwf⟩ := hw
  refine lv_if_eq (tgt := 23) hx hb d_JS_indexOf_4 (by decide) (fun c_2 => ?_) (fun c_2 => ?_)
  · have hw := hwt c_2
    exact False.elim hw
  · have hw := hwf c_2
    refine lv_aload_n hx hb d_JS_indexOf_7 rfl (lv_at hl 0 rfl) ?_
    refine vk_getf (v := .ref (sk 1)) hx hb (hX.2.1.1 0 (by decide)).2.2.1 hS hown (hts _ tw_47) (fun _ h9 => h9) d_JS_indexOf_8 ?_
    refine lv_iload_n hx hb d_JS_indexOf_11 rfl (lv_at hl 1 rfl) ?_
    refine lv_iload_n hx hb d_JS_indexOf_12 rfl (lv_at hl 2 rfl) ?_
    refine lv_aload_n hx hb d_JS_indexOf_13 rfl (lv_at hl 0 rfl) ?_
    refine k_callVi (As := []) (rest := [.int p1, .int p0, .ref (sk 1)]) (fun (u : Unit) => []) ⟨hx, hb, hml, hown, hts⟩ (kc_JS_length l dC dI ad ck sk  (hw := hw)) (cwV 0 hts (gV tw_57 tw_59 tw_60 tw_50 tw_58) rfl rfl rfl hd_JS_length ⟨Nat.le_of_ble_eq_true rfl, Nat.le_of_ble_eq_true rfl⟩) hK hP hD hS hA (XM_c sk) hX [] [] [] rfl rfl (by decide) (by decide) (fun _ => rfl) (vk_recv (N := 1) (len := [strN]) (byt := [strL]) (adK := fun _ => sk 0) (adV := fun _ => sk 1) (i := 0) hX.2.1 (by decide) hS) rfl hl.1 rfl (lv_room (Nat.le_of_ble_eq_true rfl)) d_JS_indexOf_14 ⟨Nat.zero_le _, Nat.zero_le _⟩ ?_
    intro r_3 u H locs hw hP hD hS
    have hP : va_P (dC, dI) vwCl ([]) H := hP
    have hD : va_D A ([]) := hD
    try dsimp only at hw
    refine k_callSi (As := [.ref (sk 1), .int p0, .int p1, .int r_3]) (rest := []) (fun (u : Unit) => []) ⟨hx, hb, hml, hown, hts⟩ (kc_JL_indexOf l dC dI ad ck sk p0 p1 r_3 (hw := hw)) (va_cwS 4 hts (gS tw_61 tw_63 tw_33 tw_62) rfl rfl rfl hd_JL_indexOf ⟨Nat.le_of_ble_eq_true rfl, Nat.le_of_ble_eq_true rfl⟩) hK hP hD hS hA (XM_c sk) hX [] [] [] rfl rfl (by decide) (by decide) (fun _ => rfl) rfl hl.1 rfl (lv_room (Nat.le_of_ble_eq_true rfl)) d_JS_indexOf_17 ⟨Nat.zero_le _, Nat.zero_le _⟩ ?_
    intro r_4 u H locs hw hP hD hS
    have hP : va_P (dC, dI) vwCl ([]) H := hP
    have hD : va_D A ([]) := hD
    try dsimp only at hw
    refine lv_goto (tgt := 36) hx hb d_JS_indexOf_20 (by decide) ?_
    exact W.iret (v := r_4) hx hb hr (fun t ht hW => ⟨⟨r_4, (), rfl, hw, by rw [ht]; exact hP, va_K.moved hW.alike hK, hD⟩, hS.F ht⟩) hS.2.2 d_JS_indexOf_36

abbrev wd_JS_indexOf2 (ad : Nat → Nat) (ck : Nat → ClassId)  : va_W := []
def wp_JS_indexOf2 (post : Int32 → Prop)  (p0 : Int32) : Prop := wp_JS_indexOf (fun (r_1 : Int32) => post r_1) p0 0
set_option maxHeartbeats 4000000 in
set_option maxRecDepth 100000 in
theorem kc_JS_indexOf2 (l : Launch) (dC : Nat → ClassId) (dI : Nat → Nat → Nat) (ad : Nat → Nat) (ck : Nat → ClassId) (sk : Nat → Nat)  (p0 : Int32) {post : Int32 → Prop} (hw : wp_JS_indexOf2 post  p0) : k_Ci l y_JS_indexOf2 ws_JS_indexOf2 ({ frames := 3, cells := 0, slots := 0, locals := 70 } : Room) (dC, dI) vwCl (TYm ck) (XM sk) [.ref (sk 0), .int p0] ([]) (fun (r : Int32) (u : Unit) => post r ) (fun (u : Unit) => []) := by
  intro sz
  refine Met.ofW (cc := c_JS_indexOf2) (maxL := 2) (ret := (some .int)) (by decide) rfl ?_
  intro p e s m args below meth c s₁ B hml hv
  obtain ⟨rfl, hsz, hP, hK, hD0, hX⟩ := hv
  have hx := B.exec
  have hb := B.bytes
  have hr := B.returns
  have hts : ∀ w ∈ TB, w.before _ s = true := fun w h => atoms_spec (ws := ws_JS_indexOf2) B.pre w (List.mem_cons_of_mem _ h)
  have hown : s.vm.findClass R_JS = some m.cls := findClass_of_methodNamed B.named
  have hlocks := B.notSynchronized
  subst hsz
  have hD := hD0.self (sz := s.heap.size)
  generalize hAe : va_A ([]) s.heap.size = A at hD hX ⊢
  have hA : ∀ q : Nat, s.heap.size ≤ q → A q := fun q h => by rw [← hAe]; exact Or.inr h
  have hS : va_S A s.heap s.heap [] := va_S.rf
  have hP : va_P (dC, dI) vwCl ([]) s.heap := hP
  have hl := lv_entry ([.ref (sk 0), .int p0]) (n := 2) (Nat.le_of_ble_eq_true rfl)
  rw [lg_entry_eq]
  generalize (lg_sl ([.ref (sk 0), .int p0]) ++ List.replicate (2 - (lg_sl ([.ref (sk 0), .int p0])).length) Slot.unset).toArray = ls at hl ⊢
  have hl : lv_has ls 2 [(0, .ref (sk 0)), (1, .int p0)] := hl
  refine lv_aload_n hx hb d_JS_indexOf2_0 rfl (lv_at hl 0 rfl) ?_
  refine lv_iload_n hx hb d_JS_indexOf2_1 rfl (lv_at hl 1 rfl) ?_
  refine lv_iconst (v := 0) hx hb d_JS_indexOf2_2 (by decide) ?_
  refine k_callVi (As := [.int p0, .int 0]) (rest := []) (fun (u : Unit) => []) ⟨hx, hb, hml, hown, hts⟩ (kc_JS_indexOf l dC dI ad ck sk p0 0 (hw := hw)) (cwV 2 hts (gV tw_64 tw_66 tw_67 tw_50 tw_65) rfl rfl rfl hd_JS_indexOf ⟨Nat.le_of_ble_eq_true rfl, Nat.le_of_ble_eq_true rfl⟩) hK hP hD hS hA (XM_c sk) hX [] [] [] rfl rfl (by decide) (by decide) (fun _ => rfl) (vk_recv (N := 1) (len := [strN]) (byt := [strL]) (adK := fun _ => sk 0) (adV := fun _ => sk 1) (i := 0) hX.2.1 (by decide) hS) rfl hl.1 rfl (lv_room (Nat.le_of_ble_eq_true rfl)) d_JS_indexOf2_3 ⟨Nat.zero_le _, Nat.zero_le _⟩ ?_
  intro r_1 u H locs hw hP hD hS
  have hP : va_P (dC, dI) vwCl ([]) H := hP
  have hD : va_D A ([]) := hD
  try dsimp only at hw
  exact W.iret (v := r_1) hx hb hr (fun t ht hW => ⟨⟨r_1, (), rfl, hw, by rw [ht]; exact hP, va_K.moved hW.alike hK, hD⟩, hS.F ht⟩) hS.2.2 d_JS_indexOf2_6

abbrev wd_W_takeSign (ad : Nat → Nat) (ck : Nat → ClassId) (start : Int32) (fin : Int32) (kind : Int32) (oT : Int32) (oC : Int32) (size : Int32) (row : Nat → Int32) : va_W := [(ad 3, .inr (3, [.ref (ad 1), .int start, .int fin, .int kind, .int oT, .int oC])), (ad 1, .inr (2, [.ref (ad 2), .int size])), (ad 2, .inl (ck 0, 4096, .inl row))]
def wp_W_takeSign (post : Int32 → Int32 → Int32 → Prop) (start : Int32) (fin : Int32) (kind : Int32) (oT : Int32) (oC : Int32) (size : Int32) (row : Nat → Int32)  : Prop := wp_T_at (fun (r_1 : Int32) => wp_T_at (fun (r_2 : Int32) => wp_T_at (fun (r_3 : Int32) => wp_W_isTriple (fun (r_4 : Int32) => (r_4 = 0 → (wp_W_isPair (fun (r_6 : Int32) => (r_6 = 0 → (wp_JS_indexOf2 (fun (r_8 : Int32) => (r_8 < 0 → (post 0 fin kind)) ∧ (¬ r_8 < 0 → (wp_W_take (fun (fin_10 : Int32) (kind_11 : Int32) => post 1 fin_10 kind_11) start fin kind oT oC 5 (start + 1)))) ((r_1.toUInt32 % 65536).toInt32))) ∧ (¬ r_6 = 0 → (wp_W_take (fun (fin_12 : Int32) (kind_13 : Int32) => post 1 fin_12 kind_13) start fin kind oT oC 5 (start + 2)))) r_1 r_2)) ∧ (¬ r_4 = 0 → (wp_W_take (fun (fin_14 : Int32) (kind_15 : Int32) => post 1 fin_14 kind_15) start fin kind oT oC 5 (start + 3)))) r_1 r_2 r_3) size row (start + 2)) size row (start + 1)) size row start
set_option maxHeartbeats 4000000 in
set_option maxRecDepth 100000 in
theorem kc_W_takeSign (l : Launch) (dC : Nat → ClassId) (dI : Nat → Nat → Nat) (ad : Nat → Nat) (ck : Nat → ClassId) (sk : Nat → Nat) (start : Int32) (fin : Int32) (kind : Int32) (oT : Int32) (oC : Int32) (size : Int32) (row : Nat → Int32)  {post : Int32 → Int32 → Int32 → Prop} (hw : wp_W_takeSign post start fin kind oT oC size row ) : k_Ci l y_W_takeSign ws_W_takeSign ({ frames := 4, cells := 0, slots := 0, locals := 91 } : Room) (dC, dI) vwCl (TYm ck) (XM sk) [.ref (ad 3)] (wd_W_takeSign ad ck start fin kind oT oC size row) (fun (r : Int32) (u : Int32 × Int32) => post r u.1 u.2) (fun (u : Int32 × Int32) => wd_W_takeSign ad ck start u.1 u.2 oT oC size row) := by
  intro sz
  refine Met.ofW (cc := c_W_takeSign) (maxL := 4) (ret := (some .boolean)) (by decide) rfl ?_
  intro p e s m args below meth c s₁ B hml hv
  obtain ⟨rfl, hsz, hP, hK, hD0, hX⟩ := hv
  have hx := B.exec
  have hb := B.bytes
  have hr := B.returns
  have hts : ∀ w ∈ TB, w.before _ s = true := fun w h => atoms_spec (ws := ws_W_takeSign) B.pre w (List.mem_cons_of_mem _ h)
  have hown : s.vm.findClass R_W = some m.cls := findClass_of_methodNamed B.named
  have hlocks := B.notSynchronized
  subst hsz
  have hD := hD0.self (sz := s.heap.size)
  generalize hAe : va_A (wd_W_takeSign ad ck start fin kind oT oC size row) s.heap.size = A at hD hX ⊢
  have hA : ∀ q : Nat, s.heap.size ≤ q → A q := fun q h => by rw [← hAe]; exact Or.inr h
  have hS : va_S A s.heap s.heap [] := va_S.rf
  have hP : va_P (dC, dI) vwCl (wd_W_takeSign ad ck start fin kind oT oC size row) s.heap := hP
  have hl := lv_entry ([.ref (ad 3)]) (n := 4) (Nat.le_of_ble_eq_true rfl)
  rw [lg_entry_eq]
  generalize (lg_sl ([.ref (ad 3)]) ++ List.replicate (4 - (lg_sl ([.ref (ad 3)])).length) Slot.unset).toArray = ls at hl ⊢
  have hl : lv_has ls 4 [(0, .ref (ad 3))] := hl
  refine lv_aload_n hx hb d_W_takeSign_0 rfl (lv_at hl 0 rfl) ?_
  refine va_get (D := (dC, dI)) (ci := 3) (v := .ref (ad 1)) (C := R_W) (T := T_W) (N := 6) hx hb hts in_W hown hK hP 0 rfl rfl 0 (by decide) (hts _ tw_14) (fun _ h9 => h9) rfl d_W_takeSign_1 ?_
  refine lv_aload_n hx hb d_W_takeSign_4 rfl (lv_at hl 0 rfl) ?_
  refine va_get (D := (dC, dI)) (ci := 3) (v := .int start) (C := R_W) (T := T_W) (N := 6) hx hb hts in_W hown hK hP 0 rfl rfl 1 (by decide) (hts _ tw_11) (fun _ h9 => h9) rfl d_W_takeSign_5 ?_
  refine k_callVi (As := [.int start]) (rest := []) (fun (u : Unit) => wd_W_takeSign ad ck start fin kind oT oC size row) ⟨hx, hb, hml, hown, hts⟩ (kc_T_at l dC dI ad ck size row start (hw := hw)) (cwV 1 hts (gV tw_15 tw_18 tw_19 tw_17 tw_16) rfl rfl rfl hd_T_at ⟨Nat.le_of_ble_eq_true rfl, Nat.le_of_ble_eq_true rfl⟩) hK hP hD hS hA k_x0c trivial [1, 2] [0] [0, 1, 2] rfl rfl (by decide) (by decide) (fun _ => rfl) (va_recv hK hP (ci := 2) (q0 := 1) rfl rfl) rfl hl.1 rfl (lv_room (Nat.le_of_ble_eq_true rfl)) d_W_takeSign_8 ⟨Nat.zero_le _, Nat.zero_le _⟩ ?_
  intro r_1 u H locs hw hP hD hS
  have hP : va_P (dC, dI) vwCl (wd_W_takeSign ad ck start fin kind oT oC size row) H := hP
  have hD : va_D A (wd_W_takeSign ad ck start fin kind oT oC size row) := hD
  try dsimp only at hw
  refine lv_istore_n (lv' := [(1, .int r_1), (0, .ref (ad 3))]) hx hb d_W_takeSign_11 rfl hl (by decide) rfl (fun ls hl => ?_)
  refine lv_aload_n hx hb d_W_takeSign_12 rfl (lv_at hl 1 rfl) ?_
  refine va_get (D := (dC, dI)) (ci := 3) (v := .ref (ad 1)) (C := R_W) (T := T_W) (N := 6) hx hb hts in_W hown hK hP 0 rfl rfl 0 (by decide) (hts _ tw_14) (fun _ h9 => h9) rfl d_W_takeSign_13 ?_
  refine lv_aload_n hx hb d_W_takeSign_16 rfl (lv_at hl 1 rfl) ?_
  refine va_get (D := (dC, dI)) (ci := 3) (v := .int start) (C := R_W) (T := T_W) (N := 6) hx hb hts in_W hown hK hP 0 rfl rfl 1 (by decide) (hts _ tw_11) (fun _ h9 => h9) rfl d_W_takeSign_17 ?_
  refine lv_iconst (v := 1) hx hb d_W_takeSign_20 (by decide) ?_
  refine lv_iadd hx hb d_W_takeSign_21 ?_
  refine k_callVi (As := [.int (start + 1)]) (rest := []) (fun (u : Unit) => wd_W_takeSign ad ck start fin kind oT oC size row) ⟨hx, hb, hml, hown, hts⟩ (kc_T_at l dC dI ad ck size row (start + 1) (hw := hw)) (cwV 1 hts (gV tw_15 tw_18 tw_19 tw_17 tw_16) rfl rfl rfl hd_T_at ⟨Nat.le_of_ble_eq_true rfl, Nat.le_of_ble_eq_true rfl⟩) hK hP hD hS hA k_x0c trivial [1, 2] [0] [0, 1, 2] rfl rfl (by decide) (by decide) (fun _ => rfl) (va_recv hK hP (ci := 2) (q0 := 1) rfl rfl) rfl hl.1 rfl (lv_room (Nat.le_of_ble_eq_true rfl)) d_W_takeSign_22 ⟨Nat.zero_le _, Nat.zero_le _⟩ ?_
  intro r_2 u H locs hw hP hD hS
  have hP : va_P (dC, dI) vwCl (wd_W_takeSign ad ck start fin kind oT oC size row) H := hP
  have hD : va_D A (wd_W_takeSign ad ck start fin kind oT oC size row) := hD
  try dsimp only at hw
  refine lv_istore_n (lv' := [(2, .int r_2), (1, .int r_1), (0, .ref (ad 3))]) hx hb d_W_takeSign_25 rfl hl (by decide) rfl (fun ls hl => ?_)
  refine lv_aload_n hx hb d_W_takeSign_26 rfl (lv_at hl 2 rfl) ?_
  refine va_get (D := (dC, dI)) (ci := 3) (v := .ref (ad 1)) (C := R_W) (T := T_W) (N := 6) hx hb hts in_W hown hK hP 0 rfl rfl 0 (by decide) (hts _ tw_14) (fun _ h9 => h9) rfl d_W_takeSign_27 ?_
  refine lv_aload_n hx hb d_W_takeSign_30 rfl (lv_at hl 2 rfl) ?_
  refine va_get (D := (dC, dI)) (ci := 3) (v := .int start) (C := R_W) (T := T_W) (N := 6) hx hb hts in_W hown hK hP 0 rfl rfl 1 (by decide) (hts _ tw_11) (fun _ h9 => h9) rfl d_W_takeSign_31 ?_
  refine lv_iconst (v := 2) hx hb d_W_takeSign_34 (by decide) ?_
  refine lv_iadd hx hb d_W_takeSign_35 ?_
  refine k_callVi (As := [.int (start + 2)]) (rest := []) (fun (u : Unit) => wd_W_takeSign ad ck start fin kind oT oC size row) ⟨hx, hb, hml, hown, hts⟩ (kc_T_at l dC dI ad ck size row (start + 2) (hw := hw)) (cwV 1 hts (gV tw_15 tw_18 tw_19 tw_17 tw_16) rfl rfl rfl hd_T_at ⟨Nat.le_of_ble_eq_true rfl, Nat.le_of_ble_eq_true rfl⟩) hK hP hD hS hA k_x0c trivial [1, 2] [0] [0, 1, 2] rfl rfl (by decide) (by decide) (fun _ => rfl) (va_recv hK hP (ci := 2) (q0 := 1) rfl rfl) rfl hl.1 rfl (lv_room (Nat.le_of_ble_eq_true rfl)) d_W_takeSign_36 ⟨Nat.zero_le _, Nat.zero_le _⟩ ?_
  intro r_3 u H locs hw hP hD hS
  have hP : va_P (dC, dI) vwCl (wd_W_takeSign ad ck start fin kind oT oC size row) H := hP
  have hD : va_D A (wd_W_takeSign ad ck start fin kind oT oC size row) := hD
  try dsimp only at hw
  refine lv_istore_n (lv' := [(3, .int r_3), (2, .int r_2), (1, .int r_1), (0, .ref (ad 3))]) hx hb d_W_takeSign_39 rfl hl (by decide) rfl (fun ls hl => ?_)
  refine lv_iload_n hx hb d_W_takeSign_40 rfl (lv_at hl 2 rfl) ?_
  refine lv_iload_n hx hb d_W_takeSign_41 rfl (lv_at hl 1 rfl) ?_
  refine lv_iload_n hx hb d_W_takeSign_42 rfl (lv_at hl 0 rfl) ?_
  refine k_callSi (As := [.int r_1, .int r_2, .int r_3]) (rest := []) (fun (u : Unit) => wd_W_takeSign ad ck start fin kind oT oC size row) ⟨hx, hb, hml, hown, hts⟩ (kc_W_isTriple l dC dI ad ck r_1 r_2 r_3 (hw := hw)) (va_cwS 3 hts (gS tw_68 tw_70 tw_6 tw_69) rfl rfl rfl hd_W_isTriple ⟨Nat.le_of_ble_eq_true rfl, Nat.le_of_ble_eq_true rfl⟩) hK hP hD hS hA k_x0c trivial [] [0, 1, 2] [0, 1, 2] rfl rfl (by decide) (by decide) (fun _ => rfl) rfl hl.1 rfl (lv_room (Nat.le_of_ble_eq_true rfl)) d_W_takeSign_43 ⟨Nat.zero_le _, Nat.zero_le _⟩ ?_
  intro r_4 u H locs hw hP hD hS
  have hP : va_P (dC, dI) vwCl (wd_W_takeSign ad ck start fin kind oT oC size row) H := hP
  have hD : va_D A (wd_W_takeSign ad ck start fin kind oT oC size row) := hD
  try dsimp only at hw
  obtain ⟨hwt, hwf⟩ := hw
  refine lv_if_eq (tgt := 63) hx hb d_W_takeSign_46 (by decide) (fun c_5 => ?_) (fun c_5 => ?_)
  · have hw := hwt c_5
    refine lv_iload_n hx hb d_W_takeSign_63 rfl (lv_at hl 2 rfl) ?_
    refine lv_iload_n hx hb d_W_takeSign_64 rfl (lv_at hl 1 rfl) ?_
    refine k_callSi (As := [.int r_1, .int r_2]) (rest := []) (fun (u : Unit) => wd_W_takeSign ad ck start fin kind oT oC size row) ⟨hx, hb, hml, hown, hts⟩ (kc_W_isPair l dC dI ad ck r_1 r_2 (hw := hw)) (va_cwS 2 hts (gS tw_71 tw_73 tw_6 tw_72) rfl rfl rfl hd_W_isPair ⟨Nat.le_of_ble_eq_true rfl, Nat.le_of_ble_eq_true rfl⟩) hK hP hD hS hA k_x0c trivial [] [0, 1, 2] [0, 1, 2] rfl rfl (by decide) (by decide) (fun _ => rfl) rfl hl.1 rfl (lv_room (Nat.le_of_ble_eq_true rfl)) d_W_takeSign_65 ⟨Nat.zero_le _, Nat.zero_le _⟩ ?_
    intro r_6 u H locs hw hP hD hS
    have hP : va_P (dC, dI) vwCl (wd_W_takeSign ad ck start fin kind oT oC size row) H := hP
    have hD : va_D A (wd_W_takeSign ad ck start fin kind oT oC size row) := hD
    try dsimp only at hw
    obtain ⟨hwt, hwf⟩ := hw
    refine lv_if_eq (tgt := 85) hx hb d_W_takeSign_68 (by decide) (fun c_7 => ?_) (fun c_7 => ?_)
    · have hw := hwt c_7
      refine va_ldcS hx hb hown hX.1 d_W_takeSign_85 ?_
      refine lv_iload_n hx hb d_W_takeSign_87 rfl (lv_at hl 2 rfl) ?_
      refine lv_i2c (v := (r_1.toUInt32 % 65536).toInt32) hx hb d_W_takeSign_88 rfl ?_
      refine k_callVi (As := [.int ((r_1.toUInt32 % 65536).toInt32)]) (rest := []) (fun (u : Unit) => wd_W_takeSign ad ck start fin kind oT oC size row) ⟨hx, hb, hml, hown, hts⟩ (kc_JS_indexOf2 l dC dI ad ck sk ((r_1.toUInt32 % 65536).toInt32) (hw := hw)) (cwV 1 hts (gV tw_74 tw_76 tw_77 tw_50 tw_75) rfl rfl rfl hd_JS_indexOf2 ⟨Nat.le_of_ble_eq_true rfl, Nat.le_of_ble_eq_true rfl⟩) hK hP hD hS hA (XM_c sk) hX [] [0, 1, 2] [0, 1, 2] rfl rfl (by decide) (by decide) (fun _ => rfl) (vk_recv (N := 1) (len := [strN]) (byt := [strL]) (adK := fun _ => sk 0) (adV := fun _ => sk 1) (i := 0) hX.2.1 (by decide) hS) rfl hl.1 rfl (lv_room (Nat.le_of_ble_eq_true rfl)) d_W_takeSign_89 ⟨Nat.zero_le _, Nat.zero_le _⟩ ?_
      intro r_8 u H locs hw hP hD hS
      have hP : va_P (dC, dI) vwCl (wd_W_takeSign ad ck start fin kind oT oC size row) H := hP
      have hD : va_D A (wd_W_takeSign ad ck start fin kind oT oC size row) := hD
      try dsimp only at hw
      obtain ⟨hwt, hwf⟩ := hw
      refine lv_if_lt (tgt := 109) hx hb d_W_takeSign_92 (by decide) (fun c_9 => ?_) (fun c_9 => ?_)
      · have hw := hwt c_9
        refine lv_iconst (v := 0) hx hb d_W_takeSign_109 (by decide) ?_
        exact W.zret (v := 0) hx hb hr (by decide) (fun t ht hW => ⟨⟨0, (fin, kind), rfl, hw, by rw [ht]; exact hP, va_K.moved hW.alike hK, hD⟩, hS.F ht⟩) hS.2.2 d_W_takeSign_110
      · have hw := hwf c_9
        refine lv_aload_n hx hb d_W_takeSign_95 rfl (lv_at hl 3 rfl) ?_
        refine lv_iconst (v := 5) hx hb d_W_takeSign_96 (by decide) ?_
        refine lv_aload_n hx hb d_W_takeSign_97 rfl (lv_at hl 3 rfl) ?_
        refine va_get (D := (dC, dI)) (ci := 3) (v := .int start) (C := R_W) (T := T_W) (N := 6) hx hb hts in_W hown hK hP 0 rfl rfl 1 (by decide) (hts _ tw_11) (fun _ h9 => h9) rfl d_W_takeSign_98 ?_
        refine lv_iconst (v := 1) hx hb d_W_takeSign_101 (by decide) ?_
        refine lv_iadd hx hb d_W_takeSign_102 ?_
        refine k_callVv (As := [.int 5, .int (start + 1)]) (rest := []) (fun (u : Int32 × Int32) => wd_W_takeSign ad ck start u.1 u.2 oT oC size row) ⟨hx, hb, hml, hown, hts⟩ (kc_W_take l dC dI ad ck start fin kind oT oC 5 (start + 1) (hw := hw)) (cwV 2 hts (gV tw_24 tw_26 tw_27 tw_6 tw_25) rfl rfl rfl hd_W_take ⟨Nat.le_of_ble_eq_true rfl, Nat.le_of_ble_eq_true rfl⟩) hK hP hD hS hA k_x0c trivial [0] [1, 2] [2, 0, 1] rfl rfl (by decide) (by decide) (fun _ => rfl) (va_recv hK hP (ci := 3) (q0 := 0) rfl rfl) rfl hl.1 rfl (lv_room (Nat.le_of_ble_eq_true rfl)) d_W_takeSign_103 ⟨Nat.zero_le _, Nat.zero_le _⟩ ?_
        intro u H locs hw hP hD hS
        obtain ⟨fin_10, kind_11⟩ := u
        have hP : va_P (dC, dI) vwCl (wd_W_takeSign ad ck start fin_10 kind_11 oT oC size row) H := hP
        have hD : va_D A (wd_W_takeSign ad ck start fin_10 kind_11 oT oC size row) := hD
        try dsimp only at hw
        refine lv_goto (tgt := 111) hx hb d_W_takeSign_106 (by decide) ?_
        refine lv_iconst (v := 1) hx hb d_W_takeSign_111 (by decide) ?_
        exact W.zret (v := 1) hx hb hr (by decide) (fun t ht hW => ⟨⟨1, (fin_10, kind_11), rfl, hw, by rw [ht]; exact hP, va_K.moved hW.alike hK, hD⟩, hS.F ht⟩) hS.2.2 d_W_takeSign_112
    · have hw := hwf c_7
      refine lv_aload_n hx hb d_W_takeSign_71 rfl (lv_at hl 3 rfl) ?_
      refine lv_iconst (v := 5) hx hb d_W_takeSign_72 (by decide) ?_
      refine lv_aload_n hx hb d_W_takeSign_73 rfl (lv_at hl 3 rfl) ?_
      refine va_get (D := (dC, dI)) (ci := 3) (v := .int start) (C := R_W) (T := T_W) (N := 6) hx hb hts in_W hown hK hP 0 rfl rfl 1 (by decide) (hts _ tw_11) (fun _ h9 => h9) rfl d_W_takeSign_74 ?_
      refine lv_iconst (v := 2) hx hb d_W_takeSign_77 (by decide) ?_
      refine lv_iadd hx hb d_W_takeSign_78 ?_
      refine k_callVv (As := [.int 5, .int (start + 2)]) (rest := []) (fun (u : Int32 × Int32) => wd_W_takeSign ad ck start u.1 u.2 oT oC size row) ⟨hx, hb, hml, hown, hts⟩ (kc_W_take l dC dI ad ck start fin kind oT oC 5 (start + 2) (hw := hw)) (cwV 2 hts (gV tw_24 tw_26 tw_27 tw_6 tw_25) rfl rfl rfl hd_W_take ⟨Nat.le_of_ble_eq_true rfl, Nat.le_of_ble_eq_true rfl⟩) hK hP hD hS hA k_x0c trivial [0] [1, 2] [2, 0, 1] rfl rfl (by decide) (by decide) (fun _ => rfl) (va_recv hK hP (ci := 3) (q0 := 0) rfl rfl) rfl hl.1 rfl (lv_room (Nat.le_of_ble_eq_true rfl)) d_W_takeSign_79 ⟨Nat.zero_le _, Nat.zero_le _⟩ ?_
      intro u H locs hw hP hD hS
      obtain ⟨fin_12, kind_13⟩ := u
      have hP : va_P (dC, dI) vwCl (wd_W_takeSign ad ck start fin_12 kind_13 oT oC size row) H := hP
      have hD : va_D A (wd_W_takeSign ad ck start fin_12 kind_13 oT oC size row) := hD
      try dsimp only at hw
      refine lv_goto (tgt := 111) hx hb d_W_takeSign_82 (by decide) ?_
      refine lv_iconst (v := 1) hx hb d_W_takeSign_111 (by decide) ?_
      exact W.zret (v := 1) hx hb hr (by decide) (fun t ht hW => ⟨⟨1, (fin_12, kind_13), rfl, hw, by rw [ht]; exact hP, va_K.moved hW.alike hK, hD⟩, hS.F ht⟩) hS.2.2 d_W_takeSign_112
  · have hw := hwf c_5
    refine lv_aload_n hx hb d_W_takeSign_49 rfl (lv_at hl 3 rfl) ?_
    refine lv_iconst (v := 5) hx hb d_W_takeSign_50 (by decide) ?_
    refine lv_aload_n hx hb d_W_takeSign_51 rfl (lv_at hl 3 rfl) ?_
    refine va_get (D := (dC, dI)) (ci := 3) (v := .int start) (C := R_W) (T := T_W) (N := 6) hx hb hts in_W hown hK hP 0 rfl rfl 1 (by decide) (hts _ tw_11) (fun _ h9 => h9) rfl d_W_takeSign_52 ?_
    refine lv_iconst (v := 3) hx hb d_W_takeSign_55 (by decide) ?_
    refine lv_iadd hx hb d_W_takeSign_56 ?_
    refine k_callVv (As := [.int 5, .int (start + 3)]) (rest := []) (fun (u : Int32 × Int32) => wd_W_takeSign ad ck start u.1 u.2 oT oC size row) ⟨hx, hb, hml, hown, hts⟩ (kc_W_take l dC dI ad ck start fin kind oT oC 5 (start + 3) (hw := hw)) (cwV 2 hts (gV tw_24 tw_26 tw_27 tw_6 tw_25) rfl rfl rfl hd_W_take ⟨Nat.le_of_ble_eq_true rfl, Nat.le_of_ble_eq_true rfl⟩) hK hP hD hS hA k_x0c trivial [0] [1, 2] [2, 0, 1] rfl rfl (by decide) (by decide) (fun _ => rfl) (va_recv hK hP (ci := 3) (q0 := 0) rfl rfl) rfl hl.1 rfl (lv_room (Nat.le_of_ble_eq_true rfl)) d_W_takeSign_57 ⟨Nat.zero_le _, Nat.zero_le _⟩ ?_
    intro u H locs hw hP hD hS
    obtain ⟨fin_14, kind_15⟩ := u
    have hP : va_P (dC, dI) vwCl (wd_W_takeSign ad ck start fin_14 kind_15 oT oC size row) H := hP
    have hD : va_D A (wd_W_takeSign ad ck start fin_14 kind_15 oT oC size row) := hD
    try dsimp only at hw
    refine lv_goto (tgt := 111) hx hb d_W_takeSign_60 (by decide) ?_
    refine lv_iconst (v := 1) hx hb d_W_takeSign_111 (by decide) ?_
    exact W.zret (v := 1) hx hb hr (by decide) (fun t ht hW => ⟨⟨1, (fin_14, kind_15), rfl, hw, by rw [ht]; exact hP, va_K.moved hW.alike hK, hD⟩, hS.F ht⟩) hS.2.2 d_W_takeSign_112

abbrev wd_W_step (ad : Nat → Nat) (ck : Nat → ClassId) (start : Int32) (fin : Int32) (kind : Int32) (oT : Int32) (oC : Int32) (size : Int32) (row : Nat → Int32) : va_W := [(ad 3, .inr (3, [.ref (ad 1), .int start, .int fin, .int kind, .int oT, .int oC])), (ad 1, .inr (2, [.ref (ad 2), .int size])), (ad 2, .inl (ck 0, 4096, .inl row))]
def w_W_step_36 (post : Int32 → Int32 → Int32 → Int32 → Int32 → Int32 → Prop) (x1 : Int32) (start : Int32) (fin : Int32) (kind : Int32) (oT : Int32) (oC : Int32) (size : Int32) (row : Nat → Int32) : Prop := (x1 < size → (wp_W_takeQuoted (fun (r_3 : Int32) (fin_4 : Int32) (kind_5 : Int32) (oT_6 : Int32) (oC_7 : Int32) => (r_3 = 0 → (wp_W_takeName (fun (r_9 : Int32) (fin_10 : Int32) (kind_11 : Int32) => (r_9 = 0 → (wp_W_takeNumber (fun (r_13 : Int32) (fin_14 : Int32) (kind_15 : Int32) => (r_13 = 0 → (wp_W_takeSign (fun (r_17 : Int32) (fin_18 : Int32) (kind_19 : Int32) => (r_17 = 0 → (wp_W_take (fun (fin_21 : Int32) (kind_22 : Int32) => post 1 x1 fin_21 kind_22 oT_6 oC_7) x1 fin_18 kind_19 oT_6 oC_7 6 (x1 + 1))) ∧ (¬ r_17 = 0 → (post 1 x1 fin_18 kind_19 oT_6 oC_7))) x1 fin_14 kind_15 oT_6 oC_7 size row)) ∧ (¬ r_13 = 0 → (post 1 x1 fin_14 kind_15 oT_6 oC_7))) x1 fin_10 kind_11 oT_6 oC_7 size row)) ∧ (¬ r_9 = 0 → (post 1 x1 fin_10 kind_11 oT_6 oC_7))) x1 fin_4 kind_5 oT_6 oC_7 size row)) ∧ (¬ r_3 = 0 → (post 1 x1 fin_4 kind_5 oT_6 oC_7))) x1 x1 kind oT oC size row)) ∧ (¬ x1 < size → (post 0 x1 x1 kind oT oC))
def w_W_step_5 (post : Int32 → Int32 → Int32 → Int32 → Int32 → Int32 → Prop) (start : Int32) (fin : Int32) (kind : Int32) (oT : Int32) (oC : Int32) (size : Int32) (row : Nat → Int32) : Nat → Int32 → Prop
  | 0 => fun _ => False
  | n + 1 => fun x1 => (size ≤ x1 → (w_W_step_36 post x1 start fin kind oT oC size row)) ∧ (¬ size ≤ x1 → (wp_T_at (fun (r_23 : Int32) => wp_W_isBlank (fun (r_24 : Int32) => (r_24 = 0 → (w_W_step_36 post x1 start fin kind oT oC size row)) ∧ (¬ r_24 = 0 → (∀ x1_26 : Int32, x1_26 = x1 + 1 → (w_W_step_5 post start fin kind oT oC size row n x1_26)))) r_23) size row x1))
def wp_W_step (post : Int32 → Int32 → Int32 → Int32 → Int32 → Int32 → Prop) (start : Int32) (fin : Int32) (kind : Int32) (oT : Int32) (oC : Int32) (size : Int32) (row : Nat → Int32)  : Prop := ∃ fu5 : Nat, w_W_step_5 post start fin kind oT oC size row fu5 fin
set_option maxHeartbeats 4000000 in
set_option maxRecDepth 100000 in
theorem kc_W_step (l : Launch) (dC : Nat → ClassId) (dI : Nat → Nat → Nat) (ad : Nat → Nat) (ck : Nat → ClassId) (sk : Nat → Nat) (start : Int32) (fin : Int32) (kind : Int32) (oT : Int32) (oC : Int32) (size : Int32) (row : Nat → Int32)  {post : Int32 → Int32 → Int32 → Int32 → Int32 → Int32 → Prop} (hw : wp_W_step post start fin kind oT oC size row ) : k_Ci l y_W_step ws_W_step ({ frames := 5, cells := 0, slots := 0, locals := 114 } : Room) (dC, dI) vwCl (TYm ck) (XM sk) [.ref (ad 3)] (wd_W_step ad ck start fin kind oT oC size row) (fun (r : Int32) (u : Int32 × Int32 × Int32 × Int32 × Int32) => post r u.1 u.2.1 u.2.2.1 u.2.2.2.1 u.2.2.2.2) (fun (u : Int32 × Int32 × Int32 × Int32 × Int32) => wd_W_step ad ck u.1 u.2.1 u.2.2.1 u.2.2.2.1 u.2.2.2.2 size row) := by
  intro sz
  refine Met.ofW (cc := c_W_step) (maxL := 2) (ret := (some .boolean)) (by decide) rfl ?_
  intro p e s m args below meth c s₁ B hml hv
  obtain ⟨rfl, hsz, hP, hK, hD0, hX⟩ := hv
  have hx := B.exec
  have hb := B.bytes
  have hr := B.returns
  have hts : ∀ w ∈ TB, w.before _ s = true := fun w h => atoms_spec (ws := ws_W_step) B.pre w (List.mem_cons_of_mem _ h)
  have hown : s.vm.findClass R_W = some m.cls := findClass_of_methodNamed B.named
  have hlocks := B.notSynchronized
  subst hsz
  have hD := hD0.self (sz := s.heap.size)
  generalize hAe : va_A (wd_W_step ad ck start fin kind oT oC size row) s.heap.size = A at hD hX ⊢
  have hA : ∀ q : Nat, s.heap.size ≤ q → A q := fun q h => by rw [← hAe]; exact Or.inr h
  have hS : va_S A s.heap s.heap [] := va_S.rf
  have hP : va_P (dC, dI) vwCl (wd_W_step ad ck start fin kind oT oC size row) s.heap := hP
  have hl := lv_entry ([.ref (ad 3)]) (n := 2) (Nat.le_of_ble_eq_true rfl)
  rw [lg_entry_eq]
  generalize (lg_sl ([.ref (ad 3)]) ++ List.replicate (2 - (lg_sl ([.ref (ad 3)])).length) Slot.unset).toArray = ls at hl ⊢
  have hl : lv_has ls 2 [(0, .ref (ad 3))] := hl
  have L_36 : ∀ (x1 : Int32) (start : Int32) (fin : Int32) (kind : Int32) (oT : Int32) (oC : Int32) (size : Int32) (row : Nat → Int32) (H : Heap) (locs : List Loc) (ls : Array Slot), w_W_step_36 post x1 start fin kind oT oC size row → va_P (dC, dI) vwCl (wd_W_step ad ck start fin kind oT oC size row) H → va_D A (wd_W_step ad ck start fin kind oT oC size row) → va_S A s.heap H locs → lv_has ls 2 [(0, .ref (ad 3)), (1, .int x1)] → W p l e (headSpec ws_W_step ({ frames := 5, cells := 0, slots := 0, locals := 114 } : Room)).room s m ([.ref (ad 3)] : List Value).toArray below meth c H locs 0 0 (k_Qi below (dC, dI) vwCl (TYm ck) A (fun (r : Int32) (u : Int32 × Int32 × Int32 × Int32 × Int32) => post r u.1 u.2.1 u.2.2.1 u.2.2.2.1 u.2.2.2.2) (fun (u : Int32 × Int32 × Int32 × Int32 × Int32) => wd_W_step ad ck u.1 u.2.1 u.2.2.1 u.2.2.2.1 u.2.2.2.2 size row) ([.ref (ad 3)] : List Value).toArray s) (F0 m 36 ls []) := by
    intro x1 start fin kind oT oC size row H locs ls hw hP hD hS hl
    refine lv_aload_n hx hb d_W_step_36 rfl (lv_at hl 0 rfl) ?_
    refine lv_iload_n hx hb d_W_step_37 rfl (lv_at hl 1 rfl) ?_
    refine va_put (D := (dC, dI)) (ci := 3) (v := .int x1) (ty := .int) (C := R_W) (T := T_W) (N := 6) hx hb hts in_W ty_W ty_W_ok nm_W hown hK hP hD hS 0 rfl rfl 1 (by decide) (hts _ tw_11) (fun _ h9 => h9) rfl (by decide +kernel) rfl rfl (Nat.le_of_ble_eq_true rfl) d_W_step_38 (fun H locs hP hD hS => ?_)
    have hP : va_P (dC, dI) vwCl (wd_W_step ad ck x1 fin kind oT oC size row) H := hP
    have hD : va_D A (wd_W_step ad ck x1 fin kind oT oC size row) := hD
    refine lv_aload_n hx hb d_W_step_41 rfl (lv_at hl 0 rfl) ?_
    refine lv_iload_n hx hb d_W_step_42 rfl (lv_at hl 1 rfl) ?_
    refine va_put (D := (dC, dI)) (ci := 3) (v := .int x1) (ty := .int) (C := R_W) (T := T_W) (N := 6) hx hb hts in_W ty_W ty_W_ok nm_W hown hK hP hD hS 0 rfl rfl 2 (by decide) (hts _ tw_3) (fun _ h9 => h9) rfl (by decide +kernel) rfl rfl (Nat.le_of_ble_eq_true rfl) d_W_step_43 (fun H locs hP hD hS => ?_)
    have hP : va_P (dC, dI) vwCl (wd_W_step ad ck x1 x1 kind oT oC size row) H := hP
    have hD : va_D A (wd_W_step ad ck x1 x1 kind oT oC size row) := hD
    refine lv_iload_n hx hb d_W_step_46 rfl (lv_at hl 1 rfl) ?_
    refine lv_aload_n hx hb d_W_step_47 rfl (lv_at hl 0 rfl) ?_
    refine va_get (D := (dC, dI)) (ci := 3) (v := .ref (ad 1)) (C := R_W) (T := T_W) (N := 6) hx hb hts in_W hown hK hP 0 rfl rfl 0 (by decide) (hts _ tw_14) (fun _ h9 => h9) rfl d_W_step_48 ?_
    refine va_getN (D := (dC, dI)) (ci := 2) (v := .int size) (C := R_T) (T := T_T) (N := 2) hx hb hts in_T hown hK hP 1 rfl rfl 1 (by decide) (va_Nw.use rfl (hX.2.2.2 _ nw_0)) (fun _ h9 => h9) rfl d_W_step_51 ?_
    obtain ⟨hwt, hwf⟩ := hw
    refine lv_icmp_lt (tgt := 59) hx hb d_W_step_54 (by decide) (fun c_2 => ?_) (fun c_2 => ?_)
    · have hw := hwt c_2
      refine lv_aload_n hx hb d_W_step_59 rfl (lv_at hl 0 rfl) ?_
      refine k_callVi (As := []) (rest := []) (fun (u : Int32 × Int32 × Int32 × Int32) => wd_W_step ad ck x1 u.1 u.2.1 u.2.2.1 u.2.2.2 size row) ⟨hx, hb, hml, hown, hts⟩ (kc_W_takeQuoted l dC dI ad ck sk x1 x1 kind oT oC size row (hw := hw)) (cwV 0 hts (gV tw_78 tw_80 tw_81 tw_6 tw_79) rfl rfl rfl hd_W_takeQuoted ⟨Nat.le_of_ble_eq_true rfl, Nat.le_of_ble_eq_true rfl⟩) hK hP hD hS hA (XM_c sk) hX [0, 1, 2] [] [0, 1, 2] rfl rfl (by decide) (by decide) (fun _ => rfl) (va_recv hK hP (ci := 3) (q0 := 0) rfl rfl) rfl hl.1 rfl (lv_room (Nat.le_of_ble_eq_true rfl)) d_W_step_60 ⟨Nat.zero_le _, Nat.zero_le _⟩ ?_
      intro r_3 u H locs hw hP hD hS
      obtain ⟨fin_4, kind_5, oT_6, oC_7⟩ := u
      have hP : va_P (dC, dI) vwCl (wd_W_step ad ck x1 fin_4 kind_5 oT_6 oC_7 size row) H := hP
      have hD : va_D A (wd_W_step ad ck x1 fin_4 kind_5 oT_6 oC_7 size row) := hD
      try dsimp only at hw
      obtain ⟨hwt, hwf⟩ := hw
      refine lv_if_ne (tgt := 99) hx hb d_W_step_63 (by decide) (fun c_8 => ?_) (fun c_8 => ?_)
      · have hw := hwf c_8
        refine lv_iconst (v := 1) hx hb d_W_step_99 (by decide) ?_
        exact W.zret (v := 1) hx hb hr (by decide) (fun t ht hW => ⟨⟨1, (x1, fin_4, kind_5, oT_6, oC_7), rfl, hw, by rw [ht]; exact hP, va_K.moved hW.alike hK, hD⟩, hS.F ht⟩) hS.2.2 d_W_step_100
      · have hw := hwt c_8
        refine lv_aload_n hx hb d_W_step_66 rfl (lv_at hl 0 rfl) ?_
        refine k_callVi (As := []) (rest := []) (fun (u : Int32 × Int32) => wd_W_step ad ck x1 u.1 u.2 oT_6 oC_7 size row) ⟨hx, hb, hml, hown, hts⟩ (kc_W_takeName l dC dI ad ck sk x1 fin_4 kind_5 oT_6 oC_7 size row (hw := hw)) (cwV 0 hts (gV tw_82 tw_84 tw_85 tw_6 tw_83) rfl rfl rfl hd_W_takeName ⟨Nat.le_of_ble_eq_true rfl, Nat.le_of_ble_eq_true rfl⟩) hK hP hD hS hA (XM_c sk) hX [0, 1, 2] [] [0, 1, 2] rfl rfl (by decide) (by decide) (fun _ => rfl) (va_recv hK hP (ci := 3) (q0 := 0) rfl rfl) rfl hl.1 rfl (lv_room (Nat.le_of_ble_eq_true rfl)) d_W_step_67 ⟨Nat.zero_le _, Nat.zero_le _⟩ ?_
        intro r_9 u H locs hw hP hD hS
        obtain ⟨fin_10, kind_11⟩ := u
        have hP : va_P (dC, dI) vwCl (wd_W_step ad ck x1 fin_10 kind_11 oT_6 oC_7 size row) H := hP
        have hD : va_D A (wd_W_step ad ck x1 fin_10 kind_11 oT_6 oC_7 size row) := hD
        try dsimp only at hw
        obtain ⟨hwt, hwf⟩ := hw
        refine lv_if_ne (tgt := 99) hx hb d_W_step_70 (by decide) (fun c_12 => ?_) (fun c_12 => ?_)
        · have hw := hwf c_12
          refine lv_iconst (v := 1) hx hb d_W_step_99 (by decide) ?_
          exact W.zret (v := 1) hx hb hr (by decide) (fun t ht hW => ⟨⟨1, (x1, fin_10, kind_11, oT_6, oC_7), rfl, hw, by rw [ht]; exact hP, va_K.moved hW.alike hK, hD⟩, hS.F ht⟩) hS.2.2 d_W_step_100
        · have hw := hwt c_12
          refine lv_aload_n hx hb d_W_step_73 rfl (lv_at hl 0 rfl) ?_
          refine k_callVi (As := []) (rest := []) (fun (u : Int32 × Int32) => wd_W_step ad ck x1 u.1 u.2 oT_6 oC_7 size row) ⟨hx, hb, hml, hown, hts⟩ (kc_W_takeNumber l dC dI ad ck sk x1 fin_10 kind_11 oT_6 oC_7 size row (hw := hw)) (cwV 0 hts (gV tw_86 tw_88 tw_89 tw_6 tw_87) rfl rfl rfl hd_W_takeNumber ⟨Nat.le_of_ble_eq_true rfl, Nat.le_of_ble_eq_true rfl⟩) hK hP hD hS hA (XM_c sk) hX [0, 1, 2] [] [0, 1, 2] rfl rfl (by decide) (by decide) (fun _ => rfl) (va_recv hK hP (ci := 3) (q0 := 0) rfl rfl) rfl hl.1 rfl (lv_room (Nat.le_of_ble_eq_true rfl)) d_W_step_74 ⟨Nat.zero_le _, Nat.zero_le _⟩ ?_
          intro r_13 u H locs hw hP hD hS
          obtain ⟨fin_14, kind_15⟩ := u
          have hP : va_P (dC, dI) vwCl (wd_W_step ad ck x1 fin_14 kind_15 oT_6 oC_7 size row) H := hP
          have hD : va_D A (wd_W_step ad ck x1 fin_14 kind_15 oT_6 oC_7 size row) := hD
          try dsimp only at hw
          obtain ⟨hwt, hwf⟩ := hw
          refine lv_if_ne (tgt := 99) hx hb d_W_step_77 (by decide) (fun c_16 => ?_) (fun c_16 => ?_)
          · have hw := hwf c_16
            refine lv_iconst (v := 1) hx hb d_W_step_99 (by decide) ?_
            exact W.zret (v := 1) hx hb hr (by decide) (fun t ht hW => ⟨⟨1, (x1, fin_14, kind_15, oT_6, oC_7), rfl, hw, by rw [ht]; exact hP, va_K.moved hW.alike hK, hD⟩, hS.F ht⟩) hS.2.2 d_W_step_100
          · have hw := hwt c_16
            refine lv_aload_n hx hb d_W_step_80 rfl (lv_at hl 0 rfl) ?_
            refine k_callVi (As := []) (rest := []) (fun (u : Int32 × Int32) => wd_W_step ad ck x1 u.1 u.2 oT_6 oC_7 size row) ⟨hx, hb, hml, hown, hts⟩ (kc_W_takeSign l dC dI ad ck sk x1 fin_14 kind_15 oT_6 oC_7 size row (hw := hw)) (cwV 0 hts (gV tw_90 tw_92 tw_93 tw_6 tw_91) rfl rfl rfl hd_W_takeSign ⟨Nat.le_of_ble_eq_true rfl, Nat.le_of_ble_eq_true rfl⟩) hK hP hD hS hA (XM_c sk) hX [0, 1, 2] [] [0, 1, 2] rfl rfl (by decide) (by decide) (fun _ => rfl) (va_recv hK hP (ci := 3) (q0 := 0) rfl rfl) rfl hl.1 rfl (lv_room (Nat.le_of_ble_eq_true rfl)) d_W_step_81 ⟨Nat.zero_le _, Nat.zero_le _⟩ ?_
            intro r_17 u H locs hw hP hD hS
            obtain ⟨fin_18, kind_19⟩ := u
            have hP : va_P (dC, dI) vwCl (wd_W_step ad ck x1 fin_18 kind_19 oT_6 oC_7 size row) H := hP
            have hD : va_D A (wd_W_step ad ck x1 fin_18 kind_19 oT_6 oC_7 size row) := hD
            try dsimp only at hw
            obtain ⟨hwt, hwf⟩ := hw
            refine lv_if_ne (tgt := 99) hx hb d_W_step_84 (by decide) (fun c_20 => ?_) (fun c_20 => ?_)
            · have hw := hwf c_20
              refine lv_iconst (v := 1) hx hb d_W_step_99 (by decide) ?_
              exact W.zret (v := 1) hx hb hr (by decide) (fun t ht hW => ⟨⟨1, (x1, fin_18, kind_19, oT_6, oC_7), rfl, hw, by rw [ht]; exact hP, va_K.moved hW.alike hK, hD⟩, hS.F ht⟩) hS.2.2 d_W_step_100
            · have hw := hwt c_20
              refine lv_aload_n hx hb d_W_step_87 rfl (lv_at hl 0 rfl) ?_
              refine lv_bipush (v := 6) hx hb d_W_step_88 (by decide) ?_
              refine lv_aload_n hx hb d_W_step_90 rfl (lv_at hl 0 rfl) ?_
              refine va_get (D := (dC, dI)) (ci := 3) (v := .int x1) (C := R_W) (T := T_W) (N := 6) hx hb hts in_W hown hK hP 0 rfl rfl 1 (by decide) (hts _ tw_11) (fun _ h9 => h9) rfl d_W_step_91 ?_
              refine lv_iconst (v := 1) hx hb d_W_step_94 (by decide) ?_
              refine lv_iadd hx hb d_W_step_95 ?_
              refine k_callVv (As := [.int 6, .int (x1 + 1)]) (rest := []) (fun (u : Int32 × Int32) => wd_W_step ad ck x1 u.1 u.2 oT_6 oC_7 size row) ⟨hx, hb, hml, hown, hts⟩ (kc_W_take l dC dI ad ck x1 fin_18 kind_19 oT_6 oC_7 6 (x1 + 1) (hw := hw)) (cwV 2 hts (gV tw_24 tw_26 tw_27 tw_6 tw_25) rfl rfl rfl hd_W_take ⟨Nat.le_of_ble_eq_true rfl, Nat.le_of_ble_eq_true rfl⟩) hK hP hD hS hA k_x0c trivial [0] [1, 2] [2, 0, 1] rfl rfl (by decide) (by decide) (fun _ => rfl) (va_recv hK hP (ci := 3) (q0 := 0) rfl rfl) rfl hl.1 rfl (lv_room (Nat.le_of_ble_eq_true rfl)) d_W_step_96 ⟨Nat.zero_le _, Nat.zero_le _⟩ ?_
              intro u H locs hw hP hD hS
              obtain ⟨fin_21, kind_22⟩ := u
              have hP : va_P (dC, dI) vwCl (wd_W_step ad ck x1 fin_21 kind_22 oT_6 oC_7 size row) H := hP
              have hD : va_D A (wd_W_step ad ck x1 fin_21 kind_22 oT_6 oC_7 size row) := hD
              try dsimp only at hw
              refine lv_iconst (v := 1) hx hb d_W_step_99 (by decide) ?_
              exact W.zret (v := 1) hx hb hr (by decide) (fun t ht hW => ⟨⟨1, (x1, fin_21, kind_22, oT_6, oC_7), rfl, hw, by rw [ht]; exact hP, va_K.moved hW.alike hK, hD⟩, hS.F ht⟩) hS.2.2 d_W_step_100
    · have hw := hwf c_2
      refine lv_iconst (v := 0) hx hb d_W_step_57 (by decide) ?_
      exact W.zret (v := 0) hx hb hr (by decide) (fun t ht hW => ⟨⟨0, (x1, x1, kind, oT, oC), rfl, hw, by rw [ht]; exact hP, va_K.moved hW.alike hK, hD⟩, hS.F ht⟩) hS.2.2 d_W_step_58
  have L_5 : ∀ (start : Int32) (fin : Int32) (kind : Int32) (oT : Int32) (oC : Int32) (size : Int32) (row : Nat → Int32) (n : Nat) (x1 : Int32) (H : Heap) (locs : List Loc) (ls : Array Slot), w_W_step_5 post start fin kind oT oC size row n x1 → va_P (dC, dI) vwCl (wd_W_step ad ck start fin kind oT oC size row) H → va_D A (wd_W_step ad ck start fin kind oT oC size row) → va_S A s.heap H locs → lv_has ls 2 [(0, .ref (ad 3)), (1, .int x1)] → W p l e (headSpec ws_W_step ({ frames := 5, cells := 0, slots := 0, locals := 114 } : Room)).room s m ([.ref (ad 3)] : List Value).toArray below meth c H locs 0 0 (k_Qi below (dC, dI) vwCl (TYm ck) A (fun (r : Int32) (u : Int32 × Int32 × Int32 × Int32 × Int32) => post r u.1 u.2.1 u.2.2.1 u.2.2.2.1 u.2.2.2.2) (fun (u : Int32 × Int32 × Int32 × Int32 × Int32) => wd_W_step ad ck u.1 u.2.1 u.2.2.1 u.2.2.2.1 u.2.2.2.2 size row) ([.ref (ad 3)] : List Value).toArray s) (F0 m 5 ls []) := by
    intro start fin kind oT oC size row n
    induction n with
    | zero =>
      intro x1 H locs ls hw
      exact False.elim hw
    | succ n ih =>
      intro x1 H locs ls hw hP hD hS hl
      refine lv_iload_n hx hb d_W_step_5 rfl (lv_at hl 1 rfl) ?_
      refine lv_aload_n hx hb d_W_step_6 rfl (lv_at hl 0 rfl) ?_
      refine va_get (D := (dC, dI)) (ci := 3) (v := .ref (ad 1)) (C := R_W) (T := T_W) (N := 6) hx hb hts in_W hown hK hP 0 rfl rfl 0 (by decide) (hts _ tw_14) (fun _ h9 => h9) rfl d_W_step_7 ?_
      refine va_getN (D := (dC, dI)) (ci := 2) (v := .int size) (C := R_T) (T := T_T) (N := 2) hx hb hts in_T hown hK hP 1 rfl rfl 1 (by decide) (va_Nw.use rfl (hX.2.2.2 _ nw_0)) (fun _ h9 => h9) rfl d_W_step_10 ?_
      obtain ⟨hwt, hwf⟩ := hw
      refine lv_icmp_ge (tgt := 36) hx hb d_W_step_13 (by decide) (fun c_1 => ?_) (fun c_1 => ?_)
      · have hw := hwt c_1
        exact L_36 x1 start fin kind oT oC size row _ _ _ hw hP hD hS (lv_sub hl [0, 1] rfl)
      · have hw := hwf c_1
        refine lv_aload_n hx hb d_W_step_16 rfl (lv_at hl 0 rfl) ?_
        refine va_get (D := (dC, dI)) (ci := 3) (v := .ref (ad 1)) (C := R_W) (T := T_W) (N := 6) hx hb hts in_W hown hK hP 0 rfl rfl 0 (by decide) (hts _ tw_14) (fun _ h9 => h9) rfl d_W_step_17 ?_
        refine lv_iload_n hx hb d_W_step_20 rfl (lv_at hl 1 rfl) ?_
        refine k_callVi (As := [.int x1]) (rest := []) (fun (u : Unit) => wd_W_step ad ck start fin kind oT oC size row) ⟨hx, hb, hml, hown, hts⟩ (kc_T_at l dC dI ad ck size row x1 (hw := hw)) (cwV 1 hts (gV tw_15 tw_18 tw_19 tw_17 tw_16) rfl rfl rfl hd_T_at ⟨Nat.le_of_ble_eq_true rfl, Nat.le_of_ble_eq_true rfl⟩) hK hP hD hS hA k_x0c trivial [1, 2] [0] [0, 1, 2] rfl rfl (by decide) (by decide) (fun _ => rfl) (va_recv hK hP (ci := 2) (q0 := 1) rfl rfl) rfl hl.1 rfl (lv_room (Nat.le_of_ble_eq_true rfl)) d_W_step_21 ⟨Nat.zero_le _, Nat.zero_le _⟩ ?_
        intro r_23 u H locs hw hP hD hS
        have hP : va_P (dC, dI) vwCl (wd_W_step ad ck start fin kind oT oC size row) H := hP
        have hD : va_D A (wd_W_step ad ck start fin kind oT oC size row) := hD
        try dsimp only at hw
        refine k_callSi (As := [.int r_23]) (rest := []) (fun (u : Unit) => wd_W_step ad ck start fin kind oT oC size row) ⟨hx, hb, hml, hown, hts⟩ (kc_W_isBlank l dC dI ad ck r_23 (hw := hw)) (va_cwS 1 hts (gS tw_94 tw_96 tw_6 tw_95) rfl rfl rfl hd_W_isBlank ⟨Nat.le_of_ble_eq_true rfl, Nat.le_of_ble_eq_true rfl⟩) hK hP hD hS hA k_x0c trivial [] [0, 1, 2] [0, 1, 2] rfl rfl (by decide) (by decide) (fun _ => rfl) rfl hl.1 rfl (lv_room (Nat.le_of_ble_eq_true rfl)) d_W_step_24 ⟨Nat.zero_le _, Nat.zero_le _⟩ ?_
        intro r_24 u H locs hw hP hD hS
        have hP : va_P (dC, dI) vwCl (wd_W_step ad ck start fin kind oT oC size row) H := hP
        have hD : va_D A (wd_W_step ad ck start fin kind oT oC size row) := hD
        try dsimp only at hw
        obtain ⟨hwt, hwf⟩ := hw
        refine lv_if_eq (tgt := 36) hx hb d_W_step_27 (by decide) (fun c_25 => ?_) (fun c_25 => ?_)
        · have hw := hwt c_25
          exact L_36 x1 start fin kind oT oC size row _ _ _ hw hP hD hS (lv_sub hl [0, 1] rfl)
        · have hw := hwf c_25
          obtain ⟨x1_26, ex1_26⟩ : ∃ y : Int32, y = x1 + 1 := ⟨_, rfl⟩
          have hw := hw x1_26 ex1_26
          refine lv_iinc (v := x1_26) (lv' := [(1, .int x1_26), (0, .ref (ad 3))]) hx hb d_W_step_30 hl (k := 1) rfl (by rw [ex1_26]; rfl) (by decide) rfl (fun ls hl => ?_)
          refine lv_goto (tgt := 5) hx hb d_W_step_33 (by decide) ?_
          exact ih x1_26 _ _ _ hw hP hD hS (lv_sub hl [1, 0] rfl)
  refine lv_aload_n hx hb d_W_step_0 rfl (lv_at hl 0 rfl) ?_
  refine va_get (D := (dC, dI)) (ci := 3) (v := .int fin) (C := R_W) (T := T_W) (N := 6) hx hb hts in_W hown hK hP 0 rfl rfl 2 (by decide) (hts _ tw_3) (fun _ h9 => h9) rfl d_W_step_1 ?_
  refine lv_istore_n (lv' := [(1, .int fin), (0, .ref (ad 3))]) hx hb d_W_step_4 rfl hl (by decide) rfl (fun ls hl => ?_)
  obtain ⟨fu5, hw⟩ := hw
  exact L_5 start fin kind oT oC size row fu5 fin _ _ _ hw hP hD hS (lv_sub hl [1, 0] rfl)
