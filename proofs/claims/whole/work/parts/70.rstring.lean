abbrev wd_QJS_isLatin1 (ad : Nat → Nat) (ck : Nat → ClassId)  : va_W := []
def wp_QJS_isLatin1 (post : Int32 → Prop)  (qT : Nat) : Prop := qT < NS ∧ (((1 : Int32) = 0 → (post 0)) ∧ (¬ (1 : Int32) = 0 → (((0 : Int32) = 0 → (post 1)) ∧ (¬ (0 : Int32) = 0 → (post 0)))))
set_option maxHeartbeats 4000000 in
set_option maxRecDepth 100000 in
theorem kc_QJS_isLatin1 (l : Launch) (dC : Nat → ClassId) (dI : Nat → Nat → Nat) (ad : Nat → Nat) (ck : Nat → ClassId) (sa sv : Nat → Nat) (sf : Option Nat)  (qT : Nat) {post : Int32 → Prop} (hw : wp_QJS_isLatin1 post  qT) : k_Ci l y_QJS_isLatin1 ws_QJS_isLatin1 ({ frames := 0, cells := 0, slots := 0, locals := 0 } : Room) (dC, dI) vwCl (TYr ck) (XR sa sv sf) [.ref (sa qT)] ([]) (fun (r : Int32) (u : Unit) => post r ) (fun (u : Unit) => []) := by
  intro sz
  refine Met.ofW (cc := c_QJS_isLatin1) (maxL := 1) (ret := (some .boolean)) (by decide) rfl ?_
  intro p e s m args below meth c s₁ B hml hv
  obtain ⟨rfl, hsz, hP, hK, hD0, hX⟩ := hv
  have hx := B.exec
  have hb := B.bytes
  have hr := B.returns
  have hts : ∀ w ∈ TB, w.before _ s = true := fun w h => atoms_spec (ws := ws_QJS_isLatin1) B.pre w (List.mem_cons_of_mem _ h)
  have hown : s.vm.findClass R_JS = some m.cls := findClass_of_methodNamed B.named
  have hlocks := B.notSynchronized
  subst hsz
  have hD := hD0.self (sz := s.heap.size)
  generalize hAe : va_A ([]) s.heap.size = A at hD hX ⊢
  have hA : ∀ q : Nat, s.heap.size ≤ q → A q := fun q h => by rw [← hAe]; exact Or.inr h
  have hS : va_S A s.heap s.heap [] := va_S.rf
  have hP : va_P (dC, dI) vwCl ([]) s.heap := hP
  have hl := lv_entry ([.ref (sa qT)]) (n := 1) (Nat.le_of_ble_eq_true rfl)
  rw [lg_entry_eq]
  generalize (lg_sl ([.ref (sa qT)]) ++ List.replicate (1 - (lg_sl ([.ref (sa qT)])).length) Slot.unset).toArray = ls at hl ⊢
  have hl : lv_has ls 1 [(0, .ref (sa qT))] := hl
  obtain ⟨hqT, hw⟩ := hw
  refine va_gets (v := .int 1) hx hb hX.2.2.1 hS hown (hts _ ux_0) (fun _ h9 => h9) d_QJS_isLatin1_0 ?_
  obtain ⟨hwt, hwf⟩ := hw
  refine lv_if_eq (tgt := 17) hx hb d_QJS_isLatin1_3 (by decide) (fun c_1 => ?_) (fun c_1 => ?_)
  · have hw := hwt c_1
    refine lv_iconst (v := 0) hx hb d_QJS_isLatin1_17 (by decide) ?_
    exact W.zret (v := 0) hx hb hr (by decide) (fun t ht hW => ⟨⟨0, (), rfl, hw, by rw [ht]; exact hP, va_K.moved hW.alike hK, hD⟩, hS.F ht⟩) hS.2.2 d_QJS_isLatin1_18
  · have hw := hwf c_1
    refine lv_aload_n hx hb d_QJS_isLatin1_6 rfl (lv_at hl 0 rfl) ?_
    refine vk_getf (v := .int 0) hx hb (hX.2.1 qT hqT).2.1 hS hown (hts _ ux_1) (fun _ h9 => h9) d_QJS_isLatin1_7 ?_
    obtain ⟨hwt, hwf⟩ := hw
    refine lv_if_ne (tgt := 17) hx hb d_QJS_isLatin1_10 (by decide) (fun c_2 => ?_) (fun c_2 => ?_)
    · have hw := hwf c_2
      refine lv_iconst (v := 0) hx hb d_QJS_isLatin1_17 (by decide) ?_
      exact W.zret (v := 0) hx hb hr (by decide) (fun t ht hW => ⟨⟨0, (), rfl, hw, by rw [ht]; exact hP, va_K.moved hW.alike hK, hD⟩, hS.F ht⟩) hS.2.2 d_QJS_isLatin1_18
    · have hw := hwt c_2
      refine lv_iconst (v := 1) hx hb d_QJS_isLatin1_13 (by decide) ?_
      refine lv_goto (tgt := 18) hx hb d_QJS_isLatin1_14 (by decide) ?_
      exact W.zret (v := 1) hx hb hr (by decide) (fun t ht hW => ⟨⟨1, (), rfl, hw, by rw [ht]; exact hP, va_K.moved hW.alike hK, hD⟩, hS.F ht⟩) hS.2.2 d_QJS_isLatin1_18

abbrev wd_QJS_coder (ad : Nat → Nat) (ck : Nat → ClassId)  : va_W := []
def wp_QJS_coder (post : Int32 → Prop)  (qT : Nat) : Prop := qT < NS ∧ (((1 : Int32) = 0 → (post 1)) ∧ (¬ (1 : Int32) = 0 → (post 0)))
set_option maxHeartbeats 4000000 in
set_option maxRecDepth 100000 in
theorem kc_QJS_coder (l : Launch) (dC : Nat → ClassId) (dI : Nat → Nat → Nat) (ad : Nat → Nat) (ck : Nat → ClassId) (sa sv : Nat → Nat) (sf : Option Nat)  (qT : Nat) {post : Int32 → Prop} (hw : wp_QJS_coder post  qT) : k_Ci l y_QJS_coder ws_QJS_coder ({ frames := 0, cells := 0, slots := 0, locals := 0 } : Room) (dC, dI) vwCl (TYr ck) (XR sa sv sf) [.ref (sa qT)] ([]) (fun (r : Int32) (u : Unit) => post r ) (fun (u : Unit) => []) := by
  intro sz
  refine Met.ofW (cc := c_QJS_coder) (maxL := 1) (ret := (some .byte)) (by decide) rfl ?_
  intro p e s m args below meth c s₁ B hml hv
  obtain ⟨rfl, hsz, hP, hK, hD0, hX⟩ := hv
  have hx := B.exec
  have hb := B.bytes
  have hr := B.returns
  have hts : ∀ w ∈ TB, w.before _ s = true := fun w h => atoms_spec (ws := ws_QJS_coder) B.pre w (List.mem_cons_of_mem _ h)
  have hown : s.vm.findClass R_JS = some m.cls := findClass_of_methodNamed B.named
  have hlocks := B.notSynchronized
  subst hsz
  have hD := hD0.self (sz := s.heap.size)
  generalize hAe : va_A ([]) s.heap.size = A at hD hX ⊢
  have hA : ∀ q : Nat, s.heap.size ≤ q → A q := fun q h => by rw [← hAe]; exact Or.inr h
  have hS : va_S A s.heap s.heap [] := va_S.rf
  have hP : va_P (dC, dI) vwCl ([]) s.heap := hP
  have hl := lv_entry ([.ref (sa qT)]) (n := 1) (Nat.le_of_ble_eq_true rfl)
  rw [lg_entry_eq]
  generalize (lg_sl ([.ref (sa qT)]) ++ List.replicate (1 - (lg_sl ([.ref (sa qT)])).length) Slot.unset).toArray = ls at hl ⊢
  have hl : lv_has ls 1 [(0, .ref (sa qT))] := hl
  obtain ⟨hqT, hw⟩ := hw
  refine va_gets (v := .int 1) hx hb hX.2.2.1 hS hown (hts _ ux_0) (fun _ h9 => h9) d_QJS_coder_0 ?_
  obtain ⟨hwt, hwf⟩ := hw
  refine lv_if_eq (tgt := 13) hx hb d_QJS_coder_3 (by decide) (fun c_1 => ?_) (fun c_1 => ?_)
  · have hw := hwt c_1
    refine lv_iconst (v := 1) hx hb d_QJS_coder_13 (by decide) ?_
    exact W.zret (v := 1) hx hb hr (by decide) (fun t ht hW => ⟨⟨1, (), rfl, hw, by rw [ht]; exact hP, va_K.moved hW.alike hK, hD⟩, hS.F ht⟩) hS.2.2 d_QJS_coder_14
  · have hw := hwf c_1
    refine lv_aload_n hx hb d_QJS_coder_6 rfl (lv_at hl 0 rfl) ?_
    refine vk_getf (v := .int 0) hx hb (hX.2.1 qT hqT).2.1 hS hown (hts _ ux_1) (fun _ h9 => h9) d_QJS_coder_7 ?_
    refine lv_goto (tgt := 14) hx hb d_QJS_coder_10 (by decide) ?_
    exact W.zret (v := 0) hx hb hr (by decide) (fun t ht hW => ⟨⟨0, (), rfl, hw, by rw [ht]; exact hP, va_K.moved hW.alike hK, hD⟩, hS.F ht⟩) hS.2.2 d_QJS_coder_14

abbrev wd_QJS_length (ad : Nat → Nat) (ck : Nat → ClassId)  : va_W := []
def wp_QJS_length (post : Int32 → Prop)  (qT : Nat) : Prop := qT < NS ∧ (wp_QJS_coder (fun (r_1 : Int32) => post ((nI (slen qT)) >>> (r_1 &&& 31))) qT)
set_option maxHeartbeats 4000000 in
set_option maxRecDepth 100000 in
theorem kc_QJS_length (l : Launch) (dC : Nat → ClassId) (dI : Nat → Nat → Nat) (ad : Nat → Nat) (ck : Nat → ClassId) (sa sv : Nat → Nat) (sf : Option Nat)  (qT : Nat) {post : Int32 → Prop} (hw : wp_QJS_length post  qT) : k_Ci l y_QJS_length ws_QJS_length ({ frames := 1, cells := 0, slots := 0, locals := 20 } : Room) (dC, dI) vwCl (TYr ck) (XR sa sv sf) [.ref (sa qT)] ([]) (fun (r : Int32) (u : Unit) => post r ) (fun (u : Unit) => []) := by
  intro sz
  refine Met.ofW (cc := c_QJS_length) (maxL := 1) (ret := (some .int)) (by decide) rfl ?_
  intro p e s m args below meth c s₁ B hml hv
  obtain ⟨rfl, hsz, hP, hK, hD0, hX⟩ := hv
  have hx := B.exec
  have hb := B.bytes
  have hr := B.returns
  have hts : ∀ w ∈ TB, w.before _ s = true := fun w h => atoms_spec (ws := ws_QJS_length) B.pre w (List.mem_cons_of_mem _ h)
  have hown : s.vm.findClass R_JS = some m.cls := findClass_of_methodNamed B.named
  have hlocks := B.notSynchronized
  subst hsz
  have hD := hD0.self (sz := s.heap.size)
  generalize hAe : va_A ([]) s.heap.size = A at hD hX ⊢
  have hA : ∀ q : Nat, s.heap.size ≤ q → A q := fun q h => by rw [← hAe]; exact Or.inr h
  have hS : va_S A s.heap s.heap [] := va_S.rf
  have hP : va_P (dC, dI) vwCl ([]) s.heap := hP
  have hl := lv_entry ([.ref (sa qT)]) (n := 1) (Nat.le_of_ble_eq_true rfl)
  rw [lg_entry_eq]
  generalize (lg_sl ([.ref (sa qT)]) ++ List.replicate (1 - (lg_sl ([.ref (sa qT)])).length) Slot.unset).toArray = ls at hl ⊢
  have hl : lv_has ls 1 [(0, .ref (sa qT))] := hl
  obtain ⟨hqT, hw⟩ := hw
  refine lv_aload_n hx hb d_QJS_length_0 rfl (lv_at hl 0 rfl) ?_
  refine vk_getf (v := .ref (sv qT)) hx hb (hX.2.1 qT hqT).2.2.1 hS hown (hts _ ux_2) (fun _ h9 => h9) d_QJS_length_1 ?_
  refine va_tlen (v := nI (slen qT)) hx hb (hX.2.1 qT hqT).2.2.2.1 hS rfl d_QJS_length_4 ?_
  refine lv_aload_n hx hb d_QJS_length_5 rfl (lv_at hl 0 rfl) ?_
  refine k_callVi (As := []) (rest := [.int (nI (slen qT))]) (fun (u : Unit) => []) ⟨hx, hb, hml, hown, hts⟩ (kc_QJS_coder l dC dI ad ck sa sv sf qT (hw := hw)) (cwV 0 hts (gV ux_3 ux_6 ux_7 ux_5 ux_4) rfl rfl rfl hd_QJS_coder ⟨Nat.le_of_ble_eq_true rfl, Nat.le_of_ble_eq_true rfl⟩) hK hP hD hS hA (XR_c sa sv sf) hX [] [] [] rfl rfl (by decide) (by decide) (fun _ => rfl) (st_recv (hX.2.1 qT hqT).1 hS) rfl hl.1 rfl (lv_room (Nat.le_of_ble_eq_true rfl)) d_QJS_length_6 ⟨Nat.zero_le _, Nat.zero_le _⟩ ?_
  intro r_1 u H locs hw hP hD hS
  have hP : va_P (dC, dI) vwCl ([]) H := hP
  have hD : va_D A ([]) := hD
  try dsimp only at hw
  refine lv_ishr hx hb d_QJS_length_9 ?_
  exact W.iret (v := ((nI (slen qT)) >>> (r_1 &&& 31))) hx hb hr (fun t ht hW => ⟨⟨((nI (slen qT)) >>> (r_1 &&& 31)), (), rfl, hw, by rw [ht]; exact hP, va_K.moved hW.alike hK, hD⟩, hS.F ht⟩) hS.2.2 d_QJS_length_10

abbrev wd_QJP_checkIndex (ad : Nat → Nat) (ck : Nat → ClassId)  : va_W := []
def wp_QJP_checkIndex (post : Int32 → Prop)  (p0 : Int32) (p1 : Int32) : Prop := (p0 < 0 → (False)) ∧ (¬ p0 < 0 → ((p0 < p1 → (post p0)) ∧ (¬ p0 < p1 → (False))))
set_option maxHeartbeats 4000000 in
set_option maxRecDepth 100000 in
theorem kc_QJP_checkIndex (l : Launch) (dC : Nat → ClassId) (dI : Nat → Nat → Nat) (ad : Nat → Nat) (ck : Nat → ClassId) (sa sv : Nat → Nat) (sf : Option Nat)  (p0 : Int32) (p1 : Int32) {post : Int32 → Prop} (hw : wp_QJP_checkIndex post  p0 p1) : k_Ci l y_QJP_checkIndex ws_QJP_checkIndex ({ frames := 0, cells := 0, slots := 0, locals := 0 } : Room) (dC, dI) vwCl (TYr ck) (XR sa sv sf) [.int p0, .int p1, va_rf sf] ([]) (fun (r : Int32) (u : Unit) => post r ) (fun (u : Unit) => []) := by
  cases sf with
  | none =>
    intro sz
    refine Met.ofW (cc := c_QJP_checkIndex) (maxL := 3) (ret := (some .int)) (by decide) rfl ?_
    intro p e s m args below meth c s₁ B hml hv
    obtain ⟨rfl, hsz, hP, hK, hD0, hX⟩ := hv
    have hx := B.exec
    have hb := B.bytes
    have hr := B.returns
    have hts : ∀ w ∈ TB, w.before _ s = true := fun w h => atoms_spec (ws := ws_QJP_checkIndex) B.pre w (List.mem_cons_of_mem _ h)
    have hown : s.vm.findClass R_JP = some m.cls := findClass_of_methodNamed B.named
    have hlocks := B.notSynchronized
    subst hsz
    have hD := hD0.self (sz := s.heap.size)
    generalize hAe : va_A ([]) s.heap.size = A at hD hX ⊢
    have hA : ∀ q : Nat, s.heap.size ≤ q → A q := fun q h => by rw [← hAe]; exact Or.inr h
    have hS : va_S A s.heap s.heap [] := va_S.rf
    have hP : va_P (dC, dI) vwCl ([]) s.heap := hP
    have hl := lv_entry ([.int p0, .int p1, va_rf none]) (n := 3) (Nat.le_of_ble_eq_true rfl)
    rw [lg_entry_eq]
    generalize (lg_sl ([.int p0, .int p1, va_rf none]) ++ List.replicate (3 - (lg_sl ([.int p0, .int p1, va_rf none])).length) Slot.unset).toArray = ls at hl ⊢
    have hl : lv_has ls 3 [(0, .int p0), (1, .int p1), (2, va_rf none)] := hl
    refine lv_iload_n hx hb d_QJP_checkIndex_0 rfl (lv_at hl 0 rfl) ?_
    obtain ⟨hwt, hwf⟩ := hw
    refine lv_if_lt (tgt := 9) hx hb d_QJP_checkIndex_1 (by decide) (fun c_1 => ?_) (fun c_1 => ?_)
    · have hw := hwt c_1
      exact False.elim hw
    · have hw := hwf c_1
      refine lv_iload_n hx hb d_QJP_checkIndex_4 rfl (lv_at hl 0 rfl) ?_
      refine lv_iload_n hx hb d_QJP_checkIndex_5 rfl (lv_at hl 1 rfl) ?_
      obtain ⟨hwt, hwf⟩ := hw
      refine lv_icmp_lt (tgt := 16) hx hb d_QJP_checkIndex_6 (by decide) (fun c_2 => ?_) (fun c_2 => ?_)
      · have hw := hwt c_2
        refine lv_iload_n hx hb d_QJP_checkIndex_16 rfl (lv_at hl 0 rfl) ?_
        exact W.iret (v := p0) hx hb hr (fun t ht hW => ⟨⟨p0, (), rfl, hw, by rw [ht]; exact hP, va_K.moved hW.alike hK, hD⟩, hS.F ht⟩) hS.2.2 d_QJP_checkIndex_17
      · have hw := hwf c_2
        exact False.elim hw
  | some sfa =>
    intro sz
    refine Met.ofW (cc := c_QJP_checkIndex) (maxL := 3) (ret := (some .int)) (by decide) rfl ?_
    intro p e s m args below meth c s₁ B hml hv
    obtain ⟨rfl, hsz, hP, hK, hD0, hX⟩ := hv
    have hx := B.exec
    have hb := B.bytes
    have hr := B.returns
    have hts : ∀ w ∈ TB, w.before _ s = true := fun w h => atoms_spec (ws := ws_QJP_checkIndex) B.pre w (List.mem_cons_of_mem _ h)
    have hown : s.vm.findClass R_JP = some m.cls := findClass_of_methodNamed B.named
    have hlocks := B.notSynchronized
    subst hsz
    have hD := hD0.self (sz := s.heap.size)
    generalize hAe : va_A ([]) s.heap.size = A at hD hX ⊢
    have hA : ∀ q : Nat, s.heap.size ≤ q → A q := fun q h => by rw [← hAe]; exact Or.inr h
    have hS : va_S A s.heap s.heap [] := va_S.rf
    have hP : va_P (dC, dI) vwCl ([]) s.heap := hP
    have hl := lv_entry ([.int p0, .int p1, va_rf (some sfa)]) (n := 3) (Nat.le_of_ble_eq_true rfl)
    rw [lg_entry_eq]
    generalize (lg_sl ([.int p0, .int p1, va_rf (some sfa)]) ++ List.replicate (3 - (lg_sl ([.int p0, .int p1, va_rf (some sfa)])).length) Slot.unset).toArray = ls at hl ⊢
    have hl : lv_has ls 3 [(0, .int p0), (1, .int p1), (2, va_rf (some sfa))] := hl
    refine lv_iload_n hx hb d_QJP_checkIndex_0 rfl (lv_at hl 0 rfl) ?_
    obtain ⟨hwt, hwf⟩ := hw
    refine lv_if_lt (tgt := 9) hx hb d_QJP_checkIndex_1 (by decide) (fun c_1 => ?_) (fun c_1 => ?_)
    · have hw := hwt c_1
      exact False.elim hw
    · have hw := hwf c_1
      refine lv_iload_n hx hb d_QJP_checkIndex_4 rfl (lv_at hl 0 rfl) ?_
      refine lv_iload_n hx hb d_QJP_checkIndex_5 rfl (lv_at hl 1 rfl) ?_
      obtain ⟨hwt, hwf⟩ := hw
      refine lv_icmp_lt (tgt := 16) hx hb d_QJP_checkIndex_6 (by decide) (fun c_2 => ?_) (fun c_2 => ?_)
      · have hw := hwt c_2
        refine lv_iload_n hx hb d_QJP_checkIndex_16 rfl (lv_at hl 0 rfl) ?_
        exact W.iret (v := p0) hx hb hr (fun t ht hW => ⟨⟨p0, (), rfl, hw, by rw [ht]; exact hP, va_K.moved hW.alike hK, hD⟩, hS.F ht⟩) hS.2.2 d_QJP_checkIndex_17
      · have hw := hwf c_2
        exact False.elim hw

abbrev wd_QJS_checkIndex (ad : Nat → Nat) (ck : Nat → ClassId)  : va_W := []
def wp_QJS_checkIndex (post : Prop)  (p0 : Int32) (p1 : Int32) : Prop := wp_QJP_checkIndex (fun (r_1 : Int32) => post) p0 p1
set_option maxHeartbeats 4000000 in
set_option maxRecDepth 100000 in
theorem kc_QJS_checkIndex (l : Launch) (dC : Nat → ClassId) (dI : Nat → Nat → Nat) (ad : Nat → Nat) (ck : Nat → ClassId) (sa sv : Nat → Nat) (sf : Option Nat)  (p0 : Int32) (p1 : Int32) {post : Prop} (hw : wp_QJS_checkIndex post  p0 p1) : k_Cv l y_QJS_checkIndex ws_QJS_checkIndex ({ frames := 1, cells := 0, slots := 0, locals := 22 } : Room) (dC, dI) vwCl (TYr ck) (XR sa sv sf) [.int p0, .int p1] ([]) (fun (u : Unit) => post ) (fun (u : Unit) => []) := by
  intro sz
  refine Met.ofW (cc := c_QJS_checkIndex) (maxL := 2) (ret := none) (by decide) rfl ?_
  intro p e s m args below meth c s₁ B hml hv
  obtain ⟨rfl, hsz, hP, hK, hD0, hX⟩ := hv
  have hx := B.exec
  have hb := B.bytes
  have hr := B.returns
  have hts : ∀ w ∈ TB, w.before _ s = true := fun w h => atoms_spec (ws := ws_QJS_checkIndex) B.pre w (List.mem_cons_of_mem _ h)
  have hown : s.vm.findClass R_JS = some m.cls := findClass_of_methodNamed B.named
  have hlocks := B.notSynchronized
  subst hsz
  have hD := hD0.self (sz := s.heap.size)
  generalize hAe : va_A ([]) s.heap.size = A at hD hX ⊢
  have hA : ∀ q : Nat, s.heap.size ≤ q → A q := fun q h => by rw [← hAe]; exact Or.inr h
  have hS : va_S A s.heap s.heap [] := va_S.rf
  have hP : va_P (dC, dI) vwCl ([]) s.heap := hP
  have hl := lv_entry ([.int p0, .int p1]) (n := 2) (Nat.le_of_ble_eq_true rfl)
  rw [lg_entry_eq]
  generalize (lg_sl ([.int p0, .int p1]) ++ List.replicate (2 - (lg_sl ([.int p0, .int p1])).length) Slot.unset).toArray = ls at hl ⊢
  have hl : lv_has ls 2 [(0, .int p0), (1, .int p1)] := hl
  refine lv_iload_n hx hb d_QJS_checkIndex_0 rfl (lv_at hl 0 rfl) ?_
  refine lv_iload_n hx hb d_QJS_checkIndex_1 rfl (lv_at hl 1 rfl) ?_
  refine va_gets (v := va_rf sf) hx hb hX.2.2.2.1 hS hown (hts _ ux_8) (fun _ h9 => h9) d_QJS_checkIndex_2 ?_
  refine k_callSi (As := [.int p0, .int p1, va_rf sf]) (rest := []) (fun (u : Unit) => []) ⟨hx, hb, hml, hown, hts⟩ (kc_QJP_checkIndex l dC dI ad ck sa sv sf p0 p1 (hw := hw)) (va_cwS 3 hts (gS ux_9 ux_12 ux_11 ux_10) rfl rfl rfl hd_QJP_checkIndex ⟨Nat.le_of_ble_eq_true rfl, Nat.le_of_ble_eq_true rfl⟩) hK hP hD hS hA (XR_c sa sv sf) hX [] [] [] rfl rfl (by decide) (by decide) (fun _ => rfl) rfl hl.1 rfl (lv_room (Nat.le_of_ble_eq_true rfl)) d_QJS_checkIndex_5 ⟨Nat.zero_le _, Nat.zero_le _⟩ ?_
  intro r_1 u H locs hw hP hD hS
  have hP : va_P (dC, dI) vwCl ([]) H := hP
  have hD : va_D A ([]) := hD
  try dsimp only at hw
  refine lv_pop hx hb d_QJS_checkIndex_8 rfl ?_
  exact W.vret hx hb hr (fun t ht hW => ⟨⟨(), rfl, hw, by rw [ht]; exact hP, va_K.moved hW.alike hK, hD⟩, hS.F ht⟩) hS.2.2 d_QJS_checkIndex_9

abbrev wd_QJL_charAt (ad : Nat → Nat) (ck : Nat → ClassId)  : va_W := []
def wp_QJL_charAt (post : Int32 → Prop)  (q0 : Nat) (p1 : Int32) : Prop := q0 < NS ∧ (wp_QJS_checkIndex (vp_in p1 (slen q0) ∧ (narrow .char (.int ((((sby q0 p1.toNatClampNeg) &&& 255).toUInt32 % 65536).toInt32)) = .int ((((sby q0 p1.toNatClampNeg) &&& 255).toUInt32 % 65536).toInt32) ∧ (post ((((sby q0 p1.toNatClampNeg) &&& 255).toUInt32 % 65536).toInt32)))) p1 (nI (slen q0)))
set_option maxHeartbeats 4000000 in
set_option maxRecDepth 100000 in
theorem kc_QJL_charAt (l : Launch) (dC : Nat → ClassId) (dI : Nat → Nat → Nat) (ad : Nat → Nat) (ck : Nat → ClassId) (sa sv : Nat → Nat) (sf : Option Nat)  (q0 : Nat) (p1 : Int32) {post : Int32 → Prop} (hw : wp_QJL_charAt post  q0 p1) : k_Ci l y_QJL_charAt ws_QJL_charAt ({ frames := 2, cells := 0, slots := 0, locals := 43 } : Room) (dC, dI) vwCl (TYr ck) (XR sa sv sf) [.ref (sv q0), .int p1] ([]) (fun (r : Int32) (u : Unit) => post r ) (fun (u : Unit) => []) := by
  intro sz
  refine Met.ofW (cc := c_QJL_charAt) (maxL := 2) (ret := (some .char)) (by decide) rfl ?_
  intro p e s m args below meth c s₁ B hml hv
  obtain ⟨rfl, hsz, hP, hK, hD0, hX⟩ := hv
  have hx := B.exec
  have hb := B.bytes
  have hr := B.returns
  have hts : ∀ w ∈ TB, w.before _ s = true := fun w h => atoms_spec (ws := ws_QJL_charAt) B.pre w (List.mem_cons_of_mem _ h)
  have hown : s.vm.findClass R_JL = some m.cls := findClass_of_methodNamed B.named
  have hlocks := B.notSynchronized
  subst hsz
  have hD := hD0.self (sz := s.heap.size)
  generalize hAe : va_A ([]) s.heap.size = A at hD hX ⊢
  have hA : ∀ q : Nat, s.heap.size ≤ q → A q := fun q h => by rw [← hAe]; exact Or.inr h
  have hS : va_S A s.heap s.heap [] := va_S.rf
  have hP : va_P (dC, dI) vwCl ([]) s.heap := hP
  have hl := lv_entry ([.ref (sv q0), .int p1]) (n := 2) (Nat.le_of_ble_eq_true rfl)
  rw [lg_entry_eq]
  generalize (lg_sl ([.ref (sv q0), .int p1]) ++ List.replicate (2 - (lg_sl ([.ref (sv q0), .int p1])).length) Slot.unset).toArray = ls at hl ⊢
  have hl : lv_has ls 2 [(0, .ref (sv q0)), (1, .int p1)] := hl
  obtain ⟨hq0, hw⟩ := hw
  refine lv_iload_n hx hb d_QJL_charAt_0 rfl (lv_at hl 1 rfl) ?_
  refine lv_aload_n hx hb d_QJL_charAt_1 rfl (lv_at hl 0 rfl) ?_
  refine va_tlen (v := nI (slen q0)) hx hb (hX.2.1 q0 hq0).2.2.2.1 hS rfl d_QJL_charAt_2 ?_
  refine k_callSv (As := [.int p1, .int (nI (slen q0))]) (rest := []) (fun (u : Unit) => []) ⟨hx, hb, hml, hown, hts⟩ (kc_QJS_checkIndex l dC dI ad ck sa sv sf p1 (nI (slen q0)) (hw := hw)) (va_cwS 2 hts (gS ux_13 ux_15 ux_5 ux_14) rfl rfl rfl hd_QJS_checkIndex ⟨Nat.le_of_ble_eq_true rfl, Nat.le_of_ble_eq_true rfl⟩) hK hP hD hS hA (XR_c sa sv sf) hX [] [] [] rfl rfl (by decide) (by decide) (fun _ => rfl) rfl hl.1 rfl (lv_room (Nat.le_of_ble_eq_true rfl)) d_QJL_charAt_3 ⟨Nat.zero_le _, Nat.zero_le _⟩ ?_
  intro u H locs hw hP hD hS
  have hP : va_P (dC, dI) vwCl ([]) H := hP
  have hD : va_D A ([]) := hD
  try dsimp only at hw
  refine lv_aload_n hx hb d_QJL_charAt_6 rfl (lv_at hl 0 rfl) ?_
  refine lv_iload_n hx hb d_QJL_charAt_7 rfl (lv_at hl 1 rfl) ?_
  obtain ⟨hi_1, hw⟩ := hw
  refine va_tb (v := .int (sby q0 p1.toNatClampNeg)) hx hb (hX.2.1 q0 hq0).2.2.2.1 hS hi_1 rfl d_QJL_charAt_8 ?_
  refine lv_sipush (v := 255) hx hb d_QJL_charAt_9 (by decide) ?_
  refine lv_iand hx hb d_QJL_charAt_12 ?_
  refine lv_i2c (v := (((sby q0 p1.toNatClampNeg) &&& 255).toUInt32 % 65536).toInt32) hx hb d_QJL_charAt_13 rfl ?_
  obtain ⟨hz_2, hw⟩ := hw
  exact W.zret (v := ((((sby q0 p1.toNatClampNeg) &&& 255).toUInt32 % 65536).toInt32)) hx hb hr hz_2 (fun t ht hW => ⟨⟨((((sby q0 p1.toNatClampNeg) &&& 255).toUInt32 % 65536).toInt32), (), rfl, hw, by rw [ht]; exact hP, va_K.moved hW.alike hK, hD⟩, hS.F ht⟩) hS.2.2 d_QJL_charAt_14

abbrev wd_QJS_charAt (ad : Nat → Nat) (ck : Nat → ClassId)  : va_W := []
def wp_QJS_charAt (post : Int32 → Prop)  (qT : Nat) (p0 : Int32) : Prop := qT < NS ∧ (wp_QJS_isLatin1 (fun (r_1 : Int32) => (r_1 = 0 → (False)) ∧ (¬ r_1 = 0 → (wp_QJL_charAt (fun (r_3 : Int32) => narrow .char (.int r_3) = .int r_3 ∧ (post r_3)) qT p0))) qT)
set_option maxHeartbeats 4000000 in
set_option maxRecDepth 100000 in
theorem kc_QJS_charAt (l : Launch) (dC : Nat → ClassId) (dI : Nat → Nat → Nat) (ad : Nat → Nat) (ck : Nat → ClassId) (sa sv : Nat → Nat) (sf : Option Nat)  (qT : Nat) (p0 : Int32) {post : Int32 → Prop} (hw : wp_QJS_charAt post  qT p0) : k_Ci l y_QJS_charAt ws_QJS_charAt ({ frames := 3, cells := 0, slots := 0, locals := 64 } : Room) (dC, dI) vwCl (TYr ck) (XR sa sv sf) [.ref (sa qT), .int p0] ([]) (fun (r : Int32) (u : Unit) => post r ) (fun (u : Unit) => []) := by
  intro sz
  refine Met.ofW (cc := c_QJS_charAt) (maxL := 2) (ret := (some .char)) (by decide) rfl ?_
  intro p e s m args below meth c s₁ B hml hv
  obtain ⟨rfl, hsz, hP, hK, hD0, hX⟩ := hv
  have hx := B.exec
  have hb := B.bytes
  have hr := B.returns
  have hts : ∀ w ∈ TB, w.before _ s = true := fun w h => atoms_spec (ws := ws_QJS_charAt) B.pre w (List.mem_cons_of_mem _ h)
  have hown : s.vm.findClass R_JS = some m.cls := findClass_of_methodNamed B.named
  have hlocks := B.notSynchronized
  subst hsz
  have hD := hD0.self (sz := s.heap.size)
  generalize hAe : va_A ([]) s.heap.size = A at hD hX ⊢
  have hA : ∀ q : Nat, s.heap.size ≤ q → A q := fun q h => by rw [← hAe]; exact Or.inr h
  have hS : va_S A s.heap s.heap [] := va_S.rf
  have hP : va_P (dC, dI) vwCl ([]) s.heap := hP
  have hl := lv_entry ([.ref (sa qT), .int p0]) (n := 2) (Nat.le_of_ble_eq_true rfl)
  rw [lg_entry_eq]
  generalize (lg_sl ([.ref (sa qT), .int p0]) ++ List.replicate (2 - (lg_sl ([.ref (sa qT), .int p0])).length) Slot.unset).toArray = ls at hl ⊢
  have hl : lv_has ls 2 [(0, .ref (sa qT)), (1, .int p0)] := hl
  obtain ⟨hqT, hw⟩ := hw
  refine lv_aload_n hx hb d_QJS_charAt_0 rfl (lv_at hl 0 rfl) ?_
  refine k_callVi (As := []) (rest := []) (fun (u : Unit) => []) ⟨hx, hb, hml, hown, hts⟩ (kc_QJS_isLatin1 l dC dI ad ck sa sv sf qT (hw := hw)) (cwV 0 hts (gV ux_16 ux_18 ux_19 ux_5 ux_17) rfl rfl rfl hd_QJS_isLatin1 ⟨Nat.le_of_ble_eq_true rfl, Nat.le_of_ble_eq_true rfl⟩) hK hP hD hS hA (XR_c sa sv sf) hX [] [] [] rfl rfl (by decide) (by decide) (fun _ => rfl) (st_recv (hX.2.1 qT hqT).1 hS) rfl hl.1 rfl (lv_room (Nat.le_of_ble_eq_true rfl)) d_QJS_charAt_1 ⟨Nat.zero_le _, Nat.zero_le _⟩ ?_
  intro r_1 u H locs hw hP hD hS
  have hP : va_P (dC, dI) vwCl ([]) H := hP
  have hD : va_D A ([]) := hD
  try dsimp only at hw
  obtain ⟨hwt, hwf⟩ := hw
  refine lv_if_eq (tgt := 16) hx hb d_QJS_charAt_4 (by decide) (fun c_2 => ?_) (fun c_2 => ?_)
  · have hw := hwt c_2
    exact False.elim hw
  · have hw := hwf c_2
    refine lv_aload_n hx hb d_QJS_charAt_7 rfl (lv_at hl 0 rfl) ?_
    refine vk_getf (v := .ref (sv qT)) hx hb (hX.2.1 qT hqT).2.2.1 hS hown (hts _ ux_2) (fun _ h9 => h9) d_QJS_charAt_8 ?_
    refine lv_iload_n hx hb d_QJS_charAt_11 rfl (lv_at hl 1 rfl) ?_
    refine k_callSi (As := [.ref (sv qT), .int p0]) (rest := []) (fun (u : Unit) => []) ⟨hx, hb, hml, hown, hts⟩ (kc_QJL_charAt l dC dI ad ck sa sv sf qT p0 (hw := hw)) (va_cwS 2 hts (gS ux_20 ux_23 ux_22 ux_21) rfl rfl rfl hd_QJL_charAt ⟨Nat.le_of_ble_eq_true rfl, Nat.le_of_ble_eq_true rfl⟩) hK hP hD hS hA (XR_c sa sv sf) hX [] [] [] rfl rfl (by decide) (by decide) (fun _ => rfl) rfl hl.1 rfl (lv_room (Nat.le_of_ble_eq_true rfl)) d_QJS_charAt_12 ⟨Nat.zero_le _, Nat.zero_le _⟩ ?_
    intro r_3 u H locs hw hP hD hS
    have hP : va_P (dC, dI) vwCl ([]) H := hP
    have hD : va_D A ([]) := hD
    try dsimp only at hw
    obtain ⟨hz_4, hw⟩ := hw
    exact W.zret (v := r_3) hx hb hr hz_4 (fun t ht hW => ⟨⟨r_3, (), rfl, hw, by rw [ht]; exact hP, va_K.moved hW.alike hK, hD⟩, hS.F ht⟩) hS.2.2 d_QJS_charAt_15

abbrev wd_QJS_hashCode (ad : Nat → Nat) (ck : Nat → ClassId)  : va_W := []
def wp_QJS_hashCode (post : Int32 → Prop)  (qT : Nat) : Prop := qT < NS ∧ (∀ x1_1 : Int32, x1_1 = (shs qT) → ((x1_1 = 0 → (((shz qT) = 0 → (False)) ∧ (¬ (shz qT) = 0 → (post x1_1)))) ∧ (¬ x1_1 = 0 → (post x1_1))))
set_option maxHeartbeats 4000000 in
set_option maxRecDepth 100000 in
theorem kc_QJS_hashCode (l : Launch) (dC : Nat → ClassId) (dI : Nat → Nat → Nat) (ad : Nat → Nat) (ck : Nat → ClassId) (sa sv : Nat → Nat) (sf : Option Nat)  (qT : Nat) {post : Int32 → Prop} (hw : wp_QJS_hashCode post  qT) : k_Ci l y_QJS_hashCode ws_QJS_hashCode ({ frames := 0, cells := 0, slots := 0, locals := 0 } : Room) (dC, dI) vwCl (TYr ck) (XR sa sv sf) [.ref (sa qT)] ([]) (fun (r : Int32) (u : Unit) => post r ) (fun (u : Unit) => []) := by
  intro sz
  refine Met.ofW (cc := c_QJS_hashCode) (maxL := 2) (ret := (some .int)) (by decide) rfl ?_
  intro p e s m args below meth c s₁ B hml hv
  obtain ⟨rfl, hsz, hP, hK, hD0, hX⟩ := hv
  have hx := B.exec
  have hb := B.bytes
  have hr := B.returns
  have hts : ∀ w ∈ TB, w.before _ s = true := fun w h => atoms_spec (ws := ws_QJS_hashCode) B.pre w (List.mem_cons_of_mem _ h)
  have hown : s.vm.findClass R_JS = some m.cls := findClass_of_methodNamed B.named
  have hlocks := B.notSynchronized
  subst hsz
  have hD := hD0.self (sz := s.heap.size)
  generalize hAe : va_A ([]) s.heap.size = A at hD hX ⊢
  have hA : ∀ q : Nat, s.heap.size ≤ q → A q := fun q h => by rw [← hAe]; exact Or.inr h
  have hS : va_S A s.heap s.heap [] := va_S.rf
  have hP : va_P (dC, dI) vwCl ([]) s.heap := hP
  have hl := lv_entry ([.ref (sa qT)]) (n := 2) (Nat.le_of_ble_eq_true rfl)
  rw [lg_entry_eq]
  generalize (lg_sl ([.ref (sa qT)]) ++ List.replicate (2 - (lg_sl ([.ref (sa qT)])).length) Slot.unset).toArray = ls at hl ⊢
  have hl : lv_has ls 2 [(0, .ref (sa qT))] := hl
  obtain ⟨hqT, hw⟩ := hw
  refine lv_aload_n hx hb d_QJS_hashCode_0 rfl (lv_at hl 0 rfl) ?_
  refine vk_getf (v := .int (shs qT)) hx hb (hX.2.1 qT hqT).2.2.2.2.1 hS hown (hts _ ux_24) (fun _ h9 => h9) d_QJS_hashCode_1 ?_
  refine lv_topi (fun x1_1 ex1_1 => ?_)
  have hw := hw x1_1 ex1_1
  refine lv_istore_n (lv' := [(1, .int x1_1), (0, .ref (sa qT))]) hx hb d_QJS_hashCode_4 rfl hl (by decide) rfl (fun ls hl => ?_)
  refine lv_iload_n hx hb d_QJS_hashCode_5 rfl (lv_at hl 0 rfl) ?_
  obtain ⟨hwt, hwf⟩ := hw
  refine lv_if_ne (tgt := 58) hx hb d_QJS_hashCode_6 (by decide) (fun c_2 => ?_) (fun c_2 => ?_)
  · have hw := hwf c_2
    refine lv_iload_n hx hb d_QJS_hashCode_58 rfl (lv_at hl 0 rfl) ?_
    exact W.iret (v := x1_1) hx hb hr (fun t ht hW => ⟨⟨x1_1, (), rfl, hw, by rw [ht]; exact hP, va_K.moved hW.alike hK, hD⟩, hS.F ht⟩) hS.2.2 d_QJS_hashCode_59
  · have hw := hwt c_2
    refine lv_aload_n hx hb d_QJS_hashCode_9 rfl (lv_at hl 1 rfl) ?_
    refine vk_getf (v := .int (shz qT)) hx hb (hX.2.1 qT hqT).2.2.2.2.2 hS hown (hts _ ux_25) (fun _ h9 => h9) d_QJS_hashCode_10 ?_
    obtain ⟨hwt, hwf⟩ := hw
    refine lv_if_ne (tgt := 58) hx hb d_QJS_hashCode_13 (by decide) (fun c_3 => ?_) (fun c_3 => ?_)
    · have hw := hwf c_3
      refine lv_iload_n hx hb d_QJS_hashCode_58 rfl (lv_at hl 0 rfl) ?_
      exact W.iret (v := x1_1) hx hb hr (fun t ht hW => ⟨⟨x1_1, (), rfl, hw, by rw [ht]; exact hP, va_K.moved hW.alike hK, hD⟩, hS.F ht⟩) hS.2.2 d_QJS_hashCode_59
    · have hw := hwt c_3
      exact False.elim hw

abbrev wd_QJL_equals (ad : Nat → Nat) (ck : Nat → ClassId)  : va_W := []
def w_QJL_equals_9 (post : Int32 → Prop) (q0 : Nat) (q1 : Nat) : Nat → Int32 → Prop
  | 0 => fun _ => False
  | n + 1 => fun x2 => ((nI (slen q0)) ≤ x2 → (post 1)) ∧ (¬ (nI (slen q0)) ≤ x2 → (vp_in x2 (slen q0) ∧ (vp_in x2 (slen q1) ∧ (((sby q0 x2.toNatClampNeg) = (sby q1 x2.toNatClampNeg) → (∀ x2_6 : Int32, x2_6 = x2 + 1 → (w_QJL_equals_9 post q0 q1 n x2_6))) ∧ (¬ (sby q0 x2.toNatClampNeg) = (sby q1 x2.toNatClampNeg) → (post 0))))))
def wp_QJL_equals (post : Int32 → Prop)  (q0 : Nat) (q1 : Nat) : Prop := q0 < NS ∧ (q1 < NS ∧ (((nI (slen q0)) = (nI (slen q1)) → (∃ fu9 : Nat, w_QJL_equals_9 post q0 q1 fu9 0)) ∧ (¬ (nI (slen q0)) = (nI (slen q1)) → (post 0))))
set_option maxHeartbeats 4000000 in
set_option maxRecDepth 100000 in
theorem kc_QJL_equals (l : Launch) (dC : Nat → ClassId) (dI : Nat → Nat → Nat) (ad : Nat → Nat) (ck : Nat → ClassId) (sa sv : Nat → Nat) (sf : Option Nat)  (q0 : Nat) (q1 : Nat) {post : Int32 → Prop} (hw : wp_QJL_equals post  q0 q1) : k_Ci l y_QJL_equals ws_QJL_equals ({ frames := 0, cells := 0, slots := 0, locals := 0 } : Room) (dC, dI) vwCl (TYr ck) (XR sa sv sf) [.ref (sv q0), .ref (sv q1)] ([]) (fun (r : Int32) (u : Unit) => post r ) (fun (u : Unit) => []) := by
  intro sz
  refine Met.ofW (cc := c_QJL_equals) (maxL := 3) (ret := (some .boolean)) (by decide) rfl ?_
  intro p e s m args below meth c s₁ B hml hv
  obtain ⟨rfl, hsz, hP, hK, hD0, hX⟩ := hv
  have hx := B.exec
  have hb := B.bytes
  have hr := B.returns
  have hts : ∀ w ∈ TB, w.before _ s = true := fun w h => atoms_spec (ws := ws_QJL_equals) B.pre w (List.mem_cons_of_mem _ h)
  have hown : s.vm.findClass R_JL = some m.cls := findClass_of_methodNamed B.named
  have hlocks := B.notSynchronized
  subst hsz
  have hD := hD0.self (sz := s.heap.size)
  generalize hAe : va_A ([]) s.heap.size = A at hD hX ⊢
  have hA : ∀ q : Nat, s.heap.size ≤ q → A q := fun q h => by rw [← hAe]; exact Or.inr h
  have hS : va_S A s.heap s.heap [] := va_S.rf
  have hP : va_P (dC, dI) vwCl ([]) s.heap := hP
  have hl := lv_entry ([.ref (sv q0), .ref (sv q1)]) (n := 3) (Nat.le_of_ble_eq_true rfl)
  rw [lg_entry_eq]
  generalize (lg_sl ([.ref (sv q0), .ref (sv q1)]) ++ List.replicate (3 - (lg_sl ([.ref (sv q0), .ref (sv q1)])).length) Slot.unset).toArray = ls at hl ⊢
  have hl : lv_has ls 3 [(0, .ref (sv q0)), (1, .ref (sv q1))] := hl
  obtain ⟨hq0, hw⟩ := hw
  obtain ⟨hq1, hw⟩ := hw
  have L_9 : ∀  (n : Nat) (x2 : Int32) (H : Heap) (locs : List Loc) (ls : Array Slot), w_QJL_equals_9 post q0 q1 n x2 → va_P (dC, dI) vwCl ([]) H → va_D A ([]) → va_S A s.heap H locs → lv_has ls 3 [(0, .ref (sv q0)), (1, .ref (sv q1)), (2, .int x2)] → W p l e (headSpec ws_QJL_equals ({ frames := 0, cells := 0, slots := 0, locals := 0 } : Room)).room s m ([.ref (sv q0), .ref (sv q1)] : List Value).toArray below meth c H locs 0 0 (k_Qi below (dC, dI) vwCl (TYr ck) A (fun (r : Int32) (u : Unit) => post r ) (fun (u : Unit) => []) ([.ref (sv q0), .ref (sv q1)] : List Value).toArray s) (F0 m 9 ls []) := by
    intro  n
    induction n with
    | zero =>
      intro x2 H locs ls hw
      exact False.elim hw
    | succ n ih =>
      intro x2 H locs ls hw hP hD hS hl
      refine lv_iload_n hx hb d_QJL_equals_9 rfl (lv_at hl 2 rfl) ?_
      refine lv_aload_n hx hb d_QJL_equals_10 rfl (lv_at hl 0 rfl) ?_
      refine va_tlen (v := nI (slen q0)) hx hb (hX.2.1 q0 hq0).2.2.2.1 hS rfl d_QJL_equals_11 ?_
      obtain ⟨hwt, hwf⟩ := hw
      refine lv_icmp_ge (tgt := 32) hx hb d_QJL_equals_12 (by decide) (fun c_2 => ?_) (fun c_2 => ?_)
      · have hw := hwt c_2
        refine lv_iconst (v := 1) hx hb d_QJL_equals_32 (by decide) ?_
        exact W.zret (v := 1) hx hb hr (by decide) (fun t ht hW => ⟨⟨1, (), rfl, hw, by rw [ht]; exact hP, va_K.moved hW.alike hK, hD⟩, hS.F ht⟩) hS.2.2 d_QJL_equals_33
      · have hw := hwf c_2
        refine lv_aload_n hx hb d_QJL_equals_15 rfl (lv_at hl 0 rfl) ?_
        refine lv_iload_n hx hb d_QJL_equals_16 rfl (lv_at hl 2 rfl) ?_
        obtain ⟨hi_3, hw⟩ := hw
        refine va_tb (v := .int (sby q0 x2.toNatClampNeg)) hx hb (hX.2.1 q0 hq0).2.2.2.1 hS hi_3 rfl d_QJL_equals_17 ?_
        refine lv_aload_n hx hb d_QJL_equals_18 rfl (lv_at hl 1 rfl) ?_
        refine lv_iload_n hx hb d_QJL_equals_19 rfl (lv_at hl 2 rfl) ?_
        obtain ⟨hi_4, hw⟩ := hw
        refine va_tb (v := .int (sby q1 x2.toNatClampNeg)) hx hb (hX.2.1 q1 hq1).2.2.2.1 hS hi_4 rfl d_QJL_equals_20 ?_
        obtain ⟨hwt, hwf⟩ := hw
        refine lv_icmp_eq (tgt := 26) hx hb d_QJL_equals_21 (by decide) (fun c_5 => ?_) (fun c_5 => ?_)
        · have hw := hwt c_5
          obtain ⟨x2_6, ex2_6⟩ : ∃ y : Int32, y = x2 + 1 := ⟨_, rfl⟩
          have hw := hw x2_6 ex2_6
          refine lv_iinc (v := x2_6) (lv' := [(2, .int x2_6), (0, .ref (sv q0)), (1, .ref (sv q1))]) hx hb d_QJL_equals_26 hl (k := 2) rfl (by rw [ex2_6]; rfl) (by decide) rfl (fun ls hl => ?_)
          refine lv_goto (tgt := 9) hx hb d_QJL_equals_29 (by decide) ?_
          exact ih x2_6 _ _ _ hw hP hD hS (lv_sub hl [1, 2, 0] rfl)
        · have hw := hwf c_5
          refine lv_iconst (v := 0) hx hb d_QJL_equals_24 (by decide) ?_
          exact W.zret (v := 0) hx hb hr (by decide) (fun t ht hW => ⟨⟨0, (), rfl, hw, by rw [ht]; exact hP, va_K.moved hW.alike hK, hD⟩, hS.F ht⟩) hS.2.2 d_QJL_equals_25
  refine lv_aload_n hx hb d_QJL_equals_0 rfl (lv_at hl 0 rfl) ?_
  refine va_tlen (v := nI (slen q0)) hx hb (hX.2.1 q0 hq0).2.2.2.1 hS rfl d_QJL_equals_1 ?_
  refine lv_aload_n hx hb d_QJL_equals_2 rfl (lv_at hl 1 rfl) ?_
  refine va_tlen (v := nI (slen q1)) hx hb (hX.2.1 q1 hq1).2.2.2.1 hS rfl d_QJL_equals_3 ?_
  obtain ⟨hwt, hwf⟩ := hw
  refine lv_icmp_ne (tgt := 34) hx hb d_QJL_equals_4 (by decide) (fun c_1 => ?_) (fun c_1 => ?_)
  · have hw := hwf c_1
    refine lv_iconst (v := 0) hx hb d_QJL_equals_34 (by decide) ?_
    exact W.zret (v := 0) hx hb hr (by decide) (fun t ht hW => ⟨⟨0, (), rfl, hw, by rw [ht]; exact hP, va_K.moved hW.alike hK, hD⟩, hS.F ht⟩) hS.2.2 d_QJL_equals_35
  · have hw := hwt c_1
    refine lv_iconst (v := 0) hx hb d_QJL_equals_7 (by decide) ?_
    refine lv_istore_n (lv' := [(2, .int 0), (0, .ref (sv q0)), (1, .ref (sv q1))]) hx hb d_QJL_equals_8 rfl hl (by decide) rfl (fun ls hl => ?_)
    obtain ⟨fu9, hw⟩ := hw
    exact L_9  fu9 0 _ _ _ hw hP hD hS (lv_sub hl [1, 2, 0] rfl)

abbrev wd_QJS_equals (ad : Nat → Nat) (ck : Nat → ClassId)  : va_W := []
def wp_QJS_equals (post : Int32 → Prop)  (qT : Nat) (q0 : Nat) : Prop := qT < NS ∧ (q0 < NS ∧ ((qT = q0 → (post 1)) ∧ (¬ qT = q0 → (((1 : Int32) = 0 → (post 0)) ∧ (¬ (1 : Int32) = 0 → (((1 : Int32) = 0 → (wp_QJL_equals (fun (r_4 : Int32) => (r_4 = 0 → (post 0)) ∧ (¬ r_4 = 0 → (post 1))) qT q0)) ∧ (¬ (1 : Int32) = 0 → (((0 : Int32) = 0 → (wp_QJL_equals (fun (r_7 : Int32) => (r_7 = 0 → (post 0)) ∧ (¬ r_7 = 0 → (post 1))) qT q0)) ∧ (¬ (0 : Int32) = 0 → (post 0))))))))))
set_option maxHeartbeats 4000000 in
set_option maxRecDepth 100000 in
theorem kc_QJS_equals (l : Launch) (dC : Nat → ClassId) (dI : Nat → Nat → Nat) (ad : Nat → Nat) (ck : Nat → ClassId) (sa sv : Nat → Nat) (sf : Option Nat)  (qT : Nat) (q0 : Nat) {post : Int32 → Prop} (hw : wp_QJS_equals post  qT q0) : k_Ci l y_QJS_equals ws_QJS_equals ({ frames := 1, cells := 0, slots := 0, locals := 22 } : Room) (dC, dI) vwCl (TYr ck) (XR sa sv sf) [.ref (sa qT), .ref (sa q0)] ([]) (fun (r : Int32) (u : Unit) => post r ) (fun (u : Unit) => []) := by
  intro sz
  refine Met.ofW (cc := c_QJS_equals) (maxL := 3) (ret := (some .boolean)) (by decide) rfl ?_
  intro p e s m args below meth c s₁ B hml hv
  obtain ⟨rfl, hsz, hP, hK, hD0, hX⟩ := hv
  have hx := B.exec
  have hb := B.bytes
  have hr := B.returns
  have hts : ∀ w ∈ TB, w.before _ s = true := fun w h => atoms_spec (ws := ws_QJS_equals) B.pre w (List.mem_cons_of_mem _ h)
  have hown : s.vm.findClass R_JS = some m.cls := findClass_of_methodNamed B.named
  have hlocks := B.notSynchronized
  subst hsz
  have hD := hD0.self (sz := s.heap.size)
  generalize hAe : va_A ([]) s.heap.size = A at hD hX ⊢
  have hA : ∀ q : Nat, s.heap.size ≤ q → A q := fun q h => by rw [← hAe]; exact Or.inr h
  have hS : va_S A s.heap s.heap [] := va_S.rf
  have hP : va_P (dC, dI) vwCl ([]) s.heap := hP
  have hl := lv_entry ([.ref (sa qT), .ref (sa q0)]) (n := 3) (Nat.le_of_ble_eq_true rfl)
  rw [lg_entry_eq]
  generalize (lg_sl ([.ref (sa qT), .ref (sa q0)]) ++ List.replicate (3 - (lg_sl ([.ref (sa qT), .ref (sa q0)])).length) Slot.unset).toArray = ls at hl ⊢
  have hl : lv_has ls 3 [(0, .ref (sa qT)), (1, .ref (sa q0))] := hl
  obtain ⟨hqT, hw⟩ := hw
  obtain ⟨hq0, hw⟩ := hw
  refine lv_aload_n hx hb d_QJS_equals_0 rfl (lv_at hl 0 rfl) ?_
  refine lv_aload_n hx hb d_QJS_equals_1 rfl (lv_at hl 1 rfl) ?_
  obtain ⟨hwt, hwf⟩ := hw
  refine lv_acmp_ne (rx := some (sa qT)) (ry := some (sa q0)) (tgt := 7) hx hb d_QJS_equals_2 (by decide) (fun c_1 => ?_) (fun c_1 => ?_)
  · have hw := hwf (fun z => c_1 (by rw [z]))
    refine lv_aload_n hx hb d_QJS_equals_7 rfl (lv_at hl 1 rfl) ?_
    refine va_instE hx hb hown (hts _ ux_26) (st_recv (hX.2.1 q0 hq0).1 hS) d_QJS_equals_8 ?_
    obtain ⟨hwt, hwf⟩ := hw
    refine lv_if_eq (tgt := 54) hx hb d_QJS_equals_11 (by decide) (fun c_2 => ?_) (fun c_2 => ?_)
    · have hw := hwt c_2
      refine lv_iconst (v := 0) hx hb d_QJS_equals_54 (by decide) ?_
      exact W.zret (v := 0) hx hb hr (by decide) (fun t ht hW => ⟨⟨0, (), rfl, hw, by rw [ht]; exact hP, va_K.moved hW.alike hK, hD⟩, hS.F ht⟩) hS.2.2 d_QJS_equals_55
    · have hw := hwf c_2
      refine lv_aload_n hx hb d_QJS_equals_14 rfl (lv_at hl 1 rfl) ?_
      refine va_castE hx hb hown (hts _ ux_26) (st_recv (hX.2.1 q0 hq0).1 hS) d_QJS_equals_15 ?_
      refine lv_astore_n (lv' := [(2, .ref (sa q0)), (0, .ref (sa qT)), (1, .ref (sa q0))]) hx hb d_QJS_equals_18 rfl hl (by decide) rfl (fun ls hl => ?_)
      refine va_gets (v := .int 1) hx hb hX.2.2.1 hS hown (hts _ ux_0) (fun _ h9 => h9) d_QJS_equals_19 ?_
      obtain ⟨hwt, hwf⟩ := hw
      refine lv_if_eq (tgt := 36) hx hb d_QJS_equals_22 (by decide) (fun c_3 => ?_) (fun c_3 => ?_)
      · have hw := hwt c_3
        refine lv_aload_n hx hb d_QJS_equals_36 rfl (lv_at hl 1 rfl) ?_
        refine vk_getf (v := .ref (sv qT)) hx hb (hX.2.1 qT hqT).2.2.1 hS hown (hts _ ux_2) (fun _ h9 => h9) d_QJS_equals_37 ?_
        refine lv_aload_n hx hb d_QJS_equals_40 rfl (lv_at hl 0 rfl) ?_
        refine vk_getf (v := .ref (sv q0)) hx hb (hX.2.1 q0 hq0).2.2.1 hS hown (hts _ ux_2) (fun _ h9 => h9) d_QJS_equals_41 ?_
        refine k_callSi (As := [.ref (sv qT), .ref (sv q0)]) (rest := []) (fun (u : Unit) => []) ⟨hx, hb, hml, hown, hts⟩ (kc_QJL_equals l dC dI ad ck sa sv sf qT q0 (hw := hw)) (va_cwS 2 hts (gS ux_27 ux_29 ux_22 ux_28) rfl rfl rfl hd_QJL_equals ⟨Nat.le_of_ble_eq_true rfl, Nat.le_of_ble_eq_true rfl⟩) hK hP hD hS hA (XR_c sa sv sf) hX [] [] [] rfl rfl (by decide) (by decide) (fun _ => rfl) rfl hl.1 rfl (lv_room (Nat.le_of_ble_eq_true rfl)) d_QJS_equals_44 ⟨Nat.zero_le _, Nat.zero_le _⟩ ?_
        intro r_4 u H locs hw hP hD hS
        have hP : va_P (dC, dI) vwCl ([]) H := hP
        have hD : va_D A ([]) := hD
        try dsimp only at hw
        obtain ⟨hwt, hwf⟩ := hw
        refine lv_if_eq (tgt := 54) hx hb d_QJS_equals_47 (by decide) (fun c_5 => ?_) (fun c_5 => ?_)
        · have hw := hwt c_5
          refine lv_iconst (v := 0) hx hb d_QJS_equals_54 (by decide) ?_
          exact W.zret (v := 0) hx hb hr (by decide) (fun t ht hW => ⟨⟨0, (), rfl, hw, by rw [ht]; exact hP, va_K.moved hW.alike hK, hD⟩, hS.F ht⟩) hS.2.2 d_QJS_equals_55
        · have hw := hwf c_5
          refine lv_iconst (v := 1) hx hb d_QJS_equals_50 (by decide) ?_
          refine lv_goto (tgt := 55) hx hb d_QJS_equals_51 (by decide) ?_
          exact W.zret (v := 1) hx hb hr (by decide) (fun t ht hW => ⟨⟨1, (), rfl, hw, by rw [ht]; exact hP, va_K.moved hW.alike hK, hD⟩, hS.F ht⟩) hS.2.2 d_QJS_equals_55
      · have hw := hwf c_3
        refine lv_aload_n hx hb d_QJS_equals_25 rfl (lv_at hl 1 rfl) ?_
        refine vk_getf (v := .int 0) hx hb (hX.2.1 qT hqT).2.1 hS hown (hts _ ux_1) (fun _ h9 => h9) d_QJS_equals_26 ?_
        refine lv_aload_n hx hb d_QJS_equals_29 rfl (lv_at hl 0 rfl) ?_
        refine vk_getf (v := .int 0) hx hb (hX.2.1 q0 hq0).2.1 hS hown (hts _ ux_1) (fun _ h9 => h9) d_QJS_equals_30 ?_
        obtain ⟨hwt, hwf⟩ := hw
        refine lv_icmp_ne (tgt := 54) hx hb d_QJS_equals_33 (by decide) (fun c_6 => ?_) (fun c_6 => ?_)
        · have hw := hwf c_6
          refine lv_iconst (v := 0) hx hb d_QJS_equals_54 (by decide) ?_
          exact W.zret (v := 0) hx hb hr (by decide) (fun t ht hW => ⟨⟨0, (), rfl, hw, by rw [ht]; exact hP, va_K.moved hW.alike hK, hD⟩, hS.F ht⟩) hS.2.2 d_QJS_equals_55
        · have hw := hwt c_6
          refine lv_aload_n hx hb d_QJS_equals_36 rfl (lv_at hl 1 rfl) ?_
          refine vk_getf (v := .ref (sv qT)) hx hb (hX.2.1 qT hqT).2.2.1 hS hown (hts _ ux_2) (fun _ h9 => h9) d_QJS_equals_37 ?_
          refine lv_aload_n hx hb d_QJS_equals_40 rfl (lv_at hl 0 rfl) ?_
          refine vk_getf (v := .ref (sv q0)) hx hb (hX.2.1 q0 hq0).2.2.1 hS hown (hts _ ux_2) (fun _ h9 => h9) d_QJS_equals_41 ?_
          refine k_callSi (As := [.ref (sv qT), .ref (sv q0)]) (rest := []) (fun (u : Unit) => []) ⟨hx, hb, hml, hown, hts⟩ (kc_QJL_equals l dC dI ad ck sa sv sf qT q0 (hw := hw)) (va_cwS 2 hts (gS ux_27 ux_29 ux_22 ux_28) rfl rfl rfl hd_QJL_equals ⟨Nat.le_of_ble_eq_true rfl, Nat.le_of_ble_eq_true rfl⟩) hK hP hD hS hA (XR_c sa sv sf) hX [] [] [] rfl rfl (by decide) (by decide) (fun _ => rfl) rfl hl.1 rfl (lv_room (Nat.le_of_ble_eq_true rfl)) d_QJS_equals_44 ⟨Nat.zero_le _, Nat.zero_le _⟩ ?_
          intro r_7 u H locs hw hP hD hS
          have hP : va_P (dC, dI) vwCl ([]) H := hP
          have hD : va_D A ([]) := hD
          try dsimp only at hw
          obtain ⟨hwt, hwf⟩ := hw
          refine lv_if_eq (tgt := 54) hx hb d_QJS_equals_47 (by decide) (fun c_8 => ?_) (fun c_8 => ?_)
          · have hw := hwt c_8
            refine lv_iconst (v := 0) hx hb d_QJS_equals_54 (by decide) ?_
            exact W.zret (v := 0) hx hb hr (by decide) (fun t ht hW => ⟨⟨0, (), rfl, hw, by rw [ht]; exact hP, va_K.moved hW.alike hK, hD⟩, hS.F ht⟩) hS.2.2 d_QJS_equals_55
          · have hw := hwf c_8
            refine lv_iconst (v := 1) hx hb d_QJS_equals_50 (by decide) ?_
            refine lv_goto (tgt := 55) hx hb d_QJS_equals_51 (by decide) ?_
            exact W.zret (v := 1) hx hb hr (by decide) (fun t ht hW => ⟨⟨1, (), rfl, hw, by rw [ht]; exact hP, va_K.moved hW.alike hK, hD⟩, hS.F ht⟩) hS.2.2 d_QJS_equals_55
  · have hw := hwt (hX.2.2.2.2 qT q0 hqT hq0 (Option.some.inj c_1))
    refine lv_iconst (v := 1) hx hb d_QJS_equals_5 (by decide) ?_
    exact W.zret (v := 1) hx hb hr (by decide) (fun t ht hW => ⟨⟨1, (), rfl, hw, by rw [ht]; exact hP, va_K.moved hW.alike hK, hD⟩, hS.F ht⟩) hS.2.2 d_QJS_equals_6

abbrev wd_R_isOneOf (ad : Nat → Nat) (ck : Nat → ClassId)  : va_W := []
def w_R_isOneOf_4 (post : Int32 → Prop) (q1 : Nat) (x0 : Int32) : Nat → Int32 → Int32 → Prop
  | 0 => fun _ _ => False
  | n + 1 => fun x2 x3 => wp_QJS_length (fun (r_1 : Int32) => (r_1 ≤ x3 → (vz x2 ∧ (post x2))) ∧ (¬ r_1 ≤ x3 → ((x2 = 0 → (wp_QJS_charAt (fun (r_6 : Int32) => (x0 = r_6 → (∀ x3_9 : Int32, x3_9 = x3 + 1 → (w_R_isOneOf_4 post q1 x0 n 1 x3_9))) ∧ (¬ x0 = r_6 → (∀ x3_8 : Int32, x3_8 = x3 + 1 → (w_R_isOneOf_4 post q1 x0 n 0 x3_8)))) q1 x3)) ∧ (¬ x2 = 0 → (∀ x3_5 : Int32, x3_5 = x3 + 1 → (w_R_isOneOf_4 post q1 x0 n 1 x3_5)))))) q1
def wp_R_isOneOf (post : Int32 → Prop)  (p0 : Int32) (q1 : Nat) : Prop := q1 < NS ∧ (∃ fu4 : Nat, w_R_isOneOf_4 post q1 p0 fu4 0 0)
set_option maxHeartbeats 4000000 in
set_option maxRecDepth 100000 in
theorem kc_R_isOneOf (l : Launch) (dC : Nat → ClassId) (dI : Nat → Nat → Nat) (ad : Nat → Nat) (ck : Nat → ClassId) (sa sv : Nat → Nat) (sf : Option Nat)  (p0 : Int32) (q1 : Nat) {post : Int32 → Prop} (hw : wp_R_isOneOf post  p0 q1) : k_Ci l y_R_isOneOf ws_R_isOneOf ({ frames := 4, cells := 0, slots := 0, locals := 85 } : Room) (dC, dI) vwCl (TYr ck) (XR sa sv sf) [.int p0, .ref (sa q1)] ([]) (fun (r : Int32) (u : Unit) => post r ) (fun (u : Unit) => []) := by
  intro sz
  refine Met.ofW (cc := c_R_isOneOf) (maxL := 4) (ret := (some .boolean)) (by decide) rfl ?_
  intro p e s m args below meth c s₁ B hml hv
  obtain ⟨rfl, hsz, hP, hK, hD0, hX⟩ := hv
  have hx := B.exec
  have hb := B.bytes
  have hr := B.returns
  have hts : ∀ w ∈ TB, w.before _ s = true := fun w h => atoms_spec (ws := ws_R_isOneOf) B.pre w (List.mem_cons_of_mem _ h)
  have hown : s.vm.findClass R_R = some m.cls := findClass_of_methodNamed B.named
  have hlocks := B.notSynchronized
  subst hsz
  have hD := hD0.self (sz := s.heap.size)
  generalize hAe : va_A ([]) s.heap.size = A at hD hX ⊢
  have hA : ∀ q : Nat, s.heap.size ≤ q → A q := fun q h => by rw [← hAe]; exact Or.inr h
  have hS : va_S A s.heap s.heap [] := va_S.rf
  have hP : va_P (dC, dI) vwCl ([]) s.heap := hP
  have hl := lv_entry ([.int p0, .ref (sa q1)]) (n := 4) (Nat.le_of_ble_eq_true rfl)
  rw [lg_entry_eq]
  generalize (lg_sl ([.int p0, .ref (sa q1)]) ++ List.replicate (4 - (lg_sl ([.int p0, .ref (sa q1)])).length) Slot.unset).toArray = ls at hl ⊢
  have hl : lv_has ls 4 [(0, .int p0), (1, .ref (sa q1))] := hl
  obtain ⟨hq1, hw⟩ := hw
  have L_4 : ∀ (x0 : Int32) (n : Nat) (x2 : Int32) (x3 : Int32) (H : Heap) (locs : List Loc) (ls : Array Slot), w_R_isOneOf_4 post q1 x0 n x2 x3 → va_P (dC, dI) vwCl ([]) H → va_D A ([]) → va_S A s.heap H locs → lv_has ls 4 [(0, .int x0), (1, .ref (sa q1)), (2, .int x2), (3, .int x3)] → W p l e (headSpec ws_R_isOneOf ({ frames := 4, cells := 0, slots := 0, locals := 85 } : Room)).room s m ([.int p0, .ref (sa q1)] : List Value).toArray below meth c H locs 0 0 (k_Qi below (dC, dI) vwCl (TYr ck) A (fun (r : Int32) (u : Unit) => post r ) (fun (u : Unit) => []) ([.int p0, .ref (sa q1)] : List Value).toArray s) (F0 m 4 ls []) := by
    intro x0 n
    induction n with
    | zero =>
      intro x2 x3 H locs ls hw
      exact False.elim hw
    | succ n ih =>
      intro x2 x3 H locs ls hw hP hD hS hl
      unfold w_R_isOneOf_4 at hw
      refine lv_iload_n hx hb d_R_isOneOf_4 rfl (lv_at hl 3 rfl) ?_
      refine lv_aload_n hx hb d_R_isOneOf_5 rfl (lv_at hl 1 rfl) ?_
      refine k_callVi (As := []) (rest := [.int x3]) (fun (u : Unit) => []) ⟨hx, hb, hml, hown, hts⟩ (kc_QJS_length l dC dI ad ck sa sv sf q1 (hw := hw)) (cwV 0 hts (gV ux_30 ux_32 ux_33 ux_5 ux_31) rfl rfl rfl hd_QJS_length ⟨Nat.le_of_ble_eq_true rfl, Nat.le_of_ble_eq_true rfl⟩) hK hP hD hS hA (XR_c sa sv sf) hX [] [] [] rfl rfl (by decide) (by decide) (fun _ => rfl) (st_recv (hX.2.1 q1 hq1).1 hS) rfl hl.1 rfl (lv_room (Nat.le_of_ble_eq_true rfl)) d_R_isOneOf_6 ⟨Nat.zero_le _, Nat.zero_le _⟩ ?_
      intro r_1 u H locs hw hP hD hS
      have hP : va_P (dC, dI) vwCl ([]) H := hP
      have hD : va_D A ([]) := hD
      try dsimp only at hw
      obtain ⟨hwt, hwf⟩ := hw
      refine lv_icmp_ge (tgt := 37) hx hb d_R_isOneOf_9 (by decide) (fun c_2 => ?_) (fun c_2 => ?_)
      · have hw := hwt c_2
        refine lv_iload_n hx hb d_R_isOneOf_37 rfl (lv_at hl 2 rfl) ?_
        obtain ⟨hz_3, hw⟩ := hw
        exact W.zret (v := x2) hx hb hr (vz_n hz_3) (fun t ht hW => ⟨⟨x2, (), rfl, hw, by rw [ht]; exact hP, va_K.moved hW.alike hK, hD⟩, hS.F ht⟩) hS.2.2 d_R_isOneOf_38
      · have hw := hwf c_2
        refine lv_iload_n hx hb d_R_isOneOf_12 rfl (lv_at hl 2 rfl) ?_
        obtain ⟨hwt, hwf⟩ := hw
        refine lv_if_ne (tgt := 25) hx hb d_R_isOneOf_13 (by decide) (fun c_4 => ?_) (fun c_4 => ?_)
        · have hw := hwf c_4
          refine lv_iconst (v := 1) hx hb d_R_isOneOf_25 (by decide) ?_
          refine lv_goto (tgt := 30) hx hb d_R_isOneOf_26 (by decide) ?_
          refine lv_istore_n (lv' := [(2, .int 1), (0, .int x0), (1, .ref (sa q1)), (3, .int x3)]) hx hb d_R_isOneOf_30 rfl hl (by decide) rfl (fun ls hl => ?_)
          obtain ⟨x3_5, ex3_5⟩ : ∃ y : Int32, y = x3 + 1 := ⟨_, rfl⟩
          have hw := hw x3_5 ex3_5
          refine lv_iinc (v := x3_5) (lv' := [(3, .int x3_5), (2, .int 1), (0, .int x0), (1, .ref (sa q1))]) hx hb d_R_isOneOf_31 hl (k := 3) rfl (by rw [ex3_5]; rfl) (by decide) rfl (fun ls hl => ?_)
          refine lv_goto (tgt := 4) hx hb d_R_isOneOf_34 (by decide) ?_
          exact ih 1 x3_5 _ _ _ hw hP hD hS (lv_sub hl [2, 3, 1, 0] rfl)
        · have hw := hwt c_4
          refine lv_iload_n hx hb d_R_isOneOf_16 rfl (lv_at hl 0 rfl) ?_
          refine lv_aload_n hx hb d_R_isOneOf_17 rfl (lv_at hl 1 rfl) ?_
          refine lv_iload_n hx hb d_R_isOneOf_18 rfl (lv_at hl 3 rfl) ?_
          refine k_callVi (As := [.int x3]) (rest := [.int x0]) (fun (u : Unit) => []) ⟨hx, hb, hml, hown, hts⟩ (kc_QJS_charAt l dC dI ad ck sa sv sf q1 x3 (hw := hw)) (cwV 1 hts (gV ux_34 ux_36 ux_37 ux_5 ux_35) rfl rfl rfl hd_QJS_charAt ⟨Nat.le_of_ble_eq_true rfl, Nat.le_of_ble_eq_true rfl⟩) hK hP hD hS hA (XR_c sa sv sf) hX [] [] [] rfl rfl (by decide) (by decide) (fun _ => rfl) (st_recv (hX.2.1 q1 hq1).1 hS) rfl hl.1 rfl (lv_room (Nat.le_of_ble_eq_true rfl)) d_R_isOneOf_19 ⟨Nat.zero_le _, Nat.zero_le _⟩ ?_
          intro r_6 u H locs hw hP hD hS
          have hP : va_P (dC, dI) vwCl ([]) H := hP
          have hD : va_D A ([]) := hD
          try dsimp only at hw
          obtain ⟨hwt, hwf⟩ := hw
          refine lv_icmp_ne (tgt := 29) hx hb d_R_isOneOf_22 (by decide) (fun c_7 => ?_) (fun c_7 => ?_)
          · have hw := hwf c_7
            refine lv_iconst (v := 0) hx hb d_R_isOneOf_29 (by decide) ?_
            refine lv_istore_n (lv' := [(2, .int 0), (0, .int x0), (1, .ref (sa q1)), (3, .int x3)]) hx hb d_R_isOneOf_30 rfl hl (by decide) rfl (fun ls hl => ?_)
            obtain ⟨x3_8, ex3_8⟩ : ∃ y : Int32, y = x3 + 1 := ⟨_, rfl⟩
            have hw := hw x3_8 ex3_8
            refine lv_iinc (v := x3_8) (lv' := [(3, .int x3_8), (2, .int 0), (0, .int x0), (1, .ref (sa q1))]) hx hb d_R_isOneOf_31 hl (k := 3) rfl (by rw [ex3_8]; rfl) (by decide) rfl (fun ls hl => ?_)
            refine lv_goto (tgt := 4) hx hb d_R_isOneOf_34 (by decide) ?_
            exact ih 0 x3_8 _ _ _ hw hP hD hS (lv_sub hl [2, 3, 1, 0] rfl)
          · have hw := hwt c_7
            refine lv_iconst (v := 1) hx hb d_R_isOneOf_25 (by decide) ?_
            refine lv_goto (tgt := 30) hx hb d_R_isOneOf_26 (by decide) ?_
            refine lv_istore_n (lv' := [(2, .int 1), (0, .int x0), (1, .ref (sa q1)), (3, .int x3)]) hx hb d_R_isOneOf_30 rfl hl (by decide) rfl (fun ls hl => ?_)
            obtain ⟨x3_9, ex3_9⟩ : ∃ y : Int32, y = x3 + 1 := ⟨_, rfl⟩
            have hw := hw x3_9 ex3_9
            refine lv_iinc (v := x3_9) (lv' := [(3, .int x3_9), (2, .int 1), (0, .int x0), (1, .ref (sa q1))]) hx hb d_R_isOneOf_31 hl (k := 3) rfl (by rw [ex3_9]; rfl) (by decide) rfl (fun ls hl => ?_)
            refine lv_goto (tgt := 4) hx hb d_R_isOneOf_34 (by decide) ?_
            exact ih 1 x3_9 _ _ _ hw hP hD hS (lv_sub hl [2, 3, 1, 0] rfl)
  refine lv_iconst (v := 0) hx hb d_R_isOneOf_0 (by decide) ?_
  refine lv_istore_n (lv' := [(2, .int 0), (0, .int p0), (1, .ref (sa q1))]) hx hb d_R_isOneOf_1 rfl hl (by decide) rfl (fun ls hl => ?_)
  refine lv_iconst (v := 0) hx hb d_R_isOneOf_2 (by decide) ?_
  refine lv_istore_n (lv' := [(3, .int 0), (2, .int 0), (0, .int p0), (1, .ref (sa q1))]) hx hb d_R_isOneOf_3 rfl hl (by decide) rfl (fun ls hl => ?_)
  obtain ⟨fu4, hw⟩ := hw
  exact L_4 p0 fu4 0 0 _ _ _ hw hP hD hS (lv_sub hl [2, 3, 1, 0] rfl)

abbrev wd_R_signOf (ad : Nat → Nat) (ck : Nat → ClassId)  : va_W := []
def wp_R_signOf (post : Nat → Prop)  (p0 : Int32) : Prop := (p0 = 0 → (post 10)) ∧ (¬ p0 = 0 → ((p0 = 1 → (post 11)) ∧ (¬ p0 = 1 → ((p0 = 2 → (post 12)) ∧ (¬ p0 = 2 → ((p0 = 3 → (post 13)) ∧ (¬ p0 = 3 → ((p0 = 4 → (post 14)) ∧ (¬ p0 = 4 → ((p0 = 5 → (post 15)) ∧ (¬ p0 = 5 → ((p0 = 6 → (post 16)) ∧ (¬ p0 = 6 → ((p0 = 7 → (post 17)) ∧ (¬ p0 = 7 → ((p0 = 8 → (post 18)) ∧ (¬ p0 = 8 → ((p0 = 9 → (post 19)) ∧ (¬ p0 = 9 → ((p0 = 10 → (post 20)) ∧ (¬ p0 = 10 → ((p0 = 11 → (post 21)) ∧ (¬ p0 = 11 → ((p0 = 12 → (post 22)) ∧ (¬ p0 = 12 → ((p0 = 13 → (post 5)) ∧ (¬ p0 = 13 → ((p0 = 14 → (post 6)) ∧ (¬ p0 = 14 → ((p0 = 15 → (post 23)) ∧ (¬ p0 = 15 → ((p0 = 16 → (post 24)) ∧ (¬ p0 = 16 → (post 25))))))))))))))))))))))))))))))))))
set_option maxHeartbeats 4000000 in
set_option maxRecDepth 100000 in
theorem kc_R_signOf (l : Launch) (dC : Nat → ClassId) (dI : Nat → Nat → Nat) (ad : Nat → Nat) (ck : Nat → ClassId) (sa sv : Nat → Nat) (sf : Option Nat)  (p0 : Int32) {post : Nat → Prop} (hw : wp_R_signOf post  p0) : k_Cs sa l y_R_signOf ws_R_signOf ({ frames := 0, cells := 0, slots := 0, locals := 0 } : Room) (dC, dI) vwCl (TYr ck) (XR sa sv sf) [.int p0] ([]) (fun (r : Nat) (u : Unit) => post r ) (fun (u : Unit) => []) := by
  intro sz
  refine Met.ofW (cc := c_R_signOf) (maxL := 1) (ret := (some (.object "java/lang/String"))) (by decide) rfl ?_
  intro p e s m args below meth c s₁ B hml hv
  obtain ⟨rfl, hsz, hP, hK, hD0, hX⟩ := hv
  have hx := B.exec
  have hb := B.bytes
  have hr := B.returns
  have hts : ∀ w ∈ TB, w.before _ s = true := fun w h => atoms_spec (ws := ws_R_signOf) B.pre w (List.mem_cons_of_mem _ h)
  have hown : s.vm.findClass R_R = some m.cls := findClass_of_methodNamed B.named
  have hlocks := B.notSynchronized
  subst hsz
  have hD := hD0.self (sz := s.heap.size)
  generalize hAe : va_A ([]) s.heap.size = A at hD hX ⊢
  have hA : ∀ q : Nat, s.heap.size ≤ q → A q := fun q h => by rw [← hAe]; exact Or.inr h
  have hS : va_S A s.heap s.heap [] := va_S.rf
  have hP : va_P (dC, dI) vwCl ([]) s.heap := hP
  have hl := lv_entry ([.int p0]) (n := 1) (Nat.le_of_ble_eq_true rfl)
  rw [lg_entry_eq]
  generalize (lg_sl ([.int p0]) ++ List.replicate (1 - (lg_sl ([.int p0])).length) Slot.unset).toArray = ls at hl ⊢
  have hl : lv_has ls 1 [(0, .int p0)] := hl
  refine lv_iload_n hx hb d_R_signOf_0 rfl (lv_at hl 0 rfl) ?_
  obtain ⟨hwt, hwf⟩ := hw
  by_cases c_1 : p0 = 0
  · have hw := hwt c_1
    refine lv_tableIn (off := 83) (tgt := 84) hx hb d_R_signOf_1 (by rw [c_1]; decide) (by rw [c_1]; decide) (by rw [c_1]; decide) (by decide) ?_
    refine va_ldcS hx hb hown (hX.1 _ rs_10) d_R_signOf_84 ?_
    exact W.aret (v := .ref (sa 10)) hx hb hr (Or.inl ⟨_, rfl⟩) (Or.inr ⟨_, rfl⟩) (fun t ht hW => ⟨⟨(10, ()), _, rfl, hw, rfl, by rw [ht]; exact hP, va_K.moved hW.alike hK, hD⟩, hS.F ht⟩) hS.2.2 d_R_signOf_86
  · have hw := hwf c_1
    obtain ⟨hwt, hwf⟩ := hw
    by_cases c_2 : p0 = 1
    · have hw := hwt c_2
      refine lv_tableIn (off := 86) (tgt := 87) hx hb d_R_signOf_1 (by rw [c_2]; decide) (by rw [c_2]; decide) (by rw [c_2]; decide) (by decide) ?_
      refine va_ldcS hx hb hown (hX.1 _ rs_11) d_R_signOf_87 ?_
      exact W.aret (v := .ref (sa 11)) hx hb hr (Or.inl ⟨_, rfl⟩) (Or.inr ⟨_, rfl⟩) (fun t ht hW => ⟨⟨(11, ()), _, rfl, hw, rfl, by rw [ht]; exact hP, va_K.moved hW.alike hK, hD⟩, hS.F ht⟩) hS.2.2 d_R_signOf_89
    · have hw := hwf c_2
      obtain ⟨hwt, hwf⟩ := hw
      by_cases c_3 : p0 = 2
      · have hw := hwt c_3
        refine lv_tableIn (off := 89) (tgt := 90) hx hb d_R_signOf_1 (by rw [c_3]; decide) (by rw [c_3]; decide) (by rw [c_3]; decide) (by decide) ?_
        refine va_ldcS hx hb hown (hX.1 _ rs_12) d_R_signOf_90 ?_
        exact W.aret (v := .ref (sa 12)) hx hb hr (Or.inl ⟨_, rfl⟩) (Or.inr ⟨_, rfl⟩) (fun t ht hW => ⟨⟨(12, ()), _, rfl, hw, rfl, by rw [ht]; exact hP, va_K.moved hW.alike hK, hD⟩, hS.F ht⟩) hS.2.2 d_R_signOf_92
      · have hw := hwf c_3
        obtain ⟨hwt, hwf⟩ := hw
        by_cases c_4 : p0 = 3
        · have hw := hwt c_4
          refine lv_tableIn (off := 92) (tgt := 93) hx hb d_R_signOf_1 (by rw [c_4]; decide) (by rw [c_4]; decide) (by rw [c_4]; decide) (by decide) ?_
          refine va_ldcS hx hb hown (hX.1 _ rs_13) d_R_signOf_93 ?_
          exact W.aret (v := .ref (sa 13)) hx hb hr (Or.inl ⟨_, rfl⟩) (Or.inr ⟨_, rfl⟩) (fun t ht hW => ⟨⟨(13, ()), _, rfl, hw, rfl, by rw [ht]; exact hP, va_K.moved hW.alike hK, hD⟩, hS.F ht⟩) hS.2.2 d_R_signOf_95
        · have hw := hwf c_4
          obtain ⟨hwt, hwf⟩ := hw
          by_cases c_5 : p0 = 4
          · have hw := hwt c_5
            refine lv_tableIn (off := 95) (tgt := 96) hx hb d_R_signOf_1 (by rw [c_5]; decide) (by rw [c_5]; decide) (by rw [c_5]; decide) (by decide) ?_
            refine va_ldcS hx hb hown (hX.1 _ rs_14) d_R_signOf_96 ?_
            exact W.aret (v := .ref (sa 14)) hx hb hr (Or.inl ⟨_, rfl⟩) (Or.inr ⟨_, rfl⟩) (fun t ht hW => ⟨⟨(14, ()), _, rfl, hw, rfl, by rw [ht]; exact hP, va_K.moved hW.alike hK, hD⟩, hS.F ht⟩) hS.2.2 d_R_signOf_98
          · have hw := hwf c_5
            obtain ⟨hwt, hwf⟩ := hw
            by_cases c_6 : p0 = 5
            · have hw := hwt c_6
              refine lv_tableIn (off := 98) (tgt := 99) hx hb d_R_signOf_1 (by rw [c_6]; decide) (by rw [c_6]; decide) (by rw [c_6]; decide) (by decide) ?_
              refine va_ldcS hx hb hown (hX.1 _ rs_15) d_R_signOf_99 ?_
              exact W.aret (v := .ref (sa 15)) hx hb hr (Or.inl ⟨_, rfl⟩) (Or.inr ⟨_, rfl⟩) (fun t ht hW => ⟨⟨(15, ()), _, rfl, hw, rfl, by rw [ht]; exact hP, va_K.moved hW.alike hK, hD⟩, hS.F ht⟩) hS.2.2 d_R_signOf_101
            · have hw := hwf c_6
              obtain ⟨hwt, hwf⟩ := hw
              by_cases c_7 : p0 = 6
              · have hw := hwt c_7
                refine lv_tableIn (off := 101) (tgt := 102) hx hb d_R_signOf_1 (by rw [c_7]; decide) (by rw [c_7]; decide) (by rw [c_7]; decide) (by decide) ?_
                refine va_ldcS hx hb hown (hX.1 _ rs_16) d_R_signOf_102 ?_
                exact W.aret (v := .ref (sa 16)) hx hb hr (Or.inl ⟨_, rfl⟩) (Or.inr ⟨_, rfl⟩) (fun t ht hW => ⟨⟨(16, ()), _, rfl, hw, rfl, by rw [ht]; exact hP, va_K.moved hW.alike hK, hD⟩, hS.F ht⟩) hS.2.2 d_R_signOf_104
              · have hw := hwf c_7
                obtain ⟨hwt, hwf⟩ := hw
                by_cases c_8 : p0 = 7
                · have hw := hwt c_8
                  refine lv_tableIn (off := 104) (tgt := 105) hx hb d_R_signOf_1 (by rw [c_8]; decide) (by rw [c_8]; decide) (by rw [c_8]; decide) (by decide) ?_
                  refine va_ldcS hx hb hown (hX.1 _ rs_17) d_R_signOf_105 ?_
                  exact W.aret (v := .ref (sa 17)) hx hb hr (Or.inl ⟨_, rfl⟩) (Or.inr ⟨_, rfl⟩) (fun t ht hW => ⟨⟨(17, ()), _, rfl, hw, rfl, by rw [ht]; exact hP, va_K.moved hW.alike hK, hD⟩, hS.F ht⟩) hS.2.2 d_R_signOf_107
                · have hw := hwf c_8
                  obtain ⟨hwt, hwf⟩ := hw
                  by_cases c_9 : p0 = 8
                  · have hw := hwt c_9
                    refine lv_tableIn (off := 107) (tgt := 108) hx hb d_R_signOf_1 (by rw [c_9]; decide) (by rw [c_9]; decide) (by rw [c_9]; decide) (by decide) ?_
                    refine va_ldcS hx hb hown (hX.1 _ rs_18) d_R_signOf_108 ?_
                    exact W.aret (v := .ref (sa 18)) hx hb hr (Or.inl ⟨_, rfl⟩) (Or.inr ⟨_, rfl⟩) (fun t ht hW => ⟨⟨(18, ()), _, rfl, hw, rfl, by rw [ht]; exact hP, va_K.moved hW.alike hK, hD⟩, hS.F ht⟩) hS.2.2 d_R_signOf_110
                  · have hw := hwf c_9
                    obtain ⟨hwt, hwf⟩ := hw
                    by_cases c_10 : p0 = 9
                    · have hw := hwt c_10
                      refine lv_tableIn (off := 110) (tgt := 111) hx hb d_R_signOf_1 (by rw [c_10]; decide) (by rw [c_10]; decide) (by rw [c_10]; decide) (by decide) ?_
                      refine va_ldcS hx hb hown (hX.1 _ rs_19) d_R_signOf_111 ?_
                      exact W.aret (v := .ref (sa 19)) hx hb hr (Or.inl ⟨_, rfl⟩) (Or.inr ⟨_, rfl⟩) (fun t ht hW => ⟨⟨(19, ()), _, rfl, hw, rfl, by rw [ht]; exact hP, va_K.moved hW.alike hK, hD⟩, hS.F ht⟩) hS.2.2 d_R_signOf_113
                    · have hw := hwf c_10
                      obtain ⟨hwt, hwf⟩ := hw
                      by_cases c_11 : p0 = 10
                      · have hw := hwt c_11
                        refine lv_tableIn (off := 113) (tgt := 114) hx hb d_R_signOf_1 (by rw [c_11]; decide) (by rw [c_11]; decide) (by rw [c_11]; decide) (by decide) ?_
                        refine va_ldcS hx hb hown (hX.1 _ rs_20) d_R_signOf_114 ?_
                        exact W.aret (v := .ref (sa 20)) hx hb hr (Or.inl ⟨_, rfl⟩) (Or.inr ⟨_, rfl⟩) (fun t ht hW => ⟨⟨(20, ()), _, rfl, hw, rfl, by rw [ht]; exact hP, va_K.moved hW.alike hK, hD⟩, hS.F ht⟩) hS.2.2 d_R_signOf_116
                      · have hw := hwf c_11
                        obtain ⟨hwt, hwf⟩ := hw
                        by_cases c_12 : p0 = 11
                        · have hw := hwt c_12
                          refine lv_tableIn (off := 116) (tgt := 117) hx hb d_R_signOf_1 (by rw [c_12]; decide) (by rw [c_12]; decide) (by rw [c_12]; decide) (by decide) ?_
                          refine va_ldcS hx hb hown (hX.1 _ rs_21) d_R_signOf_117 ?_
                          exact W.aret (v := .ref (sa 21)) hx hb hr (Or.inl ⟨_, rfl⟩) (Or.inr ⟨_, rfl⟩) (fun t ht hW => ⟨⟨(21, ()), _, rfl, hw, rfl, by rw [ht]; exact hP, va_K.moved hW.alike hK, hD⟩, hS.F ht⟩) hS.2.2 d_R_signOf_119
                        · have hw := hwf c_12
                          obtain ⟨hwt, hwf⟩ := hw
                          by_cases c_13 : p0 = 12
                          · have hw := hwt c_13
                            refine lv_tableIn (off := 119) (tgt := 120) hx hb d_R_signOf_1 (by rw [c_13]; decide) (by rw [c_13]; decide) (by rw [c_13]; decide) (by decide) ?_
                            refine va_ldcS hx hb hown (hX.1 _ rs_22) d_R_signOf_120 ?_
                            exact W.aret (v := .ref (sa 22)) hx hb hr (Or.inl ⟨_, rfl⟩) (Or.inr ⟨_, rfl⟩) (fun t ht hW => ⟨⟨(22, ()), _, rfl, hw, rfl, by rw [ht]; exact hP, va_K.moved hW.alike hK, hD⟩, hS.F ht⟩) hS.2.2 d_R_signOf_122
                          · have hw := hwf c_13
                            obtain ⟨hwt, hwf⟩ := hw
                            by_cases c_14 : p0 = 13
                            · have hw := hwt c_14
                              refine lv_tableIn (off := 122) (tgt := 123) hx hb d_R_signOf_1 (by rw [c_14]; decide) (by rw [c_14]; decide) (by rw [c_14]; decide) (by decide) ?_
                              refine va_ldcS hx hb hown (hX.1 _ rs_5) d_R_signOf_123 ?_
                              exact W.aret (v := .ref (sa 5)) hx hb hr (Or.inl ⟨_, rfl⟩) (Or.inr ⟨_, rfl⟩) (fun t ht hW => ⟨⟨(5, ()), _, rfl, hw, rfl, by rw [ht]; exact hP, va_K.moved hW.alike hK, hD⟩, hS.F ht⟩) hS.2.2 d_R_signOf_125
                            · have hw := hwf c_14
                              obtain ⟨hwt, hwf⟩ := hw
                              by_cases c_15 : p0 = 14
                              · have hw := hwt c_15
                                refine lv_tableIn (off := 125) (tgt := 126) hx hb d_R_signOf_1 (by rw [c_15]; decide) (by rw [c_15]; decide) (by rw [c_15]; decide) (by decide) ?_
                                refine va_ldcS hx hb hown (hX.1 _ rs_6) d_R_signOf_126 ?_
                                exact W.aret (v := .ref (sa 6)) hx hb hr (Or.inl ⟨_, rfl⟩) (Or.inr ⟨_, rfl⟩) (fun t ht hW => ⟨⟨(6, ()), _, rfl, hw, rfl, by rw [ht]; exact hP, va_K.moved hW.alike hK, hD⟩, hS.F ht⟩) hS.2.2 d_R_signOf_128
                              · have hw := hwf c_15
                                obtain ⟨hwt, hwf⟩ := hw
                                by_cases c_16 : p0 = 15
                                · have hw := hwt c_16
                                  refine lv_tableIn (off := 128) (tgt := 129) hx hb d_R_signOf_1 (by rw [c_16]; decide) (by rw [c_16]; decide) (by rw [c_16]; decide) (by decide) ?_
                                  refine va_ldcS hx hb hown (hX.1 _ rs_23) d_R_signOf_129 ?_
                                  exact W.aret (v := .ref (sa 23)) hx hb hr (Or.inl ⟨_, rfl⟩) (Or.inr ⟨_, rfl⟩) (fun t ht hW => ⟨⟨(23, ()), _, rfl, hw, rfl, by rw [ht]; exact hP, va_K.moved hW.alike hK, hD⟩, hS.F ht⟩) hS.2.2 d_R_signOf_131
                                · have hw := hwf c_16
                                  obtain ⟨hwt, hwf⟩ := hw
                                  by_cases c_17 : p0 = 16
                                  · have hw := hwt c_17
                                    refine lv_tableIn (off := 131) (tgt := 132) hx hb d_R_signOf_1 (by rw [c_17]; decide) (by rw [c_17]; decide) (by rw [c_17]; decide) (by decide) ?_
                                    refine va_ldcS hx hb hown (hX.1 _ rs_24) d_R_signOf_132 ?_
                                    exact W.aret (v := .ref (sa 24)) hx hb hr (Or.inl ⟨_, rfl⟩) (Or.inr ⟨_, rfl⟩) (fun t ht hW => ⟨⟨(24, ()), _, rfl, hw, rfl, by rw [ht]; exact hP, va_K.moved hW.alike hK, hD⟩, hS.F ht⟩) hS.2.2 d_R_signOf_134
                                  · have hw := hwf c_17
                                    have nc_1 := lv_neT c_1 (show (0 : Int32).toInt = 0 from rfl)
                                    have nc_2 := lv_neT c_2 (show (1 : Int32).toInt = 1 from rfl)
                                    have nc_3 := lv_neT c_3 (show (2 : Int32).toInt = 2 from rfl)
                                    have nc_4 := lv_neT c_4 (show (3 : Int32).toInt = 3 from rfl)
                                    have nc_5 := lv_neT c_5 (show (4 : Int32).toInt = 4 from rfl)
                                    have nc_6 := lv_neT c_6 (show (5 : Int32).toInt = 5 from rfl)
                                    have nc_7 := lv_neT c_7 (show (6 : Int32).toInt = 6 from rfl)
                                    have nc_8 := lv_neT c_8 (show (7 : Int32).toInt = 7 from rfl)
                                    have nc_9 := lv_neT c_9 (show (8 : Int32).toInt = 8 from rfl)
                                    have nc_10 := lv_neT c_10 (show (9 : Int32).toInt = 9 from rfl)
                                    have nc_11 := lv_neT c_11 (show (10 : Int32).toInt = 10 from rfl)
                                    have nc_12 := lv_neT c_12 (show (11 : Int32).toInt = 11 from rfl)
                                    have nc_13 := lv_neT c_13 (show (12 : Int32).toInt = 12 from rfl)
                                    have nc_14 := lv_neT c_14 (show (13 : Int32).toInt = 13 from rfl)
                                    have nc_15 := lv_neT c_15 (show (14 : Int32).toInt = 14 from rfl)
                                    have nc_16 := lv_neT c_16 (show (15 : Int32).toInt = 15 from rfl)
                                    have nc_17 := lv_neT c_17 (show (16 : Int32).toInt = 16 from rfl)
                                    refine lv_tableOut (tgt := 135) hx hb d_R_signOf_1 (by omega) (by decide) ?_
                                    refine va_ldcS hx hb hown (hX.1 _ rs_25) d_R_signOf_135 ?_
                                    exact W.aret (v := .ref (sa 25)) hx hb hr (Or.inl ⟨_, rfl⟩) (Or.inr ⟨_, rfl⟩) (fun t ht hW => ⟨⟨(25, ()), _, rfl, hw, rfl, by rw [ht]; exact hP, va_K.moved hW.alike hK, hD⟩, hS.F ht⟩) hS.2.2 d_R_signOf_137

abbrev wd_R_strengthOf (ad : Nat → Nat) (ck : Nat → ClassId)  : va_W := []
def w_R_strengthOf_425 (post : Int32 → Prop) (q0 : Nat) (x2 : Int32) : Prop := (x2 = 0 → (post 1)) ∧ (¬ x2 = 0 → ((x2 = 1 → (post 2)) ∧ (¬ x2 = 1 → ((x2 = 2 → (post 3)) ∧ (¬ x2 = 2 → ((x2 = 3 → (post 4)) ∧ (¬ x2 = 3 → ((x2 = 4 → (post 5)) ∧ (¬ x2 = 4 → ((x2 = 5 → (post 6)) ∧ (¬ x2 = 5 → ((x2 = 6 → (post 6)) ∧ (¬ x2 = 6 → ((x2 = 7 → (post 7)) ∧ (¬ x2 = 7 → ((x2 = 8 → (post 7)) ∧ (¬ x2 = 8 → ((x2 = 9 → (post 7)) ∧ (¬ x2 = 9 → ((x2 = 10 → (post 7)) ∧ (¬ x2 = 10 → ((x2 = 11 → (post 8)) ∧ (¬ x2 = 11 → ((x2 = 12 → (post 8)) ∧ (¬ x2 = 12 → ((x2 = 13 → (post 9)) ∧ (¬ x2 = 13 → ((x2 = 14 → (post 9)) ∧ (¬ x2 = 14 → ((x2 = 15 → (post 10)) ∧ (¬ x2 = 15 → ((x2 = 16 → (post 10)) ∧ (¬ x2 = 16 → ((x2 = 17 → (post 10)) ∧ (¬ x2 = 17 → (post 0))))))))))))))))))))))))))))))))))))
def wp_R_strengthOf (post : Int32 → Prop)  (q0 : Nat) : Prop := q0 < NS ∧ (wp_QJS_hashCode (fun (r_1 : Int32) => (r_1 = 37 → (wp_QJS_equals (fun (r_3 : Int32) => (r_3 = 0 → (w_R_strengthOf_425 post q0 (-1))) ∧ (¬ r_3 = 0 → (w_R_strengthOf_425 post q0 17))) q0 25)) ∧ (¬ r_1 = 37 → ((r_1 = 38 → (wp_QJS_equals (fun (r_24 : Int32) => (r_24 = 0 → (w_R_strengthOf_425 post q0 (-1))) ∧ (¬ r_24 = 0 → (w_R_strengthOf_425 post q0 4))) q0 14)) ∧ (¬ r_1 = 38 → ((r_1 = 42 → (wp_QJS_equals (fun (r_27 : Int32) => (r_27 = 0 → (w_R_strengthOf_425 post q0 (-1))) ∧ (¬ r_27 = 0 → (w_R_strengthOf_425 post q0 15))) q0 23)) ∧ (¬ r_1 = 42 → ((r_1 = 43 → (wp_QJS_equals (fun (r_30 : Int32) => (r_30 = 0 → (w_R_strengthOf_425 post q0 (-1))) ∧ (¬ r_30 = 0 → (w_R_strengthOf_425 post q0 13))) q0 5)) ∧ (¬ r_1 = 43 → ((r_1 = 45 → (wp_QJS_equals (fun (r_33 : Int32) => (r_33 = 0 → (w_R_strengthOf_425 post q0 (-1))) ∧ (¬ r_33 = 0 → (w_R_strengthOf_425 post q0 14))) q0 6)) ∧ (¬ r_1 = 45 → ((r_1 = 47 → (wp_QJS_equals (fun (r_36 : Int32) => (r_36 = 0 → (w_R_strengthOf_425 post q0 (-1))) ∧ (¬ r_36 = 0 → (w_R_strengthOf_425 post q0 16))) q0 24)) ∧ (¬ r_1 = 47 → ((r_1 = 60 → (wp_QJS_equals (fun (r_39 : Int32) => (r_39 = 0 → (w_R_strengthOf_425 post q0 (-1))) ∧ (¬ r_39 = 0 → (w_R_strengthOf_425 post q0 7))) q0 17)) ∧ (¬ r_1 = 60 → ((r_1 = 62 → (wp_QJS_equals (fun (r_42 : Int32) => (r_42 = 0 → (w_R_strengthOf_425 post q0 (-1))) ∧ (¬ r_42 = 0 → (w_R_strengthOf_425 post q0 8))) q0 18)) ∧ (¬ r_1 = 62 → ((r_1 = 94 → (wp_QJS_equals (fun (r_45 : Int32) => (r_45 = 0 → (w_R_strengthOf_425 post q0 (-1))) ∧ (¬ r_45 = 0 → (w_R_strengthOf_425 post q0 3))) q0 13)) ∧ (¬ r_1 = 94 → ((r_1 = 124 → (wp_QJS_equals (fun (r_48 : Int32) => (r_48 = 0 → (w_R_strengthOf_425 post q0 (-1))) ∧ (¬ r_48 = 0 → (w_R_strengthOf_425 post q0 2))) q0 12)) ∧ (¬ r_1 = 124 → ((r_1 = 1084 → (wp_QJS_equals (fun (r_51 : Int32) => (r_51 = 0 → (w_R_strengthOf_425 post q0 (-1))) ∧ (¬ r_51 = 0 → (w_R_strengthOf_425 post q0 6))) q0 16)) ∧ (¬ r_1 = 1084 → ((r_1 = 1216 → (wp_QJS_equals (fun (r_54 : Int32) => (r_54 = 0 → (w_R_strengthOf_425 post q0 (-1))) ∧ (¬ r_54 = 0 → (w_R_strengthOf_425 post q0 1))) q0 11)) ∧ (¬ r_1 = 1216 → ((r_1 = 1920 → (wp_QJS_equals (fun (r_57 : Int32) => (r_57 = 0 → (w_R_strengthOf_425 post q0 (-1))) ∧ (¬ r_57 = 0 → (w_R_strengthOf_425 post q0 11))) q0 21)) ∧ (¬ r_1 = 1920 → ((r_1 = 1921 → (wp_QJS_equals (fun (r_60 : Int32) => (r_60 = 0 → (w_R_strengthOf_425 post q0 (-1))) ∧ (¬ r_60 = 0 → (w_R_strengthOf_425 post q0 9))) q0 19)) ∧ (¬ r_1 = 1921 → ((r_1 = 1952 → (wp_QJS_equals (fun (r_63 : Int32) => (r_63 = 0 → (w_R_strengthOf_425 post q0 (-1))) ∧ (¬ r_63 = 0 → (w_R_strengthOf_425 post q0 5))) q0 15)) ∧ (¬ r_1 = 1952 → ((r_1 = 1983 → (wp_QJS_equals (fun (r_66 : Int32) => (r_66 = 0 → (w_R_strengthOf_425 post q0 (-1))) ∧ (¬ r_66 = 0 → (w_R_strengthOf_425 post q0 10))) q0 20)) ∧ (¬ r_1 = 1983 → ((r_1 = 1984 → (wp_QJS_equals (fun (r_69 : Int32) => (r_69 = 0 → (w_R_strengthOf_425 post q0 (-1))) ∧ (¬ r_69 = 0 → (w_R_strengthOf_425 post q0 12))) q0 22)) ∧ (¬ r_1 = 1984 → ((r_1 = 3968 → (wp_QJS_equals (fun (r_72 : Int32) => (r_72 = 0 → (w_R_strengthOf_425 post q0 (-1))) ∧ (¬ r_72 = 0 → (w_R_strengthOf_425 post q0 0))) q0 10)) ∧ (¬ r_1 = 3968 → (w_R_strengthOf_425 post q0 (-1)))))))))))))))))))))))))))))))))))))) q0)
set_option maxHeartbeats 4000000 in
set_option maxRecDepth 100000 in
theorem kc_R_strengthOf (l : Launch) (dC : Nat → ClassId) (dI : Nat → Nat → Nat) (ad : Nat → Nat) (ck : Nat → ClassId) (sa sv : Nat → Nat) (sf : Option Nat)  (q0 : Nat) {post : Int32 → Prop} (hw : wp_R_strengthOf post  q0) : k_Ci l y_R_strengthOf ws_R_strengthOf ({ frames := 2, cells := 0, slots := 0, locals := 44 } : Room) (dC, dI) vwCl (TYr ck) (XR sa sv sf) [.ref (sa q0)] ([]) (fun (r : Int32) (u : Unit) => post r ) (fun (u : Unit) => []) := by
  intro sz
  refine Met.ofW (cc := c_R_strengthOf) (maxL := 3) (ret := (some .int)) (by decide) rfl ?_
  intro p e s m args below meth c s₁ B hml hv
  obtain ⟨rfl, hsz, hP, hK, hD0, hX⟩ := hv
  have hx := B.exec
  have hb := B.bytes
  have hr := B.returns
  have hts : ∀ w ∈ TB, w.before _ s = true := fun w h => atoms_spec (ws := ws_R_strengthOf) B.pre w (List.mem_cons_of_mem _ h)
  have hown : s.vm.findClass R_R = some m.cls := findClass_of_methodNamed B.named
  have hlocks := B.notSynchronized
  subst hsz
  have hD := hD0.self (sz := s.heap.size)
  generalize hAe : va_A ([]) s.heap.size = A at hD hX ⊢
  have hA : ∀ q : Nat, s.heap.size ≤ q → A q := fun q h => by rw [← hAe]; exact Or.inr h
  have hS : va_S A s.heap s.heap [] := va_S.rf
  have hP : va_P (dC, dI) vwCl ([]) s.heap := hP
  have hl := lv_entry ([.ref (sa q0)]) (n := 3) (Nat.le_of_ble_eq_true rfl)
  rw [lg_entry_eq]
  generalize (lg_sl ([.ref (sa q0)]) ++ List.replicate (3 - (lg_sl ([.ref (sa q0)])).length) Slot.unset).toArray = ls at hl ⊢
  have hl : lv_has ls 3 [(0, .ref (sa q0))] := hl
  obtain ⟨hq0, hw⟩ := hw
  have L_425 : ∀ (x2 : Int32) (H : Heap) (locs : List Loc) (ls : Array Slot), w_R_strengthOf_425 post q0 x2 → va_P (dC, dI) vwCl ([]) H → va_D A ([]) → va_S A s.heap H locs → lv_has ls 3 [(2, .int x2)] → W p l e (headSpec ws_R_strengthOf ({ frames := 2, cells := 0, slots := 0, locals := 44 } : Room)).room s m ([.ref (sa q0)] : List Value).toArray below meth c H locs 0 0 (k_Qi below (dC, dI) vwCl (TYr ck) A (fun (r : Int32) (u : Unit) => post r ) (fun (u : Unit) => []) ([.ref (sa q0)] : List Value).toArray s) (F0 m 425 ls []) := by
    intro x2 H locs ls hw hP hD hS hl
    refine lv_iload_n hx hb d_R_strengthOf_425 rfl (lv_at hl 0 rfl) ?_
    obtain ⟨hwt, hwf⟩ := hw
    by_cases c_5 : x2 = 0
    · have hw := hwt c_5
      refine lv_tableIn (off := 86) (tgt := 512) hx hb d_R_strengthOf_426 (by rw [c_5]; decide) (by rw [c_5]; decide) (by rw [c_5]; decide) (by decide) ?_
      refine lv_iconst (v := 1) hx hb d_R_strengthOf_512 (by decide) ?_
      exact W.iret (v := 1) hx hb hr (fun t ht hW => ⟨⟨1, (), rfl, hw, by rw [ht]; exact hP, va_K.moved hW.alike hK, hD⟩, hS.F ht⟩) hS.2.2 d_R_strengthOf_513
    · have hw := hwf c_5
      obtain ⟨hwt, hwf⟩ := hw
      by_cases c_6 : x2 = 1
      · have hw := hwt c_6
        refine lv_tableIn (off := 88) (tgt := 514) hx hb d_R_strengthOf_426 (by rw [c_6]; decide) (by rw [c_6]; decide) (by rw [c_6]; decide) (by decide) ?_
        refine lv_iconst (v := 2) hx hb d_R_strengthOf_514 (by decide) ?_
        exact W.iret (v := 2) hx hb hr (fun t ht hW => ⟨⟨2, (), rfl, hw, by rw [ht]; exact hP, va_K.moved hW.alike hK, hD⟩, hS.F ht⟩) hS.2.2 d_R_strengthOf_515
      · have hw := hwf c_6
        obtain ⟨hwt, hwf⟩ := hw
        by_cases c_7 : x2 = 2
        · have hw := hwt c_7
          refine lv_tableIn (off := 90) (tgt := 516) hx hb d_R_strengthOf_426 (by rw [c_7]; decide) (by rw [c_7]; decide) (by rw [c_7]; decide) (by decide) ?_
          refine lv_iconst (v := 3) hx hb d_R_strengthOf_516 (by decide) ?_
          exact W.iret (v := 3) hx hb hr (fun t ht hW => ⟨⟨3, (), rfl, hw, by rw [ht]; exact hP, va_K.moved hW.alike hK, hD⟩, hS.F ht⟩) hS.2.2 d_R_strengthOf_517
        · have hw := hwf c_7
          obtain ⟨hwt, hwf⟩ := hw
          by_cases c_8 : x2 = 3
          · have hw := hwt c_8
            refine lv_tableIn (off := 92) (tgt := 518) hx hb d_R_strengthOf_426 (by rw [c_8]; decide) (by rw [c_8]; decide) (by rw [c_8]; decide) (by decide) ?_
            refine lv_iconst (v := 4) hx hb d_R_strengthOf_518 (by decide) ?_
            exact W.iret (v := 4) hx hb hr (fun t ht hW => ⟨⟨4, (), rfl, hw, by rw [ht]; exact hP, va_K.moved hW.alike hK, hD⟩, hS.F ht⟩) hS.2.2 d_R_strengthOf_519
          · have hw := hwf c_8
            obtain ⟨hwt, hwf⟩ := hw
            by_cases c_9 : x2 = 4
            · have hw := hwt c_9
              refine lv_tableIn (off := 94) (tgt := 520) hx hb d_R_strengthOf_426 (by rw [c_9]; decide) (by rw [c_9]; decide) (by rw [c_9]; decide) (by decide) ?_
              refine lv_iconst (v := 5) hx hb d_R_strengthOf_520 (by decide) ?_
              exact W.iret (v := 5) hx hb hr (fun t ht hW => ⟨⟨5, (), rfl, hw, by rw [ht]; exact hP, va_K.moved hW.alike hK, hD⟩, hS.F ht⟩) hS.2.2 d_R_strengthOf_521
            · have hw := hwf c_9
              obtain ⟨hwt, hwf⟩ := hw
              by_cases c_10 : x2 = 5
              · have hw := hwt c_10
                refine lv_tableIn (off := 96) (tgt := 522) hx hb d_R_strengthOf_426 (by rw [c_10]; decide) (by rw [c_10]; decide) (by rw [c_10]; decide) (by decide) ?_
                refine lv_bipush (v := 6) hx hb d_R_strengthOf_522 (by decide) ?_
                exact W.iret (v := 6) hx hb hr (fun t ht hW => ⟨⟨6, (), rfl, hw, by rw [ht]; exact hP, va_K.moved hW.alike hK, hD⟩, hS.F ht⟩) hS.2.2 d_R_strengthOf_524
              · have hw := hwf c_10
                obtain ⟨hwt, hwf⟩ := hw
                by_cases c_11 : x2 = 6
                · have hw := hwt c_11
                  refine lv_tableIn (off := 96) (tgt := 522) hx hb d_R_strengthOf_426 (by rw [c_11]; decide) (by rw [c_11]; decide) (by rw [c_11]; decide) (by decide) ?_
                  refine lv_bipush (v := 6) hx hb d_R_strengthOf_522 (by decide) ?_
                  exact W.iret (v := 6) hx hb hr (fun t ht hW => ⟨⟨6, (), rfl, hw, by rw [ht]; exact hP, va_K.moved hW.alike hK, hD⟩, hS.F ht⟩) hS.2.2 d_R_strengthOf_524
                · have hw := hwf c_11
                  obtain ⟨hwt, hwf⟩ := hw
                  by_cases c_12 : x2 = 7
                  · have hw := hwt c_12
                    refine lv_tableIn (off := 99) (tgt := 525) hx hb d_R_strengthOf_426 (by rw [c_12]; decide) (by rw [c_12]; decide) (by rw [c_12]; decide) (by decide) ?_
                    refine lv_bipush (v := 7) hx hb d_R_strengthOf_525 (by decide) ?_
                    exact W.iret (v := 7) hx hb hr (fun t ht hW => ⟨⟨7, (), rfl, hw, by rw [ht]; exact hP, va_K.moved hW.alike hK, hD⟩, hS.F ht⟩) hS.2.2 d_R_strengthOf_527
                  · have hw := hwf c_12
                    obtain ⟨hwt, hwf⟩ := hw
                    by_cases c_13 : x2 = 8
                    · have hw := hwt c_13
                      refine lv_tableIn (off := 99) (tgt := 525) hx hb d_R_strengthOf_426 (by rw [c_13]; decide) (by rw [c_13]; decide) (by rw [c_13]; decide) (by decide) ?_
                      refine lv_bipush (v := 7) hx hb d_R_strengthOf_525 (by decide) ?_
                      exact W.iret (v := 7) hx hb hr (fun t ht hW => ⟨⟨7, (), rfl, hw, by rw [ht]; exact hP, va_K.moved hW.alike hK, hD⟩, hS.F ht⟩) hS.2.2 d_R_strengthOf_527
                    · have hw := hwf c_13
                      obtain ⟨hwt, hwf⟩ := hw
                      by_cases c_14 : x2 = 9
                      · have hw := hwt c_14
                        refine lv_tableIn (off := 99) (tgt := 525) hx hb d_R_strengthOf_426 (by rw [c_14]; decide) (by rw [c_14]; decide) (by rw [c_14]; decide) (by decide) ?_
                        refine lv_bipush (v := 7) hx hb d_R_strengthOf_525 (by decide) ?_
                        exact W.iret (v := 7) hx hb hr (fun t ht hW => ⟨⟨7, (), rfl, hw, by rw [ht]; exact hP, va_K.moved hW.alike hK, hD⟩, hS.F ht⟩) hS.2.2 d_R_strengthOf_527
                      · have hw := hwf c_14
                        obtain ⟨hwt, hwf⟩ := hw
                        by_cases c_15 : x2 = 10
                        · have hw := hwt c_15
                          refine lv_tableIn (off := 99) (tgt := 525) hx hb d_R_strengthOf_426 (by rw [c_15]; decide) (by rw [c_15]; decide) (by rw [c_15]; decide) (by decide) ?_
                          refine lv_bipush (v := 7) hx hb d_R_strengthOf_525 (by decide) ?_
                          exact W.iret (v := 7) hx hb hr (fun t ht hW => ⟨⟨7, (), rfl, hw, by rw [ht]; exact hP, va_K.moved hW.alike hK, hD⟩, hS.F ht⟩) hS.2.2 d_R_strengthOf_527
                        · have hw := hwf c_15
                          obtain ⟨hwt, hwf⟩ := hw
                          by_cases c_16 : x2 = 11
                          · have hw := hwt c_16
                            refine lv_tableIn (off := 102) (tgt := 528) hx hb d_R_strengthOf_426 (by rw [c_16]; decide) (by rw [c_16]; decide) (by rw [c_16]; decide) (by decide) ?_
                            refine lv_bipush (v := 8) hx hb d_R_strengthOf_528 (by decide) ?_
                            exact W.iret (v := 8) hx hb hr (fun t ht hW => ⟨⟨8, (), rfl, hw, by rw [ht]; exact hP, va_K.moved hW.alike hK, hD⟩, hS.F ht⟩) hS.2.2 d_R_strengthOf_530
                          · have hw := hwf c_16
                            obtain ⟨hwt, hwf⟩ := hw
                            by_cases c_17 : x2 = 12
                            · have hw := hwt c_17
                              refine lv_tableIn (off := 102) (tgt := 528) hx hb d_R_strengthOf_426 (by rw [c_17]; decide) (by rw [c_17]; decide) (by rw [c_17]; decide) (by decide) ?_
                              refine lv_bipush (v := 8) hx hb d_R_strengthOf_528 (by decide) ?_
                              exact W.iret (v := 8) hx hb hr (fun t ht hW => ⟨⟨8, (), rfl, hw, by rw [ht]; exact hP, va_K.moved hW.alike hK, hD⟩, hS.F ht⟩) hS.2.2 d_R_strengthOf_530
                            · have hw := hwf c_17
                              obtain ⟨hwt, hwf⟩ := hw
                              by_cases c_18 : x2 = 13
                              · have hw := hwt c_18
                                refine lv_tableIn (off := 105) (tgt := 531) hx hb d_R_strengthOf_426 (by rw [c_18]; decide) (by rw [c_18]; decide) (by rw [c_18]; decide) (by decide) ?_
                                refine lv_bipush (v := 9) hx hb d_R_strengthOf_531 (by decide) ?_
                                exact W.iret (v := 9) hx hb hr (fun t ht hW => ⟨⟨9, (), rfl, hw, by rw [ht]; exact hP, va_K.moved hW.alike hK, hD⟩, hS.F ht⟩) hS.2.2 d_R_strengthOf_533
                              · have hw := hwf c_18
                                obtain ⟨hwt, hwf⟩ := hw
                                by_cases c_19 : x2 = 14
                                · have hw := hwt c_19
                                  refine lv_tableIn (off := 105) (tgt := 531) hx hb d_R_strengthOf_426 (by rw [c_19]; decide) (by rw [c_19]; decide) (by rw [c_19]; decide) (by decide) ?_
                                  refine lv_bipush (v := 9) hx hb d_R_strengthOf_531 (by decide) ?_
                                  exact W.iret (v := 9) hx hb hr (fun t ht hW => ⟨⟨9, (), rfl, hw, by rw [ht]; exact hP, va_K.moved hW.alike hK, hD⟩, hS.F ht⟩) hS.2.2 d_R_strengthOf_533
                                · have hw := hwf c_19
                                  obtain ⟨hwt, hwf⟩ := hw
                                  by_cases c_20 : x2 = 15
                                  · have hw := hwt c_20
                                    refine lv_tableIn (off := 108) (tgt := 534) hx hb d_R_strengthOf_426 (by rw [c_20]; decide) (by rw [c_20]; decide) (by rw [c_20]; decide) (by decide) ?_
                                    refine lv_bipush (v := 10) hx hb d_R_strengthOf_534 (by decide) ?_
                                    exact W.iret (v := 10) hx hb hr (fun t ht hW => ⟨⟨10, (), rfl, hw, by rw [ht]; exact hP, va_K.moved hW.alike hK, hD⟩, hS.F ht⟩) hS.2.2 d_R_strengthOf_536
                                  · have hw := hwf c_20
                                    obtain ⟨hwt, hwf⟩ := hw
                                    by_cases c_21 : x2 = 16
                                    · have hw := hwt c_21
                                      refine lv_tableIn (off := 108) (tgt := 534) hx hb d_R_strengthOf_426 (by rw [c_21]; decide) (by rw [c_21]; decide) (by rw [c_21]; decide) (by decide) ?_
                                      refine lv_bipush (v := 10) hx hb d_R_strengthOf_534 (by decide) ?_
                                      exact W.iret (v := 10) hx hb hr (fun t ht hW => ⟨⟨10, (), rfl, hw, by rw [ht]; exact hP, va_K.moved hW.alike hK, hD⟩, hS.F ht⟩) hS.2.2 d_R_strengthOf_536
                                    · have hw := hwf c_21
                                      obtain ⟨hwt, hwf⟩ := hw
                                      by_cases c_22 : x2 = 17
                                      · have hw := hwt c_22
                                        refine lv_tableIn (off := 108) (tgt := 534) hx hb d_R_strengthOf_426 (by rw [c_22]; decide) (by rw [c_22]; decide) (by rw [c_22]; decide) (by decide) ?_
                                        refine lv_bipush (v := 10) hx hb d_R_strengthOf_534 (by decide) ?_
                                        exact W.iret (v := 10) hx hb hr (fun t ht hW => ⟨⟨10, (), rfl, hw, by rw [ht]; exact hP, va_K.moved hW.alike hK, hD⟩, hS.F ht⟩) hS.2.2 d_R_strengthOf_536
                                      · have hw := hwf c_22
                                        have nc_5 := lv_neT c_5 (show (0 : Int32).toInt = 0 from rfl)
                                        have nc_6 := lv_neT c_6 (show (1 : Int32).toInt = 1 from rfl)
                                        have nc_7 := lv_neT c_7 (show (2 : Int32).toInt = 2 from rfl)
                                        have nc_8 := lv_neT c_8 (show (3 : Int32).toInt = 3 from rfl)
                                        have nc_9 := lv_neT c_9 (show (4 : Int32).toInt = 4 from rfl)
                                        have nc_10 := lv_neT c_10 (show (5 : Int32).toInt = 5 from rfl)
                                        have nc_11 := lv_neT c_11 (show (6 : Int32).toInt = 6 from rfl)
                                        have nc_12 := lv_neT c_12 (show (7 : Int32).toInt = 7 from rfl)
                                        have nc_13 := lv_neT c_13 (show (8 : Int32).toInt = 8 from rfl)
                                        have nc_14 := lv_neT c_14 (show (9 : Int32).toInt = 9 from rfl)
                                        have nc_15 := lv_neT c_15 (show (10 : Int32).toInt = 10 from rfl)
                                        have nc_16 := lv_neT c_16 (show (11 : Int32).toInt = 11 from rfl)
                                        have nc_17 := lv_neT c_17 (show (12 : Int32).toInt = 12 from rfl)
                                        have nc_18 := lv_neT c_18 (show (13 : Int32).toInt = 13 from rfl)
                                        have nc_19 := lv_neT c_19 (show (14 : Int32).toInt = 14 from rfl)
                                        have nc_20 := lv_neT c_20 (show (15 : Int32).toInt = 15 from rfl)
                                        have nc_21 := lv_neT c_21 (show (16 : Int32).toInt = 16 from rfl)
                                        have nc_22 := lv_neT c_22 (show (17 : Int32).toInt = 17 from rfl)
                                        refine lv_tableOut (tgt := 537) hx hb d_R_strengthOf_426 (by omega) (by decide) ?_
                                        refine lv_iconst (v := 0) hx hb d_R_strengthOf_537 (by decide) ?_
                                        exact W.iret (v := 0) hx hb hr (fun t ht hW => ⟨⟨0, (), rfl, hw, by rw [ht]; exact hP, va_K.moved hW.alike hK, hD⟩, hS.F ht⟩) hS.2.2 d_R_strengthOf_538
  refine lv_aload_n hx hb d_R_strengthOf_0 rfl (lv_at hl 0 rfl) ?_
  refine lv_astore_n (lv' := [(1, .ref (sa q0)), (0, .ref (sa q0))]) hx hb d_R_strengthOf_1 rfl hl (by decide) rfl (fun ls hl => ?_)
  refine lv_iconst (v := (-1)) hx hb d_R_strengthOf_2 (by decide) ?_
  refine lv_istore_n (lv' := [(2, .int (-1)), (1, .ref (sa q0)), (0, .ref (sa q0))]) hx hb d_R_strengthOf_3 rfl hl (by decide) rfl (fun ls hl => ?_)
  refine lv_aload_n hx hb d_R_strengthOf_4 rfl (lv_at hl 1 rfl) ?_
  refine k_callVi (As := []) (rest := []) (fun (u : Unit) => []) ⟨hx, hb, hml, hown, hts⟩ (kc_QJS_hashCode l dC dI ad ck sa sv sf q0 (hw := hw)) (cwV 0 hts (gV ux_38 ux_40 ux_41 ux_5 ux_39) rfl rfl rfl hd_QJS_hashCode ⟨Nat.le_of_ble_eq_true rfl, Nat.le_of_ble_eq_true rfl⟩) hK hP hD hS hA (XR_c sa sv sf) hX [] [] [] rfl rfl (by decide) (by decide) (fun _ => rfl) (st_recv (hX.2.1 q0 hq0).1 hS) rfl hl.1 rfl (lv_room (Nat.le_of_ble_eq_true rfl)) d_R_strengthOf_5 ⟨Nat.zero_le _, Nat.zero_le _⟩ ?_
  intro r_1 u H locs hw hP hD hS
  have hP : va_P (dC, dI) vwCl ([]) H := hP
  have hD : va_D A ([]) := hD
  try dsimp only at hw
  obtain ⟨hwt, hwf⟩ := hw
  by_cases c_2 : r_1 = 37
  · have hw := hwt c_2
    refine lv_lookup (off := 405) (tgt := 413) hx hb d_R_strengthOf_8 (by decide) (by rw [c_2]; decide) (by decide) ?_
    refine lv_aload_n hx hb d_R_strengthOf_413 rfl (lv_at hl 1 rfl) ?_
    refine va_ldcS hx hb hown (hX.1 _ rs_25) d_R_strengthOf_414 ?_
    refine k_callVi (As := [.ref (sa 25)]) (rest := []) (fun (u : Unit) => []) ⟨hx, hb, hml, hown, hts⟩ (kc_QJS_equals l dC dI ad ck sa sv sf q0 25 (hw := hw)) (cwV 1 hts (gV ux_42 ux_44 ux_45 ux_5 ux_43) rfl rfl rfl hd_QJS_equals ⟨Nat.le_of_ble_eq_true rfl, Nat.le_of_ble_eq_true rfl⟩) hK hP hD hS hA (XR_c sa sv sf) hX [] [] [] rfl rfl (by decide) (by decide) (fun _ => rfl) (st_recv (hX.2.1 q0 hq0).1 hS) rfl hl.1 rfl (lv_room (Nat.le_of_ble_eq_true rfl)) d_R_strengthOf_416 ⟨Nat.zero_le _, Nat.zero_le _⟩ ?_
    intro r_3 u H locs hw hP hD hS
    have hP : va_P (dC, dI) vwCl ([]) H := hP
    have hD : va_D A ([]) := hD
    try dsimp only at hw
    obtain ⟨hwt, hwf⟩ := hw
    refine lv_if_eq (tgt := 425) hx hb d_R_strengthOf_419 (by decide) (fun c_4 => ?_) (fun c_4 => ?_)
    · have hw := hwt c_4
      exact L_425 (-1) _ _ _ hw hP hD hS (lv_sub hl [0] rfl)
    · have hw := hwf c_4
      refine lv_bipush (v := 17) hx hb d_R_strengthOf_422 (by decide) ?_
      refine lv_istore_n (lv' := [(2, .int 17), (1, .ref (sa q0)), (0, .ref (sa q0))]) hx hb d_R_strengthOf_424 rfl hl (by decide) rfl (fun ls hl => ?_)
      exact L_425 17 _ _ _ hw hP hD hS (lv_sub hl [0] rfl)
  · have hw := hwf c_2
    obtain ⟨hwt, hwf⟩ := hw
    by_cases c_23 : r_1 = 38
    · have hw := hwt c_23
      refine lv_lookup (off := 212) (tgt := 220) hx hb d_R_strengthOf_8 (by decide) (by rw [c_23]; decide) (by decide) ?_
      refine lv_aload_n hx hb d_R_strengthOf_220 rfl (lv_at hl 1 rfl) ?_
      refine va_ldcS hx hb hown (hX.1 _ rs_14) d_R_strengthOf_221 ?_
      refine k_callVi (As := [.ref (sa 14)]) (rest := []) (fun (u : Unit) => []) ⟨hx, hb, hml, hown, hts⟩ (kc_QJS_equals l dC dI ad ck sa sv sf q0 14 (hw := hw)) (cwV 1 hts (gV ux_42 ux_44 ux_45 ux_5 ux_43) rfl rfl rfl hd_QJS_equals ⟨Nat.le_of_ble_eq_true rfl, Nat.le_of_ble_eq_true rfl⟩) hK hP hD hS hA (XR_c sa sv sf) hX [] [] [] rfl rfl (by decide) (by decide) (fun _ => rfl) (st_recv (hX.2.1 q0 hq0).1 hS) rfl hl.1 rfl (lv_room (Nat.le_of_ble_eq_true rfl)) d_R_strengthOf_223 ⟨Nat.zero_le _, Nat.zero_le _⟩ ?_
      intro r_24 u H locs hw hP hD hS
      have hP : va_P (dC, dI) vwCl ([]) H := hP
      have hD : va_D A ([]) := hD
      try dsimp only at hw
      obtain ⟨hwt, hwf⟩ := hw
      refine lv_if_eq (tgt := 425) hx hb d_R_strengthOf_226 (by decide) (fun c_25 => ?_) (fun c_25 => ?_)
      · have hw := hwt c_25
        exact L_425 (-1) _ _ _ hw hP hD hS (lv_sub hl [0] rfl)
      · have hw := hwf c_25
        refine lv_iconst (v := 4) hx hb d_R_strengthOf_229 (by decide) ?_
        refine lv_istore_n (lv' := [(2, .int 4), (1, .ref (sa q0)), (0, .ref (sa q0))]) hx hb d_R_strengthOf_230 rfl hl (by decide) rfl (fun ls hl => ?_)
        refine lv_goto (tgt := 425) hx hb d_R_strengthOf_231 (by decide) ?_
        exact L_425 4 _ _ _ hw hP hD hS (lv_sub hl [0] rfl)
    · have hw := hwf c_23
      obtain ⟨hwt, hwf⟩ := hw
      by_cases c_26 : r_1 = 42
      · have hw := hwt c_26
        refine lv_lookup (off := 375) (tgt := 383) hx hb d_R_strengthOf_8 (by decide) (by rw [c_26]; decide) (by decide) ?_
        refine lv_aload_n hx hb d_R_strengthOf_383 rfl (lv_at hl 1 rfl) ?_
        refine va_ldcS hx hb hown (hX.1 _ rs_23) d_R_strengthOf_384 ?_
        refine k_callVi (As := [.ref (sa 23)]) (rest := []) (fun (u : Unit) => []) ⟨hx, hb, hml, hown, hts⟩ (kc_QJS_equals l dC dI ad ck sa sv sf q0 23 (hw := hw)) (cwV 1 hts (gV ux_42 ux_44 ux_45 ux_5 ux_43) rfl rfl rfl hd_QJS_equals ⟨Nat.le_of_ble_eq_true rfl, Nat.le_of_ble_eq_true rfl⟩) hK hP hD hS hA (XR_c sa sv sf) hX [] [] [] rfl rfl (by decide) (by decide) (fun _ => rfl) (st_recv (hX.2.1 q0 hq0).1 hS) rfl hl.1 rfl (lv_room (Nat.le_of_ble_eq_true rfl)) d_R_strengthOf_386 ⟨Nat.zero_le _, Nat.zero_le _⟩ ?_
        intro r_27 u H locs hw hP hD hS
        have hP : va_P (dC, dI) vwCl ([]) H := hP
        have hD : va_D A ([]) := hD
        try dsimp only at hw
        obtain ⟨hwt, hwf⟩ := hw
        refine lv_if_eq (tgt := 425) hx hb d_R_strengthOf_389 (by decide) (fun c_28 => ?_) (fun c_28 => ?_)
        · have hw := hwt c_28
          exact L_425 (-1) _ _ _ hw hP hD hS (lv_sub hl [0] rfl)
        · have hw := hwf c_28
          refine lv_bipush (v := 15) hx hb d_R_strengthOf_392 (by decide) ?_
          refine lv_istore_n (lv' := [(2, .int 15), (1, .ref (sa q0)), (0, .ref (sa q0))]) hx hb d_R_strengthOf_394 rfl hl (by decide) rfl (fun ls hl => ?_)
          refine lv_goto (tgt := 425) hx hb d_R_strengthOf_395 (by decide) ?_
          exact L_425 15 _ _ _ hw hP hD hS (lv_sub hl [0] rfl)
      · have hw := hwf c_26
        obtain ⟨hwt, hwf⟩ := hw
        by_cases c_29 : r_1 = 43
        · have hw := hwt c_29
          refine lv_lookup (off := 345) (tgt := 353) hx hb d_R_strengthOf_8 (by decide) (by rw [c_29]; decide) (by decide) ?_
          refine lv_aload_n hx hb d_R_strengthOf_353 rfl (lv_at hl 1 rfl) ?_
          refine va_ldcS hx hb hown (hX.1 _ rs_5) d_R_strengthOf_354 ?_
          refine k_callVi (As := [.ref (sa 5)]) (rest := []) (fun (u : Unit) => []) ⟨hx, hb, hml, hown, hts⟩ (kc_QJS_equals l dC dI ad ck sa sv sf q0 5 (hw := hw)) (cwV 1 hts (gV ux_42 ux_44 ux_45 ux_5 ux_43) rfl rfl rfl hd_QJS_equals ⟨Nat.le_of_ble_eq_true rfl, Nat.le_of_ble_eq_true rfl⟩) hK hP hD hS hA (XR_c sa sv sf) hX [] [] [] rfl rfl (by decide) (by decide) (fun _ => rfl) (st_recv (hX.2.1 q0 hq0).1 hS) rfl hl.1 rfl (lv_room (Nat.le_of_ble_eq_true rfl)) d_R_strengthOf_356 ⟨Nat.zero_le _, Nat.zero_le _⟩ ?_
          intro r_30 u H locs hw hP hD hS
          have hP : va_P (dC, dI) vwCl ([]) H := hP
          have hD : va_D A ([]) := hD
          try dsimp only at hw
          obtain ⟨hwt, hwf⟩ := hw
          refine lv_if_eq (tgt := 425) hx hb d_R_strengthOf_359 (by decide) (fun c_31 => ?_) (fun c_31 => ?_)
          · have hw := hwt c_31
            exact L_425 (-1) _ _ _ hw hP hD hS (lv_sub hl [0] rfl)
          · have hw := hwf c_31
            refine lv_bipush (v := 13) hx hb d_R_strengthOf_362 (by decide) ?_
            refine lv_istore_n (lv' := [(2, .int 13), (1, .ref (sa q0)), (0, .ref (sa q0))]) hx hb d_R_strengthOf_364 rfl hl (by decide) rfl (fun ls hl => ?_)
            refine lv_goto (tgt := 425) hx hb d_R_strengthOf_365 (by decide) ?_
            exact L_425 13 _ _ _ hw hP hD hS (lv_sub hl [0] rfl)
        · have hw := hwf c_29
          obtain ⟨hwt, hwf⟩ := hw
          by_cases c_32 : r_1 = 45
          · have hw := hwt c_32
            refine lv_lookup (off := 360) (tgt := 368) hx hb d_R_strengthOf_8 (by decide) (by rw [c_32]; decide) (by decide) ?_
            refine lv_aload_n hx hb d_R_strengthOf_368 rfl (lv_at hl 1 rfl) ?_
            refine va_ldcS hx hb hown (hX.1 _ rs_6) d_R_strengthOf_369 ?_
            refine k_callVi (As := [.ref (sa 6)]) (rest := []) (fun (u : Unit) => []) ⟨hx, hb, hml, hown, hts⟩ (kc_QJS_equals l dC dI ad ck sa sv sf q0 6 (hw := hw)) (cwV 1 hts (gV ux_42 ux_44 ux_45 ux_5 ux_43) rfl rfl rfl hd_QJS_equals ⟨Nat.le_of_ble_eq_true rfl, Nat.le_of_ble_eq_true rfl⟩) hK hP hD hS hA (XR_c sa sv sf) hX [] [] [] rfl rfl (by decide) (by decide) (fun _ => rfl) (st_recv (hX.2.1 q0 hq0).1 hS) rfl hl.1 rfl (lv_room (Nat.le_of_ble_eq_true rfl)) d_R_strengthOf_371 ⟨Nat.zero_le _, Nat.zero_le _⟩ ?_
            intro r_33 u H locs hw hP hD hS
            have hP : va_P (dC, dI) vwCl ([]) H := hP
            have hD : va_D A ([]) := hD
            try dsimp only at hw
            obtain ⟨hwt, hwf⟩ := hw
            refine lv_if_eq (tgt := 425) hx hb d_R_strengthOf_374 (by decide) (fun c_34 => ?_) (fun c_34 => ?_)
            · have hw := hwt c_34
              exact L_425 (-1) _ _ _ hw hP hD hS (lv_sub hl [0] rfl)
            · have hw := hwf c_34
              refine lv_bipush (v := 14) hx hb d_R_strengthOf_377 (by decide) ?_
              refine lv_istore_n (lv' := [(2, .int 14), (1, .ref (sa q0)), (0, .ref (sa q0))]) hx hb d_R_strengthOf_379 rfl hl (by decide) rfl (fun ls hl => ?_)
              refine lv_goto (tgt := 425) hx hb d_R_strengthOf_380 (by decide) ?_
              exact L_425 14 _ _ _ hw hP hD hS (lv_sub hl [0] rfl)
          · have hw := hwf c_32
            obtain ⟨hwt, hwf⟩ := hw
            by_cases c_35 : r_1 = 47
            · have hw := hwt c_35
              refine lv_lookup (off := 390) (tgt := 398) hx hb d_R_strengthOf_8 (by decide) (by rw [c_35]; decide) (by decide) ?_
              refine lv_aload_n hx hb d_R_strengthOf_398 rfl (lv_at hl 1 rfl) ?_
              refine va_ldcS hx hb hown (hX.1 _ rs_24) d_R_strengthOf_399 ?_
              refine k_callVi (As := [.ref (sa 24)]) (rest := []) (fun (u : Unit) => []) ⟨hx, hb, hml, hown, hts⟩ (kc_QJS_equals l dC dI ad ck sa sv sf q0 24 (hw := hw)) (cwV 1 hts (gV ux_42 ux_44 ux_45 ux_5 ux_43) rfl rfl rfl hd_QJS_equals ⟨Nat.le_of_ble_eq_true rfl, Nat.le_of_ble_eq_true rfl⟩) hK hP hD hS hA (XR_c sa sv sf) hX [] [] [] rfl rfl (by decide) (by decide) (fun _ => rfl) (st_recv (hX.2.1 q0 hq0).1 hS) rfl hl.1 rfl (lv_room (Nat.le_of_ble_eq_true rfl)) d_R_strengthOf_401 ⟨Nat.zero_le _, Nat.zero_le _⟩ ?_
              intro r_36 u H locs hw hP hD hS
              have hP : va_P (dC, dI) vwCl ([]) H := hP
              have hD : va_D A ([]) := hD
              try dsimp only at hw
              obtain ⟨hwt, hwf⟩ := hw
              refine lv_if_eq (tgt := 425) hx hb d_R_strengthOf_404 (by decide) (fun c_37 => ?_) (fun c_37 => ?_)
              · have hw := hwt c_37
                exact L_425 (-1) _ _ _ hw hP hD hS (lv_sub hl [0] rfl)
              · have hw := hwf c_37
                refine lv_bipush (v := 16) hx hb d_R_strengthOf_407 (by decide) ?_
                refine lv_istore_n (lv' := [(2, .int 16), (1, .ref (sa q0)), (0, .ref (sa q0))]) hx hb d_R_strengthOf_409 rfl hl (by decide) rfl (fun ls hl => ?_)
                refine lv_goto (tgt := 425) hx hb d_R_strengthOf_410 (by decide) ?_
                exact L_425 16 _ _ _ hw hP hD hS (lv_sub hl [0] rfl)
            · have hw := hwf c_35
              obtain ⟨hwt, hwf⟩ := hw
              by_cases c_38 : r_1 = 60
              · have hw := hwt c_38
                refine lv_lookup (off := 255) (tgt := 263) hx hb d_R_strengthOf_8 (by decide) (by rw [c_38]; decide) (by decide) ?_
                refine lv_aload_n hx hb d_R_strengthOf_263 rfl (lv_at hl 1 rfl) ?_
                refine va_ldcS hx hb hown (hX.1 _ rs_17) d_R_strengthOf_264 ?_
                refine k_callVi (As := [.ref (sa 17)]) (rest := []) (fun (u : Unit) => []) ⟨hx, hb, hml, hown, hts⟩ (kc_QJS_equals l dC dI ad ck sa sv sf q0 17 (hw := hw)) (cwV 1 hts (gV ux_42 ux_44 ux_45 ux_5 ux_43) rfl rfl rfl hd_QJS_equals ⟨Nat.le_of_ble_eq_true rfl, Nat.le_of_ble_eq_true rfl⟩) hK hP hD hS hA (XR_c sa sv sf) hX [] [] [] rfl rfl (by decide) (by decide) (fun _ => rfl) (st_recv (hX.2.1 q0 hq0).1 hS) rfl hl.1 rfl (lv_room (Nat.le_of_ble_eq_true rfl)) d_R_strengthOf_266 ⟨Nat.zero_le _, Nat.zero_le _⟩ ?_
                intro r_39 u H locs hw hP hD hS
                have hP : va_P (dC, dI) vwCl ([]) H := hP
                have hD : va_D A ([]) := hD
                try dsimp only at hw
                obtain ⟨hwt, hwf⟩ := hw
                refine lv_if_eq (tgt := 425) hx hb d_R_strengthOf_269 (by decide) (fun c_40 => ?_) (fun c_40 => ?_)
                · have hw := hwt c_40
                  exact L_425 (-1) _ _ _ hw hP hD hS (lv_sub hl [0] rfl)
                · have hw := hwf c_40
                  refine lv_bipush (v := 7) hx hb d_R_strengthOf_272 (by decide) ?_
                  refine lv_istore_n (lv' := [(2, .int 7), (1, .ref (sa q0)), (0, .ref (sa q0))]) hx hb d_R_strengthOf_274 rfl hl (by decide) rfl (fun ls hl => ?_)
                  refine lv_goto (tgt := 425) hx hb d_R_strengthOf_275 (by decide) ?_
                  exact L_425 7 _ _ _ hw hP hD hS (lv_sub hl [0] rfl)
              · have hw := hwf c_38
                obtain ⟨hwt, hwf⟩ := hw
                by_cases c_41 : r_1 = 62
                · have hw := hwt c_41
                  refine lv_lookup (off := 270) (tgt := 278) hx hb d_R_strengthOf_8 (by decide) (by rw [c_41]; decide) (by decide) ?_
                  refine lv_aload_n hx hb d_R_strengthOf_278 rfl (lv_at hl 1 rfl) ?_
                  refine va_ldcS hx hb hown (hX.1 _ rs_18) d_R_strengthOf_279 ?_
                  refine k_callVi (As := [.ref (sa 18)]) (rest := []) (fun (u : Unit) => []) ⟨hx, hb, hml, hown, hts⟩ (kc_QJS_equals l dC dI ad ck sa sv sf q0 18 (hw := hw)) (cwV 1 hts (gV ux_42 ux_44 ux_45 ux_5 ux_43) rfl rfl rfl hd_QJS_equals ⟨Nat.le_of_ble_eq_true rfl, Nat.le_of_ble_eq_true rfl⟩) hK hP hD hS hA (XR_c sa sv sf) hX [] [] [] rfl rfl (by decide) (by decide) (fun _ => rfl) (st_recv (hX.2.1 q0 hq0).1 hS) rfl hl.1 rfl (lv_room (Nat.le_of_ble_eq_true rfl)) d_R_strengthOf_281 ⟨Nat.zero_le _, Nat.zero_le _⟩ ?_
                  intro r_42 u H locs hw hP hD hS
                  have hP : va_P (dC, dI) vwCl ([]) H := hP
                  have hD : va_D A ([]) := hD
                  try dsimp only at hw
                  obtain ⟨hwt, hwf⟩ := hw
                  refine lv_if_eq (tgt := 425) hx hb d_R_strengthOf_284 (by decide) (fun c_43 => ?_) (fun c_43 => ?_)
                  · have hw := hwt c_43
                    exact L_425 (-1) _ _ _ hw hP hD hS (lv_sub hl [0] rfl)
                  · have hw := hwf c_43
                    refine lv_bipush (v := 8) hx hb d_R_strengthOf_287 (by decide) ?_
                    refine lv_istore_n (lv' := [(2, .int 8), (1, .ref (sa q0)), (0, .ref (sa q0))]) hx hb d_R_strengthOf_289 rfl hl (by decide) rfl (fun ls hl => ?_)
                    refine lv_goto (tgt := 425) hx hb d_R_strengthOf_290 (by decide) ?_
                    exact L_425 8 _ _ _ hw hP hD hS (lv_sub hl [0] rfl)
                · have hw := hwf c_41
                  obtain ⟨hwt, hwf⟩ := hw
                  by_cases c_44 : r_1 = 94
                  · have hw := hwt c_44
                    refine lv_lookup (off := 198) (tgt := 206) hx hb d_R_strengthOf_8 (by decide) (by rw [c_44]; decide) (by decide) ?_
                    refine lv_aload_n hx hb d_R_strengthOf_206 rfl (lv_at hl 1 rfl) ?_
                    refine va_ldcS hx hb hown (hX.1 _ rs_13) d_R_strengthOf_207 ?_
                    refine k_callVi (As := [.ref (sa 13)]) (rest := []) (fun (u : Unit) => []) ⟨hx, hb, hml, hown, hts⟩ (kc_QJS_equals l dC dI ad ck sa sv sf q0 13 (hw := hw)) (cwV 1 hts (gV ux_42 ux_44 ux_45 ux_5 ux_43) rfl rfl rfl hd_QJS_equals ⟨Nat.le_of_ble_eq_true rfl, Nat.le_of_ble_eq_true rfl⟩) hK hP hD hS hA (XR_c sa sv sf) hX [] [] [] rfl rfl (by decide) (by decide) (fun _ => rfl) (st_recv (hX.2.1 q0 hq0).1 hS) rfl hl.1 rfl (lv_room (Nat.le_of_ble_eq_true rfl)) d_R_strengthOf_209 ⟨Nat.zero_le _, Nat.zero_le _⟩ ?_
                    intro r_45 u H locs hw hP hD hS
                    have hP : va_P (dC, dI) vwCl ([]) H := hP
                    have hD : va_D A ([]) := hD
                    try dsimp only at hw
                    obtain ⟨hwt, hwf⟩ := hw
                    refine lv_if_eq (tgt := 425) hx hb d_R_strengthOf_212 (by decide) (fun c_46 => ?_) (fun c_46 => ?_)
                    · have hw := hwt c_46
                      exact L_425 (-1) _ _ _ hw hP hD hS (lv_sub hl [0] rfl)
                    · have hw := hwf c_46
                      refine lv_iconst (v := 3) hx hb d_R_strengthOf_215 (by decide) ?_
                      refine lv_istore_n (lv' := [(2, .int 3), (1, .ref (sa q0)), (0, .ref (sa q0))]) hx hb d_R_strengthOf_216 rfl hl (by decide) rfl (fun ls hl => ?_)
                      refine lv_goto (tgt := 425) hx hb d_R_strengthOf_217 (by decide) ?_
                      exact L_425 3 _ _ _ hw hP hD hS (lv_sub hl [0] rfl)
                  · have hw := hwf c_44
                    obtain ⟨hwt, hwf⟩ := hw
                    by_cases c_47 : r_1 = 124
                    · have hw := hwt c_47
                      refine lv_lookup (off := 184) (tgt := 192) hx hb d_R_strengthOf_8 (by decide) (by rw [c_47]; decide) (by decide) ?_
                      refine lv_aload_n hx hb d_R_strengthOf_192 rfl (lv_at hl 1 rfl) ?_
                      refine va_ldcS hx hb hown (hX.1 _ rs_12) d_R_strengthOf_193 ?_
                      refine k_callVi (As := [.ref (sa 12)]) (rest := []) (fun (u : Unit) => []) ⟨hx, hb, hml, hown, hts⟩ (kc_QJS_equals l dC dI ad ck sa sv sf q0 12 (hw := hw)) (cwV 1 hts (gV ux_42 ux_44 ux_45 ux_5 ux_43) rfl rfl rfl hd_QJS_equals ⟨Nat.le_of_ble_eq_true rfl, Nat.le_of_ble_eq_true rfl⟩) hK hP hD hS hA (XR_c sa sv sf) hX [] [] [] rfl rfl (by decide) (by decide) (fun _ => rfl) (st_recv (hX.2.1 q0 hq0).1 hS) rfl hl.1 rfl (lv_room (Nat.le_of_ble_eq_true rfl)) d_R_strengthOf_195 ⟨Nat.zero_le _, Nat.zero_le _⟩ ?_
                      intro r_48 u H locs hw hP hD hS
                      have hP : va_P (dC, dI) vwCl ([]) H := hP
                      have hD : va_D A ([]) := hD
                      try dsimp only at hw
                      obtain ⟨hwt, hwf⟩ := hw
                      refine lv_if_eq (tgt := 425) hx hb d_R_strengthOf_198 (by decide) (fun c_49 => ?_) (fun c_49 => ?_)
                      · have hw := hwt c_49
                        exact L_425 (-1) _ _ _ hw hP hD hS (lv_sub hl [0] rfl)
                      · have hw := hwf c_49
                        refine lv_iconst (v := 2) hx hb d_R_strengthOf_201 (by decide) ?_
                        refine lv_istore_n (lv' := [(2, .int 2), (1, .ref (sa q0)), (0, .ref (sa q0))]) hx hb d_R_strengthOf_202 rfl hl (by decide) rfl (fun ls hl => ?_)
                        refine lv_goto (tgt := 425) hx hb d_R_strengthOf_203 (by decide) ?_
                        exact L_425 2 _ _ _ hw hP hD hS (lv_sub hl [0] rfl)
                    · have hw := hwf c_47
                      obtain ⟨hwt, hwf⟩ := hw
                      by_cases c_50 : r_1 = 1084
                      · have hw := hwt c_50
                        refine lv_lookup (off := 240) (tgt := 248) hx hb d_R_strengthOf_8 (by decide) (by rw [c_50]; decide) (by decide) ?_
                        refine lv_aload_n hx hb d_R_strengthOf_248 rfl (lv_at hl 1 rfl) ?_
                        refine va_ldcS hx hb hown (hX.1 _ rs_16) d_R_strengthOf_249 ?_
                        refine k_callVi (As := [.ref (sa 16)]) (rest := []) (fun (u : Unit) => []) ⟨hx, hb, hml, hown, hts⟩ (kc_QJS_equals l dC dI ad ck sa sv sf q0 16 (hw := hw)) (cwV 1 hts (gV ux_42 ux_44 ux_45 ux_5 ux_43) rfl rfl rfl hd_QJS_equals ⟨Nat.le_of_ble_eq_true rfl, Nat.le_of_ble_eq_true rfl⟩) hK hP hD hS hA (XR_c sa sv sf) hX [] [] [] rfl rfl (by decide) (by decide) (fun _ => rfl) (st_recv (hX.2.1 q0 hq0).1 hS) rfl hl.1 rfl (lv_room (Nat.le_of_ble_eq_true rfl)) d_R_strengthOf_251 ⟨Nat.zero_le _, Nat.zero_le _⟩ ?_
                        intro r_51 u H locs hw hP hD hS
                        have hP : va_P (dC, dI) vwCl ([]) H := hP
                        have hD : va_D A ([]) := hD
                        try dsimp only at hw
                        obtain ⟨hwt, hwf⟩ := hw
                        refine lv_if_eq (tgt := 425) hx hb d_R_strengthOf_254 (by decide) (fun c_52 => ?_) (fun c_52 => ?_)
                        · have hw := hwt c_52
                          exact L_425 (-1) _ _ _ hw hP hD hS (lv_sub hl [0] rfl)
                        · have hw := hwf c_52
                          refine lv_bipush (v := 6) hx hb d_R_strengthOf_257 (by decide) ?_
                          refine lv_istore_n (lv' := [(2, .int 6), (1, .ref (sa q0)), (0, .ref (sa q0))]) hx hb d_R_strengthOf_259 rfl hl (by decide) rfl (fun ls hl => ?_)
                          refine lv_goto (tgt := 425) hx hb d_R_strengthOf_260 (by decide) ?_
                          exact L_425 6 _ _ _ hw hP hD hS (lv_sub hl [0] rfl)
                      · have hw := hwf c_50
                        obtain ⟨hwt, hwf⟩ := hw
                        by_cases c_53 : r_1 = 1216
                        · have hw := hwt c_53
                          refine lv_lookup (off := 170) (tgt := 178) hx hb d_R_strengthOf_8 (by decide) (by rw [c_53]; decide) (by decide) ?_
                          refine lv_aload_n hx hb d_R_strengthOf_178 rfl (lv_at hl 1 rfl) ?_
                          refine va_ldcS hx hb hown (hX.1 _ rs_11) d_R_strengthOf_179 ?_
                          refine k_callVi (As := [.ref (sa 11)]) (rest := []) (fun (u : Unit) => []) ⟨hx, hb, hml, hown, hts⟩ (kc_QJS_equals l dC dI ad ck sa sv sf q0 11 (hw := hw)) (cwV 1 hts (gV ux_42 ux_44 ux_45 ux_5 ux_43) rfl rfl rfl hd_QJS_equals ⟨Nat.le_of_ble_eq_true rfl, Nat.le_of_ble_eq_true rfl⟩) hK hP hD hS hA (XR_c sa sv sf) hX [] [] [] rfl rfl (by decide) (by decide) (fun _ => rfl) (st_recv (hX.2.1 q0 hq0).1 hS) rfl hl.1 rfl (lv_room (Nat.le_of_ble_eq_true rfl)) d_R_strengthOf_181 ⟨Nat.zero_le _, Nat.zero_le _⟩ ?_
                          intro r_54 u H locs hw hP hD hS
                          have hP : va_P (dC, dI) vwCl ([]) H := hP
                          have hD : va_D A ([]) := hD
                          try dsimp only at hw
                          obtain ⟨hwt, hwf⟩ := hw
                          refine lv_if_eq (tgt := 425) hx hb d_R_strengthOf_184 (by decide) (fun c_55 => ?_) (fun c_55 => ?_)
                          · have hw := hwt c_55
                            exact L_425 (-1) _ _ _ hw hP hD hS (lv_sub hl [0] rfl)
                          · have hw := hwf c_55
                            refine lv_iconst (v := 1) hx hb d_R_strengthOf_187 (by decide) ?_
                            refine lv_istore_n (lv' := [(2, .int 1), (1, .ref (sa q0)), (0, .ref (sa q0))]) hx hb d_R_strengthOf_188 rfl hl (by decide) rfl (fun ls hl => ?_)
                            refine lv_goto (tgt := 425) hx hb d_R_strengthOf_189 (by decide) ?_
                            exact L_425 1 _ _ _ hw hP hD hS (lv_sub hl [0] rfl)
                        · have hw := hwf c_53
                          obtain ⟨hwt, hwf⟩ := hw
                          by_cases c_56 : r_1 = 1920
                          · have hw := hwt c_56
                            refine lv_lookup (off := 315) (tgt := 323) hx hb d_R_strengthOf_8 (by decide) (by rw [c_56]; decide) (by decide) ?_
                            refine lv_aload_n hx hb d_R_strengthOf_323 rfl (lv_at hl 1 rfl) ?_
                            refine va_ldcS hx hb hown (hX.1 _ rs_21) d_R_strengthOf_324 ?_
                            refine k_callVi (As := [.ref (sa 21)]) (rest := []) (fun (u : Unit) => []) ⟨hx, hb, hml, hown, hts⟩ (kc_QJS_equals l dC dI ad ck sa sv sf q0 21 (hw := hw)) (cwV 1 hts (gV ux_42 ux_44 ux_45 ux_5 ux_43) rfl rfl rfl hd_QJS_equals ⟨Nat.le_of_ble_eq_true rfl, Nat.le_of_ble_eq_true rfl⟩) hK hP hD hS hA (XR_c sa sv sf) hX [] [] [] rfl rfl (by decide) (by decide) (fun _ => rfl) (st_recv (hX.2.1 q0 hq0).1 hS) rfl hl.1 rfl (lv_room (Nat.le_of_ble_eq_true rfl)) d_R_strengthOf_326 ⟨Nat.zero_le _, Nat.zero_le _⟩ ?_
                            intro r_57 u H locs hw hP hD hS
                            have hP : va_P (dC, dI) vwCl ([]) H := hP
                            have hD : va_D A ([]) := hD
                            try dsimp only at hw
                            obtain ⟨hwt, hwf⟩ := hw
                            refine lv_if_eq (tgt := 425) hx hb d_R_strengthOf_329 (by decide) (fun c_58 => ?_) (fun c_58 => ?_)
                            · have hw := hwt c_58
                              exact L_425 (-1) _ _ _ hw hP hD hS (lv_sub hl [0] rfl)
                            · have hw := hwf c_58
                              refine lv_bipush (v := 11) hx hb d_R_strengthOf_332 (by decide) ?_
                              refine lv_istore_n (lv' := [(2, .int 11), (1, .ref (sa q0)), (0, .ref (sa q0))]) hx hb d_R_strengthOf_334 rfl hl (by decide) rfl (fun ls hl => ?_)
                              refine lv_goto (tgt := 425) hx hb d_R_strengthOf_335 (by decide) ?_
                              exact L_425 11 _ _ _ hw hP hD hS (lv_sub hl [0] rfl)
                          · have hw := hwf c_56
                            obtain ⟨hwt, hwf⟩ := hw
                            by_cases c_59 : r_1 = 1921
                            · have hw := hwt c_59
                              refine lv_lookup (off := 285) (tgt := 293) hx hb d_R_strengthOf_8 (by decide) (by rw [c_59]; decide) (by decide) ?_
                              refine lv_aload_n hx hb d_R_strengthOf_293 rfl (lv_at hl 1 rfl) ?_
                              refine va_ldcS hx hb hown (hX.1 _ rs_19) d_R_strengthOf_294 ?_
                              refine k_callVi (As := [.ref (sa 19)]) (rest := []) (fun (u : Unit) => []) ⟨hx, hb, hml, hown, hts⟩ (kc_QJS_equals l dC dI ad ck sa sv sf q0 19 (hw := hw)) (cwV 1 hts (gV ux_42 ux_44 ux_45 ux_5 ux_43) rfl rfl rfl hd_QJS_equals ⟨Nat.le_of_ble_eq_true rfl, Nat.le_of_ble_eq_true rfl⟩) hK hP hD hS hA (XR_c sa sv sf) hX [] [] [] rfl rfl (by decide) (by decide) (fun _ => rfl) (st_recv (hX.2.1 q0 hq0).1 hS) rfl hl.1 rfl (lv_room (Nat.le_of_ble_eq_true rfl)) d_R_strengthOf_296 ⟨Nat.zero_le _, Nat.zero_le _⟩ ?_
                              intro r_60 u H locs hw hP hD hS
                              have hP : va_P (dC, dI) vwCl ([]) H := hP
                              have hD : va_D A ([]) := hD
                              try dsimp only at hw
                              obtain ⟨hwt, hwf⟩ := hw
                              refine lv_if_eq (tgt := 425) hx hb d_R_strengthOf_299 (by decide) (fun c_61 => ?_) (fun c_61 => ?_)
                              · have hw := hwt c_61
                                exact L_425 (-1) _ _ _ hw hP hD hS (lv_sub hl [0] rfl)
                              · have hw := hwf c_61
                                refine lv_bipush (v := 9) hx hb d_R_strengthOf_302 (by decide) ?_
                                refine lv_istore_n (lv' := [(2, .int 9), (1, .ref (sa q0)), (0, .ref (sa q0))]) hx hb d_R_strengthOf_304 rfl hl (by decide) rfl (fun ls hl => ?_)
                                refine lv_goto (tgt := 425) hx hb d_R_strengthOf_305 (by decide) ?_
                                exact L_425 9 _ _ _ hw hP hD hS (lv_sub hl [0] rfl)
                            · have hw := hwf c_59
                              obtain ⟨hwt, hwf⟩ := hw
                              by_cases c_62 : r_1 = 1952
                              · have hw := hwt c_62
                                refine lv_lookup (off := 226) (tgt := 234) hx hb d_R_strengthOf_8 (by decide) (by rw [c_62]; decide) (by decide) ?_
                                refine lv_aload_n hx hb d_R_strengthOf_234 rfl (lv_at hl 1 rfl) ?_
                                refine va_ldcS hx hb hown (hX.1 _ rs_15) d_R_strengthOf_235 ?_
                                refine k_callVi (As := [.ref (sa 15)]) (rest := []) (fun (u : Unit) => []) ⟨hx, hb, hml, hown, hts⟩ (kc_QJS_equals l dC dI ad ck sa sv sf q0 15 (hw := hw)) (cwV 1 hts (gV ux_42 ux_44 ux_45 ux_5 ux_43) rfl rfl rfl hd_QJS_equals ⟨Nat.le_of_ble_eq_true rfl, Nat.le_of_ble_eq_true rfl⟩) hK hP hD hS hA (XR_c sa sv sf) hX [] [] [] rfl rfl (by decide) (by decide) (fun _ => rfl) (st_recv (hX.2.1 q0 hq0).1 hS) rfl hl.1 rfl (lv_room (Nat.le_of_ble_eq_true rfl)) d_R_strengthOf_237 ⟨Nat.zero_le _, Nat.zero_le _⟩ ?_
                                intro r_63 u H locs hw hP hD hS
                                have hP : va_P (dC, dI) vwCl ([]) H := hP
                                have hD : va_D A ([]) := hD
                                try dsimp only at hw
                                obtain ⟨hwt, hwf⟩ := hw
                                refine lv_if_eq (tgt := 425) hx hb d_R_strengthOf_240 (by decide) (fun c_64 => ?_) (fun c_64 => ?_)
                                · have hw := hwt c_64
                                  exact L_425 (-1) _ _ _ hw hP hD hS (lv_sub hl [0] rfl)
                                · have hw := hwf c_64
                                  refine lv_iconst (v := 5) hx hb d_R_strengthOf_243 (by decide) ?_
                                  refine lv_istore_n (lv' := [(2, .int 5), (1, .ref (sa q0)), (0, .ref (sa q0))]) hx hb d_R_strengthOf_244 rfl hl (by decide) rfl (fun ls hl => ?_)
                                  refine lv_goto (tgt := 425) hx hb d_R_strengthOf_245 (by decide) ?_
                                  exact L_425 5 _ _ _ hw hP hD hS (lv_sub hl [0] rfl)
                              · have hw := hwf c_62
                                obtain ⟨hwt, hwf⟩ := hw
                                by_cases c_65 : r_1 = 1983
                                · have hw := hwt c_65
                                  refine lv_lookup (off := 300) (tgt := 308) hx hb d_R_strengthOf_8 (by decide) (by rw [c_65]; decide) (by decide) ?_
                                  refine lv_aload_n hx hb d_R_strengthOf_308 rfl (lv_at hl 1 rfl) ?_
                                  refine va_ldcS hx hb hown (hX.1 _ rs_20) d_R_strengthOf_309 ?_
                                  refine k_callVi (As := [.ref (sa 20)]) (rest := []) (fun (u : Unit) => []) ⟨hx, hb, hml, hown, hts⟩ (kc_QJS_equals l dC dI ad ck sa sv sf q0 20 (hw := hw)) (cwV 1 hts (gV ux_42 ux_44 ux_45 ux_5 ux_43) rfl rfl rfl hd_QJS_equals ⟨Nat.le_of_ble_eq_true rfl, Nat.le_of_ble_eq_true rfl⟩) hK hP hD hS hA (XR_c sa sv sf) hX [] [] [] rfl rfl (by decide) (by decide) (fun _ => rfl) (st_recv (hX.2.1 q0 hq0).1 hS) rfl hl.1 rfl (lv_room (Nat.le_of_ble_eq_true rfl)) d_R_strengthOf_311 ⟨Nat.zero_le _, Nat.zero_le _⟩ ?_
                                  intro r_66 u H locs hw hP hD hS
                                  have hP : va_P (dC, dI) vwCl ([]) H := hP
                                  have hD : va_D A ([]) := hD
                                  try dsimp only at hw
                                  obtain ⟨hwt, hwf⟩ := hw
                                  refine lv_if_eq (tgt := 425) hx hb d_R_strengthOf_314 (by decide) (fun c_67 => ?_) (fun c_67 => ?_)
                                  · have hw := hwt c_67
                                    exact L_425 (-1) _ _ _ hw hP hD hS (lv_sub hl [0] rfl)
                                  · have hw := hwf c_67
                                    refine lv_bipush (v := 10) hx hb d_R_strengthOf_317 (by decide) ?_
                                    refine lv_istore_n (lv' := [(2, .int 10), (1, .ref (sa q0)), (0, .ref (sa q0))]) hx hb d_R_strengthOf_319 rfl hl (by decide) rfl (fun ls hl => ?_)
                                    refine lv_goto (tgt := 425) hx hb d_R_strengthOf_320 (by decide) ?_
                                    exact L_425 10 _ _ _ hw hP hD hS (lv_sub hl [0] rfl)
                                · have hw := hwf c_65
                                  obtain ⟨hwt, hwf⟩ := hw
                                  by_cases c_68 : r_1 = 1984
                                  · have hw := hwt c_68
                                    refine lv_lookup (off := 330) (tgt := 338) hx hb d_R_strengthOf_8 (by decide) (by rw [c_68]; decide) (by decide) ?_
                                    refine lv_aload_n hx hb d_R_strengthOf_338 rfl (lv_at hl 1 rfl) ?_
                                    refine va_ldcS hx hb hown (hX.1 _ rs_22) d_R_strengthOf_339 ?_
                                    refine k_callVi (As := [.ref (sa 22)]) (rest := []) (fun (u : Unit) => []) ⟨hx, hb, hml, hown, hts⟩ (kc_QJS_equals l dC dI ad ck sa sv sf q0 22 (hw := hw)) (cwV 1 hts (gV ux_42 ux_44 ux_45 ux_5 ux_43) rfl rfl rfl hd_QJS_equals ⟨Nat.le_of_ble_eq_true rfl, Nat.le_of_ble_eq_true rfl⟩) hK hP hD hS hA (XR_c sa sv sf) hX [] [] [] rfl rfl (by decide) (by decide) (fun _ => rfl) (st_recv (hX.2.1 q0 hq0).1 hS) rfl hl.1 rfl (lv_room (Nat.le_of_ble_eq_true rfl)) d_R_strengthOf_341 ⟨Nat.zero_le _, Nat.zero_le _⟩ ?_
                                    intro r_69 u H locs hw hP hD hS
                                    have hP : va_P (dC, dI) vwCl ([]) H := hP
                                    have hD : va_D A ([]) := hD
                                    try dsimp only at hw
                                    obtain ⟨hwt, hwf⟩ := hw
                                    refine lv_if_eq (tgt := 425) hx hb d_R_strengthOf_344 (by decide) (fun c_70 => ?_) (fun c_70 => ?_)
                                    · have hw := hwt c_70
                                      exact L_425 (-1) _ _ _ hw hP hD hS (lv_sub hl [0] rfl)
                                    · have hw := hwf c_70
                                      refine lv_bipush (v := 12) hx hb d_R_strengthOf_347 (by decide) ?_
                                      refine lv_istore_n (lv' := [(2, .int 12), (1, .ref (sa q0)), (0, .ref (sa q0))]) hx hb d_R_strengthOf_349 rfl hl (by decide) rfl (fun ls hl => ?_)
                                      refine lv_goto (tgt := 425) hx hb d_R_strengthOf_350 (by decide) ?_
                                      exact L_425 12 _ _ _ hw hP hD hS (lv_sub hl [0] rfl)
                                  · have hw := hwf c_68
                                    obtain ⟨hwt, hwf⟩ := hw
                                    by_cases c_71 : r_1 = 3968
                                    · have hw := hwt c_71
                                      refine lv_lookup (off := 156) (tgt := 164) hx hb d_R_strengthOf_8 (by decide) (by rw [c_71]; decide) (by decide) ?_
                                      refine lv_aload_n hx hb d_R_strengthOf_164 rfl (lv_at hl 1 rfl) ?_
                                      refine va_ldcS hx hb hown (hX.1 _ rs_10) d_R_strengthOf_165 ?_
                                      refine k_callVi (As := [.ref (sa 10)]) (rest := []) (fun (u : Unit) => []) ⟨hx, hb, hml, hown, hts⟩ (kc_QJS_equals l dC dI ad ck sa sv sf q0 10 (hw := hw)) (cwV 1 hts (gV ux_42 ux_44 ux_45 ux_5 ux_43) rfl rfl rfl hd_QJS_equals ⟨Nat.le_of_ble_eq_true rfl, Nat.le_of_ble_eq_true rfl⟩) hK hP hD hS hA (XR_c sa sv sf) hX [] [] [] rfl rfl (by decide) (by decide) (fun _ => rfl) (st_recv (hX.2.1 q0 hq0).1 hS) rfl hl.1 rfl (lv_room (Nat.le_of_ble_eq_true rfl)) d_R_strengthOf_167 ⟨Nat.zero_le _, Nat.zero_le _⟩ ?_
                                      intro r_72 u H locs hw hP hD hS
                                      have hP : va_P (dC, dI) vwCl ([]) H := hP
                                      have hD : va_D A ([]) := hD
                                      try dsimp only at hw
                                      obtain ⟨hwt, hwf⟩ := hw
                                      refine lv_if_eq (tgt := 425) hx hb d_R_strengthOf_170 (by decide) (fun c_73 => ?_) (fun c_73 => ?_)
                                      · have hw := hwt c_73
                                        exact L_425 (-1) _ _ _ hw hP hD hS (lv_sub hl [0] rfl)
                                      · have hw := hwf c_73
                                        refine lv_iconst (v := 0) hx hb d_R_strengthOf_173 (by decide) ?_
                                        refine lv_istore_n (lv' := [(2, .int 0), (1, .ref (sa q0)), (0, .ref (sa q0))]) hx hb d_R_strengthOf_174 rfl hl (by decide) rfl (fun ls hl => ?_)
                                        refine lv_goto (tgt := 425) hx hb d_R_strengthOf_175 (by decide) ?_
                                        exact L_425 0 _ _ _ hw hP hD hS (lv_sub hl [0] rfl)
                                    · have hw := hwf c_71
                                      refine lv_lookup (off := 417) (tgt := 425) hx hb d_R_strengthOf_8 (by decide) (by show Op.lookupswitch.offset _ _ _ = _; rw [lv_osw c_2 (show (37 : Int32).toInt = 37 from rfl), lv_osw c_23 (show (38 : Int32).toInt = 38 from rfl), lv_osw c_26 (show (42 : Int32).toInt = 42 from rfl), lv_osw c_29 (show (43 : Int32).toInt = 43 from rfl), lv_osw c_32 (show (45 : Int32).toInt = 45 from rfl), lv_osw c_35 (show (47 : Int32).toInt = 47 from rfl), lv_osw c_38 (show (60 : Int32).toInt = 60 from rfl), lv_osw c_41 (show (62 : Int32).toInt = 62 from rfl), lv_osw c_44 (show (94 : Int32).toInt = 94 from rfl), lv_osw c_47 (show (124 : Int32).toInt = 124 from rfl), lv_osw c_50 (show (1084 : Int32).toInt = 1084 from rfl), lv_osw c_53 (show (1216 : Int32).toInt = 1216 from rfl), lv_osw c_56 (show (1920 : Int32).toInt = 1920 from rfl), lv_osw c_59 (show (1921 : Int32).toInt = 1921 from rfl), lv_osw c_62 (show (1952 : Int32).toInt = 1952 from rfl), lv_osw c_65 (show (1983 : Int32).toInt = 1983 from rfl), lv_osw c_68 (show (1984 : Int32).toInt = 1984 from rfl), lv_osw c_71 (show (3968 : Int32).toInt = 3968 from rfl)]; rfl) (by decide) ?_
                                      exact L_425 (-1) _ _ _ hw hP hD hS (lv_sub hl [0] rfl)
