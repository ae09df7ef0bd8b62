abbrev wd_T_at (ad : Nat → Nat) (ck : Nat → ClassId) (size : Int32) (row : Nat → Int32) : va_W := [(ad 1, .inr (2, [.ref (ad 2), .int size])), (ad 2, .inl (ck 0, 4096, .inl row))]
def wp_T_at (post : Int32 → Prop) (size : Int32) (row : Nat → Int32) (p0 : Int32) : Prop := (p0 < 0 → (post (-1))) ∧ (¬ p0 < 0 → ((size ≤ p0 → (post (-1))) ∧ (¬ size ≤ p0 → ((p0 < 4096 → (vp_in p0 4096 ∧ (post ((row p0.toNatClampNeg) &&& 255)))) ∧ (¬ p0 < 4096 → (post (-1)))))))
set_option maxHeartbeats 4000000 in
set_option maxRecDepth 100000 in
theorem kc_T_at (l : Launch) (dC : Nat → ClassId) (dI : Nat → Nat → Nat) (ad : Nat → Nat) (ck : Nat → ClassId) (size : Int32) (row : Nat → Int32) (p0 : Int32) {post : Int32 → Prop} (hw : wp_T_at post size row p0) : k_Ci l y_T_at ws_T_at ({ frames := 0, cells := 0, slots := 0, locals := 0 } : Room) (dC, dI) vwCl (TYm ck) k_x0 [.ref (ad 1), .int p0] (wd_T_at ad ck size row) (fun (r : Int32) (u : Unit) => post r ) (fun (u : Unit) => wd_T_at ad ck size row) := by
  intro sz
  refine Met.ofW (cc := c_T_at) (maxL := 2) (ret := (some .int)) (by decide) rfl ?_
  intro p e s m args below meth c s₁ B hml hv
  obtain ⟨rfl, hsz, hP, hK, hD0, hX⟩ := hv
  have hx := B.exec
  have hb := B.bytes
  have hr := B.returns
  have hts : ∀ w ∈ TB, w.before _ s = true := fun w h => atoms_spec (ws := ws_T_at) B.pre w (List.mem_cons_of_mem _ h)
  have hown : s.vm.findClass R_T = some m.cls := findClass_of_methodNamed B.named
  have hlocks := B.notSynchronized
  subst hsz
  have hD := hD0.self (sz := s.heap.size)
  generalize hAe : va_A (wd_T_at ad ck size row) s.heap.size = A at hD hX ⊢
  have hA : ∀ q : Nat, s.heap.size ≤ q → A q := fun q h => by rw [← hAe]; exact Or.inr h
  have hS : va_S A s.heap s.heap [] := va_S.rf
  have hP : va_P (dC, dI) vwCl (wd_T_at ad ck size row) s.heap := hP
  have hl := lv_entry ([.ref (ad 1), .int p0]) (n := 2) (Nat.le_of_ble_eq_true rfl)
  rw [lg_entry_eq]
  generalize (lg_sl ([.ref (ad 1), .int p0]) ++ List.replicate (2 - (lg_sl ([.ref (ad 1), .int p0])).length) Slot.unset).toArray = ls at hl ⊢
  have hl : lv_has ls 2 [(0, .ref (ad 1)), (1, .int p0)] := hl
  refine lv_iload_n hx hb d_T_at_0 rfl (lv_at hl 1 rfl) ?_
  obtain ⟨hwt, hwf⟩ := hw
  refine lv_if_lt (tgt := 19) hx hb d_T_at_1 (by decide) (fun c_1 => ?_) (fun c_1 => ?_)
  · have hw := hwt c_1
    refine lv_iconst (v := (-1)) hx hb d_T_at_19 (by decide) ?_
    refine lv_goto (tgt := 33) hx hb d_T_at_20 (by decide) ?_
    exact W.iret (v := (-1)) hx hb hr (fun t ht hW => ⟨⟨(-1), (), rfl, hw, by rw [ht]; exact hP, va_K.moved hW.alike hK, hD⟩, hS.F ht⟩) hS.2.2 d_T_at_33
  · have hw := hwf c_1
    refine lv_iload_n hx hb d_T_at_4 rfl (lv_at hl 1 rfl) ?_
    refine lv_aload_n hx hb d_T_at_5 rfl (lv_at hl 0 rfl) ?_
    refine va_get (D := (dC, dI)) (ci := 2) (v := .int size) (C := R_T) (T := T_T) (N := 2) hx hb hts in_T hown hK hP 0 rfl rfl 1 (by decide) (hts _ tw_0) (fun _ h9 => h9) rfl d_T_at_6 ?_
    obtain ⟨hwt, hwf⟩ := hw
    refine lv_icmp_ge (tgt := 19) hx hb d_T_at_9 (by decide) (fun c_2 => ?_) (fun c_2 => ?_)
    · have hw := hwt c_2
      refine lv_iconst (v := (-1)) hx hb d_T_at_19 (by decide) ?_
      refine lv_goto (tgt := 33) hx hb d_T_at_20 (by decide) ?_
      exact W.iret (v := (-1)) hx hb hr (fun t ht hW => ⟨⟨(-1), (), rfl, hw, by rw [ht]; exact hP, va_K.moved hW.alike hK, hD⟩, hS.F ht⟩) hS.2.2 d_T_at_33
    · have hw := hwf c_2
      refine lv_iload_n hx hb d_T_at_12 rfl (lv_at hl 1 rfl) ?_
      refine lv_sipush (v := 4096) hx hb d_T_at_13 (by decide) ?_
      obtain ⟨hwt, hwf⟩ := hw
      refine lv_icmp_lt (tgt := 23) hx hb d_T_at_16 (by decide) (fun c_3 => ?_) (fun c_3 => ?_)
      · have hw := hwt c_3
        refine lv_aload_n hx hb d_T_at_23 rfl (lv_at hl 0 rfl) ?_
        refine va_get (D := (dC, dI)) (ci := 2) (v := .ref (ad 2)) (C := R_T) (T := T_T) (N := 2) hx hb hts in_T hown hK hP 0 rfl rfl 0 (by decide) (hts _ tw_1) (fun _ h9 => h9) rfl d_T_at_24 ?_
        refine lv_iload_n hx hb d_T_at_27 rfl (lv_at hl 1 rfl) ?_
        obtain ⟨hi_4, hw⟩ := hw
        refine va_bald hx hb hK hP 1 0 rfl rfl hi_4 d_T_at_28 ?_
        refine lv_sipush (v := 255) hx hb d_T_at_29 (by decide) ?_
        refine lv_iand hx hb d_T_at_32 ?_
        exact W.iret (v := ((row p0.toNatClampNeg) &&& 255)) hx hb hr (fun t ht hW => ⟨⟨((row p0.toNatClampNeg) &&& 255), (), rfl, hw, by rw [ht]; exact hP, va_K.moved hW.alike hK, hD⟩, hS.F ht⟩) hS.2.2 d_T_at_33
      · have hw := hwf c_3
        refine lv_iconst (v := (-1)) hx hb d_T_at_19 (by decide) ?_
        refine lv_goto (tgt := 33) hx hb d_T_at_20 (by decide) ?_
        exact W.iret (v := (-1)) hx hb hr (fun t ht hW => ⟨⟨(-1), (), rfl, hw, by rw [ht]; exact hP, va_K.moved hW.alike hK, hD⟩, hS.F ht⟩) hS.2.2 d_T_at_33

abbrev wd_T_append (ad : Nat → Nat) (ck : Nat → ClassId) (size : Int32) (row : Nat → Int32) : va_W := [(ad 1, .inr (2, [.ref (ad 2), .int size])), (ad 2, .inl (ck 0, 4096, .inl row))]
def w_T_append_3 (post : Int32 → (Nat → Int32) → Prop) (x1 : Int64) (x3 : Int32) : Nat → Int32 → Int32 → (Nat → Int32) → Prop
  | 0 => fun _ _ _ => False
  | n + 1 => fun x4 size row => (x3 ≤ x4 → (post size row)) ∧ (¬ x3 ≤ x4 → ((4096 ≤ size → (post size row)) ∧ (¬ 4096 ≤ size → (vp_in size 4096 ∧ (∀ row_4 : Nat → Int32, row_4 = upd row size.toNatClampNeg (vp_nar .byte ((((x1.toUInt64 >>> ((8 * x4).toInt64.toUInt64 &&& Int64.toUInt64 63)).toInt64).toInt32).toInt8.toInt32)) → (∀ size_5 : Int32, size_5 = (size + 1) → (∀ x4_6 : Int32, x4_6 = x4 + 1 → (w_T_append_3 post x1 x3 n x4_6 size_5 row_4))))))))
def wp_T_append (post : Int32 → (Nat → Int32) → Prop) (size : Int32) (row : Nat → Int32) (p0 : Int64) (p1 : Int32) : Prop := ∃ fu3 : Nat, w_T_append_3 post p0 p1 fu3 0 size row
set_option maxHeartbeats 4000000 in
set_option maxRecDepth 100000 in
theorem kc_T_append (l : Launch) (dC : Nat → ClassId) (dI : Nat → Nat → Nat) (ad : Nat → Nat) (ck : Nat → ClassId) (size : Int32) (row : Nat → Int32) (p0 : Int64) (p1 : Int32) {post : Int32 → (Nat → Int32) → Prop} (hw : wp_T_append post size row p0 p1) : k_Cv l y_T_append ws_T_append ({ frames := 0, cells := 0, slots := 0, locals := 0 } : Room) (dC, dI) vwCl (TYm ck) k_x0 [.ref (ad 1), .long p0, .int p1] (wd_T_append ad ck size row) (fun (u : Int32 × (Nat → Int32)) => post u.1 u.2) (fun (u : Int32 × (Nat → Int32)) => wd_T_append ad ck u.1 u.2) := by
  intro sz
  refine Met.ofW (cc := c_T_append) (maxL := 5) (ret := none) (by decide) rfl ?_
  intro p e s m args below meth c s₁ B hml hv
  obtain ⟨rfl, hsz, hP, hK, hD0, hX⟩ := hv
  have hx := B.exec
  have hb := B.bytes
  have hr := B.returns
  have hts : ∀ w ∈ TB, w.before _ s = true := fun w h => atoms_spec (ws := ws_T_append) B.pre w (List.mem_cons_of_mem _ h)
  have hown : s.vm.findClass R_T = some m.cls := findClass_of_methodNamed B.named
  have hlocks := B.notSynchronized
  subst hsz
  have hD := hD0.self (sz := s.heap.size)
  generalize hAe : va_A (wd_T_append ad ck size row) s.heap.size = A at hD hX ⊢
  have hA : ∀ q : Nat, s.heap.size ≤ q → A q := fun q h => by rw [← hAe]; exact Or.inr h
  have hS : va_S A s.heap s.heap [] := va_S.rf
  have hP : va_P (dC, dI) vwCl (wd_T_append ad ck size row) s.heap := hP
  have hl := lv_entry ([.ref (ad 1), .long p0, .int p1]) (n := 5) (Nat.le_of_ble_eq_true rfl)
  rw [lg_entry_eq]
  generalize (lg_sl ([.ref (ad 1), .long p0, .int p1]) ++ List.replicate (5 - (lg_sl ([.ref (ad 1), .long p0, .int p1])).length) Slot.unset).toArray = ls at hl ⊢
  have hl : lv_has ls 5 [(0, .ref (ad 1)), (1, .long p0), (3, .int p1)] := hl
  have L_3 : ∀ (x1 : Int64) (x3 : Int32) (n : Nat) (x4 : Int32) (size : Int32) (row : Nat → Int32) (H : Heap) (locs : List Loc) (ls : Array Slot), w_T_append_3 post x1 x3 n x4 size row → va_P (dC, dI) vwCl (wd_T_append ad ck size row) H → va_D A (wd_T_append ad ck size row) → va_S A s.heap H locs → lv_has ls 5 [(0, .ref (ad 1)), (1, .long x1), (3, .int x3), (4, .int x4)] → W p l e (headSpec ws_T_append ({ frames := 0, cells := 0, slots := 0, locals := 0 } : Room)).room s m ([.ref (ad 1), .long p0, .int p1] : List Value).toArray below meth c H locs 0 0 (k_Qv below (dC, dI) vwCl (TYm ck) A (fun (u : Int32 × (Nat → Int32)) => post u.1 u.2) (fun (u : Int32 × (Nat → Int32)) => wd_T_append ad ck u.1 u.2) ([.ref (ad 1), .long p0, .int p1] : List Value).toArray s) (F0 m 3 ls []) := by
    intro x1 x3 n
    induction n with
    | zero =>
      intro x4 size row H locs ls hw
      exact False.elim hw
    | succ n ih =>
      intro x4 size row H locs ls hw hP hD hS hl
      refine lv_iload hx hb d_T_append_3 (lv_at hl 3 rfl) ?_
      refine lv_iload_n hx hb d_T_append_5 rfl (lv_at hl 2 rfl) ?_
      obtain ⟨hwt, hwf⟩ := hw
      refine lv_icmp_ge (tgt := 53) hx hb d_T_append_6 (by decide) (fun c_1 => ?_) (fun c_1 => ?_)
      · have hw := hwt c_1
        exact W.vret hx hb hr (fun t ht hW => ⟨⟨(size, row), rfl, hw, by rw [ht]; exact hP, va_K.moved hW.alike hK, hD⟩, hS.F ht⟩) hS.2.2 d_T_append_53
      · have hw := hwf c_1
        refine lv_aload_n hx hb d_T_append_9 rfl (lv_at hl 0 rfl) ?_
        refine va_get (D := (dC, dI)) (ci := 2) (v := .int size) (C := R_T) (T := T_T) (N := 2) hx hb hts in_T hown hK hP 0 rfl rfl 1 (by decide) (hts _ tw_0) (fun _ h9 => h9) rfl d_T_append_10 ?_
        refine lv_sipush (v := 4096) hx hb d_T_append_13 (by decide) ?_
        obtain ⟨hwt, hwf⟩ := hw
        refine lv_icmp_ge (tgt := 53) hx hb d_T_append_16 (by decide) (fun c_2 => ?_) (fun c_2 => ?_)
        · have hw := hwt c_2
          exact W.vret hx hb hr (fun t ht hW => ⟨⟨(size, row), rfl, hw, by rw [ht]; exact hP, va_K.moved hW.alike hK, hD⟩, hS.F ht⟩) hS.2.2 d_T_append_53
        · have hw := hwf c_2
          refine lv_aload_n hx hb d_T_append_19 rfl (lv_at hl 0 rfl) ?_
          refine va_get (D := (dC, dI)) (ci := 2) (v := .ref (ad 2)) (C := R_T) (T := T_T) (N := 2) hx hb hts in_T hown hK hP 0 rfl rfl 0 (by decide) (hts _ tw_1) (fun _ h9 => h9) rfl d_T_append_20 ?_
          refine lv_aload_n hx hb d_T_append_23 rfl (lv_at hl 0 rfl) ?_
          refine va_get (D := (dC, dI)) (ci := 2) (v := .int size) (C := R_T) (T := T_T) (N := 2) hx hb hts in_T hown hK hP 0 rfl rfl 1 (by decide) (hts _ tw_0) (fun _ h9 => h9) rfl d_T_append_24 ?_
          refine lv_lload_n hx hb d_T_append_27 rfl (lv_at hl 1 rfl) ?_
          refine lv_bipush (v := 8) hx hb d_T_append_28 (by decide) ?_
          refine lv_iload hx hb d_T_append_30 (lv_at hl 3 rfl) ?_
          refine lv_imul hx hb d_T_append_32 ?_
          refine lv_lushr (v := (x1.toUInt64 >>> ((8 * x4).toInt64.toUInt64 &&& Int64.toUInt64 63)).toInt64) hx hb d_T_append_33 rfl ?_
          refine lv_l2i (v := ((x1.toUInt64 >>> ((8 * x4).toInt64.toUInt64 &&& Int64.toUInt64 63)).toInt64).toInt32) hx hb d_T_append_34 rfl ?_
          refine lv_i2b (v := (((x1.toUInt64 >>> ((8 * x4).toInt64.toUInt64 &&& Int64.toUInt64 63)).toInt64).toInt32).toInt8.toInt32) hx hb d_T_append_35 rfl ?_
          obtain ⟨hi_3, hw⟩ := hw
          refine va_bast hx hb hK hP hD hS 1 0 rfl rfl hi_3 d_T_append_36 (fun H locs hP hD hS => ?_)
          obtain ⟨row_4, erow_4⟩ : ∃ z : Nat → Int32, z = upd row size.toNatClampNeg (vp_nar .byte ((((x1.toUInt64 >>> ((8 * x4).toInt64.toUInt64 &&& Int64.toUInt64 63)).toInt64).toInt32).toInt8.toInt32)) := ⟨_, rfl⟩
          have hw := hw row_4 erow_4
          have hP : va_P (dC, dI) vwCl (wd_T_append ad ck size row_4) H := by rw [erow_4]; exact hP
          have hD : va_D A (wd_T_append ad ck size row_4) := by rw [erow_4]; exact hD
          refine lv_aload_n hx hb d_T_append_37 rfl (lv_at hl 0 rfl) ?_
          refine lv_dup hx hb d_T_append_38 rfl ?_
          refine va_get (D := (dC, dI)) (ci := 2) (v := .int size) (C := R_T) (T := T_T) (N := 2) hx hb hts in_T hown hK hP 0 rfl rfl 1 (by decide) (hts _ tw_0) (fun _ h9 => h9) rfl d_T_append_39 ?_
          refine lv_iconst (v := 1) hx hb d_T_append_42 (by decide) ?_
          refine lv_iadd hx hb d_T_append_43 ?_
          refine lv_topi (fun size_5 esize_5 => ?_)
          have hw := hw size_5 esize_5
          refine va_put (D := (dC, dI)) (ci := 2) (v := .int size_5) (ty := .int) (C := R_T) (T := T_T) (N := 2) hx hb hts in_T ty_T ty_T_ok nm_T hown hK hP hD hS 0 rfl rfl 1 (by decide) (hts _ tw_0) (fun _ h9 => h9) rfl (by decide +kernel) rfl rfl (Nat.le_of_ble_eq_true rfl) d_T_append_44 (fun H locs hP hD hS => ?_)
          have hP : va_P (dC, dI) vwCl (wd_T_append ad ck size_5 row_4) H := hP
          have hD : va_D A (wd_T_append ad ck size_5 row_4) := hD
          obtain ⟨x4_6, ex4_6⟩ : ∃ y : Int32, y = x4 + 1 := ⟨_, rfl⟩
          have hw := hw x4_6 ex4_6
          refine lv_iinc (v := x4_6) (lv' := [(4, .int x4_6), (0, .ref (ad 1)), (1, .long x1), (3, .int x3)]) hx hb d_T_append_47 hl (k := 3) rfl (by rw [ex4_6]; rfl) (by decide) rfl (fun ls hl => ?_)
          refine lv_goto (tgt := 3) hx hb d_T_append_50 (by decide) ?_
          exact ih x4_6 size_5 row_4 _ _ _ hw hP hD hS (lv_sub hl [1, 2, 3, 0] rfl)
  refine lv_iconst (v := 0) hx hb d_T_append_0 (by decide) ?_
  refine lv_istore (lv' := [(4, .int 0), (0, .ref (ad 1)), (1, .long p0), (3, .int p1)]) hx hb d_T_append_1 hl (by decide) rfl (fun ls hl => ?_)
  obtain ⟨fu3, hw⟩ := hw
  exact L_3 p0 p1 fu3 0 size row _ _ _ hw hP hD hS (lv_sub hl [1, 2, 3, 0] rfl)
