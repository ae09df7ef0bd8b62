set_option maxHeartbeats 4000000 in
set_option maxRecDepth 100000 in
theorem i_T_init (l : Launch) (dC : Nat → ClassId) (dI : Nat → Nat → Nat) (h0 sz : Nat)  : Met l y_T_init ws_T_init ({ frames := 1, cells := 1, slots := 4096, locals := 12 } : Room) (va_Pc [.ref h0] (fun U => U.heap.size = sz ∧ va_P (dC, dI) vwCl [(h0, .inr (2, [.null, .int 0]))] U.heap ∧ va_K (dC, dI) vwCl [] U ∧ va_D (fun _ => True) [(h0, .inr (2, [.null, .int 0]))])) (va_Qv (fun _ : Nat × ClassId => True) (fun u t => va_P (dC, dI) vwCl [(h0, .inr (2, [.ref u.1, .int 0])), (u.1, .inl (u.2, 4096, .inl (fun _ => 0)))] t.heap ∧ va_K (dC, dI) vwCl [(u.2, .byte)] t ∧ va_D (va_A [(h0, .inr (2, [.null, .int 0]))] sz) [(h0, .inr (2, [.ref u.1, .int 0])), (u.1, .inl (u.2, 4096, .inl (fun _ => 0)))]) (va_A [(h0, .inr (2, [.null, .int 0]))] sz)) 1 4096 (va_A [(h0, .inr (2, [.null, .int 0]))] sz) := by
  refine Met.ofW (cc := c_T_init) (maxL := 1) (ret := none) (by decide) rfl ?_
  intro p e s m args below meth c s₁ B hml hv
  obtain ⟨rfl, hsz, hP, hK, hD0⟩ := hv
  have hx := B.exec
  have hb := B.bytes
  have hr := B.returns
  have hts : ∀ w ∈ TB, w.before _ s = true := fun w h => atoms_spec (ws := ws_T_init) B.pre w (List.mem_cons_of_mem _ h)
  have hown : s.vm.findClass R_T = some m.cls := findClass_of_methodNamed B.named
  have hlocks := B.notSynchronized
  have hin : meth.name = "<init>" := (name_of_methodNamed B.named B.method).1
  subst hsz
  have hD := hD0.self (sz := s.heap.size)
  generalize hAe : va_A [(h0, .inr (2, [.null, .int 0]))] s.heap.size = A at hD ⊢
  have hA : ∀ q : Nat, s.heap.size ≤ q → A q := fun q h => by rw [← hAe]; exact Or.inr h
  have hS : va_S A s.heap s.heap [] := va_S.rf
  have hP : va_P (dC, dI) vwCl [(h0, .inr (2, [.null, .int 0]))] s.heap := hP
  have hl := lv_entry ([.ref h0]) (n := 1) (Nat.le_of_ble_eq_true rfl)
  rw [lg_entry_eq]
  generalize (lg_sl ([.ref h0]) ++ List.replicate (1 - (lg_sl ([.ref h0])).length) Slot.unset).toArray = ls at hl ⊢
  have hl : lv_has ls 1 [(0, .ref h0)] := hl
  refine lv_aload_n hx hb d_T_init_0 rfl (lv_at hl 0 rfl) ?_
  refine W.objInit hx hb hown (hts _ tw_266) (hts _ tw_267) (hts _ tw_268) rfl (by rw [hml]; exact hl.1) rfl d_T_init_1 (Nat.le_of_ble_eq_true rfl) (Nat.le_of_ble_eq_true rfl) ?_
  refine W.eq (g2 := F0 m 4 ls []) rfl ?_
  refine lv_aload_n hx hb d_T_init_4 rfl (lv_at hl 0 rfl) ?_
  refine lv_sipush (v := 4096) hx hb d_T_init_5 (by decide) ?_
  refine va_newa (atype := .byte) (N' := 4096) (a0 := (4096, .inl (fun _ => 0))) (ty := .byte) (n := 4096) hx hb (hts _ tw_269) rfl hK hP hD hS hA (fun _ => rfl) (by decide) (by decide) (by decide) (show 1 ≤ 1 from by decide) (show 4096 ≤ 4096 from by decide) d_T_init_8 (fun q8 k8 H hK hP hD hS => ?_)
  have hP : va_P (dC, dI) vwCl [(h0, .inr (2, [.null, .int 0])), (q8, .inl (k8, 4096, .inl (fun _ => 0)))] H := hP
  have hD : va_D A [(h0, .inr (2, [.null, .int 0])), (q8, .inl (k8, 4096, .inl (fun _ => 0)))] := hD
  have hK : va_K (dC, dI) vwCl [(k8, .byte)] s := hK
  refine W.widen (k := 1) (n := 4096) (by decide) (by decide) ?_
  refine va_putF (D := (dC, dI)) (ci := 2) (v := .ref q8) (ty := (.array .byte)) (C := R_T) (T := T_T) (N := 2) hx hb hts in_T ty_T ty_T_ok nm_T hown hK hP hD hS 0 rfl rfl 0 (by decide) (hts _ tw_1) (fun _ h9 => h9) rfl hin rfl (by decide +kernel) rfl rfl (Nat.le_of_ble_eq_true rfl) d_T_init_10 (fun H locs hP hD hS => ?_)
  have hP : va_P (dC, dI) vwCl [(h0, .inr (2, [.ref q8, .int 0])), (q8, .inl (k8, 4096, .inl (fun _ => 0)))] H := hP
  have hD : va_D A [(h0, .inr (2, [.ref q8, .int 0])), (q8, .inl (k8, 4096, .inl (fun _ => 0)))] := hD
  have hP9 := hP.sub (ws' := [(h0, .inr (2, [.ref q8, .int 0])), (q8, .inl (k8, 4096, .inl (fun _ => 0)))]) [0, 1] rfl
  have hD9 := hD.sub (ws' := [(h0, .inr (2, [.ref q8, .int 0])), (q8, .inl (k8, 4096, .inl (fun _ => 0)))]) [0, 1] (by decide) rfl
  exact W.vret hx hb hr (fun t ht hW => ⟨⟨(q8, k8), rfl, trivial, by rw [ht]; exact hP9, va_K.moved hW.alike hK, hD9⟩, hS.F ht⟩) hS.2.2 d_T_init_13

set_option maxHeartbeats 4000000 in
set_option maxRecDepth 100000 in
theorem i_W_init (l : Launch) (dC : Nat → ClassId) (dI : Nat → Nat → Nat) (h0 sz : Nat) (a0 : Nat) : Met l y_W_init ws_W_init ({ frames := 1, cells := 0, slots := 0, locals := 12 } : Room) (va_Pc [.ref h0, .ref a0] (fun U => U.heap.size = sz ∧ va_P (dC, dI) vwCl [(h0, .inr (3, [.null, .int 0, .int 0, .int 0, .int 0, .int 0]))] U.heap ∧ va_K (dC, dI) vwCl [] U ∧ va_D (fun _ => True) [(h0, .inr (3, [.null, .int 0, .int 0, .int 0, .int 0, .int 0]))])) (va_Qv (fun _ : Unit => True) (fun u t => va_P (dC, dI) vwCl [(h0, .inr (3, [.ref a0, .int 0, .int 0, .int 0, .int 0, .int 0]))] t.heap ∧ va_K (dC, dI) vwCl [] t ∧ va_D (va_A [(h0, .inr (3, [.null, .int 0, .int 0, .int 0, .int 0, .int 0]))] sz) [(h0, .inr (3, [.ref a0, .int 0, .int 0, .int 0, .int 0, .int 0]))]) (va_A [(h0, .inr (3, [.null, .int 0, .int 0, .int 0, .int 0, .int 0]))] sz)) 0 0 (va_A [(h0, .inr (3, [.null, .int 0, .int 0, .int 0, .int 0, .int 0]))] sz) := by
  refine Met.ofW (cc := c_W_init) (maxL := 2) (ret := none) (by decide) rfl ?_
  intro p e s m args below meth c s₁ B hml hv
  obtain ⟨rfl, hsz, hP, hK, hD0⟩ := hv
  have hx := B.exec
  have hb := B.bytes
  have hr := B.returns
  have hts : ∀ w ∈ TB, w.before _ s = true := fun w h => atoms_spec (ws := ws_W_init) B.pre w (List.mem_cons_of_mem _ h)
  have hown : s.vm.findClass R_W = some m.cls := findClass_of_methodNamed B.named
  have hlocks := B.notSynchronized
  have hin : meth.name = "<init>" := (name_of_methodNamed B.named B.method).1
  subst hsz
  have hD := hD0.self (sz := s.heap.size)
  generalize hAe : va_A [(h0, .inr (3, [.null, .int 0, .int 0, .int 0, .int 0, .int 0]))] s.heap.size = A at hD ⊢
  have hA : ∀ q : Nat, s.heap.size ≤ q → A q := fun q h => by rw [← hAe]; exact Or.inr h
  have hS : va_S A s.heap s.heap [] := va_S.rf
  have hP : va_P (dC, dI) vwCl [(h0, .inr (3, [.null, .int 0, .int 0, .int 0, .int 0, .int 0]))] s.heap := hP
  have hl := lv_entry ([.ref h0, .ref a0]) (n := 2) (Nat.le_of_ble_eq_true rfl)
  rw [lg_entry_eq]
  generalize (lg_sl ([.ref h0, .ref a0]) ++ List.replicate (2 - (lg_sl ([.ref h0, .ref a0])).length) Slot.unset).toArray = ls at hl ⊢
  have hl : lv_has ls 2 [(0, .ref h0), (1, .ref a0)] := hl
  refine lv_aload_n hx hb d_W_init_0 rfl (lv_at hl 0 rfl) ?_
  refine W.objInit hx hb hown (hts _ tw_270) (hts _ tw_267) (hts _ tw_268) rfl (by rw [hml]; exact hl.1) rfl d_W_init_1 (Nat.le_of_ble_eq_true rfl) (Nat.le_of_ble_eq_true rfl) ?_
  refine W.eq (g2 := F0 m 4 ls []) rfl ?_
  refine lv_aload_n hx hb d_W_init_4 rfl (lv_at hl 0 rfl) ?_
  refine lv_aload_n hx hb d_W_init_5 rfl (lv_at hl 1 rfl) ?_
  refine va_putF (D := (dC, dI)) (ci := 3) (v := .ref a0) (ty := (.object "ConditionMill$Text")) (C := R_W) (T := T_W) (N := 6) hx hb hts in_W ty_W ty_W_ok nm_W hown hK hP hD hS 0 rfl rfl 0 (by decide) (hts _ tw_14) (fun _ h9 => h9) rfl hin rfl (by decide +kernel) rfl rfl (Nat.le_of_ble_eq_true rfl) d_W_init_6 (fun H locs hP hD hS => ?_)
  have hP : va_P (dC, dI) vwCl [(h0, .inr (3, [.ref a0, .int 0, .int 0, .int 0, .int 0, .int 0]))] H := hP
  have hD : va_D A [(h0, .inr (3, [.ref a0, .int 0, .int 0, .int 0, .int 0, .int 0]))] := hD
  have hP9 := hP.sub (ws' := [(h0, .inr (3, [.ref a0, .int 0, .int 0, .int 0, .int 0, .int 0]))]) [0] rfl
  have hD9 := hD.sub (ws' := [(h0, .inr (3, [.ref a0, .int 0, .int 0, .int 0, .int 0, .int 0]))]) [0] (by decide) rfl
  exact W.vret hx hb hr (fun t ht hW => ⟨⟨(), rfl, trivial, by rw [ht]; exact hP9, va_K.moved hW.alike hK, hD9⟩, hS.F ht⟩) hS.2.2 d_W_init_9

set_option maxHeartbeats 4000000 in
set_option maxRecDepth 100000 in
theorem i_L_init (l : Launch) (dC : Nat → ClassId) (dI : Nat → Nat → Nat) (h0 sz : Nat) (a0 : Nat) : Met l y_L_init ws_L_init ({ frames := 1, cells := 0, slots := 0, locals := 12 } : Room) (va_Pc [.ref h0, .ref a0] (fun U => U.heap.size = sz ∧ va_P (dC, dI) vwCl [(h0, .inr (0, [.null, .long 0, .int 0]))] U.heap ∧ va_K (dC, dI) vwCl [] U ∧ va_D (fun _ => True) [(h0, .inr (0, [.null, .long 0, .int 0]))])) (va_Qv (fun _ : Unit => True) (fun u t => va_P (dC, dI) vwCl [(h0, .inr (0, [.ref a0, .long 0, .int 0]))] t.heap ∧ va_K (dC, dI) vwCl [] t ∧ va_D (va_A [(h0, .inr (0, [.null, .long 0, .int 0]))] sz) [(h0, .inr (0, [.ref a0, .long 0, .int 0]))]) (va_A [(h0, .inr (0, [.null, .long 0, .int 0]))] sz)) 0 0 (va_A [(h0, .inr (0, [.null, .long 0, .int 0]))] sz) := by
  refine Met.ofW (cc := c_L_init) (maxL := 2) (ret := none) (by decide) rfl ?_
  intro p e s m args below meth c s₁ B hml hv
  obtain ⟨rfl, hsz, hP, hK, hD0⟩ := hv
  have hx := B.exec
  have hb := B.bytes
  have hr := B.returns
  have hts : ∀ w ∈ TB, w.before _ s = true := fun w h => atoms_spec (ws := ws_L_init) B.pre w (List.mem_cons_of_mem _ h)
  have hown : s.vm.findClass R_L = some m.cls := findClass_of_methodNamed B.named
  have hlocks := B.notSynchronized
  have hin : meth.name = "<init>" := (name_of_methodNamed B.named B.method).1
  subst hsz
  have hD := hD0.self (sz := s.heap.size)
  generalize hAe : va_A [(h0, .inr (0, [.null, .long 0, .int 0]))] s.heap.size = A at hD ⊢
  have hA : ∀ q : Nat, s.heap.size ≤ q → A q := fun q h => by rw [← hAe]; exact Or.inr h
  have hS : va_S A s.heap s.heap [] := va_S.rf
  have hP : va_P (dC, dI) vwCl [(h0, .inr (0, [.null, .long 0, .int 0]))] s.heap := hP
  have hl := lv_entry ([.ref h0, .ref a0]) (n := 2) (Nat.le_of_ble_eq_true rfl)
  rw [lg_entry_eq]
  generalize (lg_sl ([.ref h0, .ref a0]) ++ List.replicate (2 - (lg_sl ([.ref h0, .ref a0])).length) Slot.unset).toArray = ls at hl ⊢
  have hl : lv_has ls 2 [(0, .ref h0), (1, .ref a0)] := hl
  refine lv_aload_n hx hb d_L_init_0 rfl (lv_at hl 0 rfl) ?_
  refine W.objInit hx hb hown (hts _ tw_271) (hts _ tw_267) (hts _ tw_268) rfl (by rw [hml]; exact hl.1) rfl d_L_init_1 (Nat.le_of_ble_eq_true rfl) (Nat.le_of_ble_eq_true rfl) ?_
  refine W.eq (g2 := F0 m 4 ls []) rfl ?_
  refine lv_aload_n hx hb d_L_init_4 rfl (lv_at hl 0 rfl) ?_
  refine lv_aload_n hx hb d_L_init_5 rfl (lv_at hl 1 rfl) ?_
  refine va_putF (D := (dC, dI)) (ci := 0) (v := .ref a0) (ty := (.object "ConditionMill$Text")) (C := R_L) (T := T_L) (N := 3) hx hb hts in_L ty_L ty_L_ok nm_L hown hK hP hD hS 0 rfl rfl 0 (by decide) (hts _ tw_97) (fun _ h9 => h9) rfl hin rfl (by decide +kernel) rfl rfl (Nat.le_of_ble_eq_true rfl) d_L_init_6 (fun H locs hP hD hS => ?_)
  have hP : va_P (dC, dI) vwCl [(h0, .inr (0, [.ref a0, .long 0, .int 0]))] H := hP
  have hD : va_D A [(h0, .inr (0, [.ref a0, .long 0, .int 0]))] := hD
  have hP9 := hP.sub (ws' := [(h0, .inr (0, [.ref a0, .long 0, .int 0]))]) [0] rfl
  have hD9 := hD.sub (ws' := [(h0, .inr (0, [.ref a0, .long 0, .int 0]))]) [0] (by decide) rfl
  exact W.vret hx hb hr (fun t ht hW => ⟨⟨(), rfl, trivial, by rw [ht]; exact hP9, va_K.moved hW.alike hK, hD9⟩, hS.F ht⟩) hS.2.2 d_L_init_9

set_option maxHeartbeats 4000000 in
set_option maxRecDepth 100000 in
theorem i_K_init (l : Launch) (dC : Nat → ClassId) (dI : Nat → Nat → Nat) (h0 sz : Nat) (a0 : Nat) (a1 : Nat) : Met l y_K_init ws_K_init ({ frames := 1, cells := 5, slots := 3352, locals := 12 } : Room) (va_Pc [.ref h0, .ref a0, .ref a1] (fun U => U.heap.size = sz ∧ va_P (dC, dI) vwCl [(h0, .inr (1, [.null, .null, .null, .null, .null, .null, .null, .int 0, .int 0, .int 0, .int 0, .int 0, .int 0]))] U.heap ∧ va_K (dC, dI) vwCl [] U ∧ va_D (fun _ => True) [(h0, .inr (1, [.null, .null, .null, .null, .null, .null, .null, .int 0, .int 0, .int 0, .int 0, .int 0, .int 0]))])) (va_Qv (fun _ : Nat × ClassId × Nat × ClassId × Nat × ClassId × Nat × ClassId × Nat × ClassId => True) (fun u t => va_P (dC, dI) vwCl [(h0, .inr (1, [.ref a0, .ref a1, .ref u.1, .ref u.2.2.1, .ref u.2.2.2.2.1, .ref u.2.2.2.2.2.2.1, .ref u.2.2.2.2.2.2.2.2.1, .int 0, .int 0, .int 0, .int 0, .int 0, .int 0])), (u.1, .inl (u.2.1, 670, .inl (fun _ => 0))), (u.2.2.1, .inl (u.2.2.2.1, 670, .inl (fun _ => 0))), (u.2.2.2.2.1, .inl (u.2.2.2.2.2.1, 670, .inl (fun _ => 0))), (u.2.2.2.2.2.2.1, .inl (u.2.2.2.2.2.2.2.1, 671, .inr (.inl (fun _ => 0)))), (u.2.2.2.2.2.2.2.2.1, .inl (u.2.2.2.2.2.2.2.2.2, 671, .inl (fun _ => 0)))] t.heap ∧ va_K (dC, dI) vwCl [(u.2.1, .int), (u.2.2.2.1, .int), (u.2.2.2.2.2.1, .boolean), (u.2.2.2.2.2.2.2.1, .long), (u.2.2.2.2.2.2.2.2.2, .boolean)] t ∧ va_D (va_A [(h0, .inr (1, [.null, .null, .null, .null, .null, .null, .null, .int 0, .int 0, .int 0, .int 0, .int 0, .int 0]))] sz) [(h0, .inr (1, [.ref a0, .ref a1, .ref u.1, .ref u.2.2.1, .ref u.2.2.2.2.1, .ref u.2.2.2.2.2.2.1, .ref u.2.2.2.2.2.2.2.2.1, .int 0, .int 0, .int 0, .int 0, .int 0, .int 0])), (u.1, .inl (u.2.1, 670, .inl (fun _ => 0))), (u.2.2.1, .inl (u.2.2.2.1, 670, .inl (fun _ => 0))), (u.2.2.2.2.1, .inl (u.2.2.2.2.2.1, 670, .inl (fun _ => 0))), (u.2.2.2.2.2.2.1, .inl (u.2.2.2.2.2.2.2.1, 671, .inr (.inl (fun _ => 0)))), (u.2.2.2.2.2.2.2.2.1, .inl (u.2.2.2.2.2.2.2.2.2, 671, .inl (fun _ => 0)))]) (va_A [(h0, .inr (1, [.null, .null, .null, .null, .null, .null, .null, .int 0, .int 0, .int 0, .int 0, .int 0, .int 0]))] sz)) 5 3352 (va_A [(h0, .inr (1, [.null, .null, .null, .null, .null, .null, .null, .int 0, .int 0, .int 0, .int 0, .int 0, .int 0]))] sz) := by
  refine Met.ofW (cc := c_K_init) (maxL := 3) (ret := none) (by decide) rfl ?_
  intro p e s m args below meth c s₁ B hml hv
  obtain ⟨rfl, hsz, hP, hK, hD0⟩ := hv
  have hx := B.exec
  have hb := B.bytes
  have hr := B.returns
  have hts : ∀ w ∈ TB, w.before _ s = true := fun w h => atoms_spec (ws := ws_K_init) B.pre w (List.mem_cons_of_mem _ h)
  have hown : s.vm.findClass R_K = some m.cls := findClass_of_methodNamed B.named
  have hlocks := B.notSynchronized
  have hin : meth.name = "<init>" := (name_of_methodNamed B.named B.method).1
  subst hsz
  have hD := hD0.self (sz := s.heap.size)
  generalize hAe : va_A [(h0, .inr (1, [.null, .null, .null, .null, .null, .null, .null, .int 0, .int 0, .int 0, .int 0, .int 0, .int 0]))] s.heap.size = A at hD ⊢
  have hA : ∀ q : Nat, s.heap.size ≤ q → A q := fun q h => by rw [← hAe]; exact Or.inr h
  have hS : va_S A s.heap s.heap [] := va_S.rf
  have hP : va_P (dC, dI) vwCl [(h0, .inr (1, [.null, .null, .null, .null, .null, .null, .null, .int 0, .int 0, .int 0, .int 0, .int 0, .int 0]))] s.heap := hP
  have hl := lv_entry ([.ref h0, .ref a0, .ref a1]) (n := 3) (Nat.le_of_ble_eq_true rfl)
  rw [lg_entry_eq]
  generalize (lg_sl ([.ref h0, .ref a0, .ref a1]) ++ List.replicate (3 - (lg_sl ([.ref h0, .ref a0, .ref a1])).length) Slot.unset).toArray = ls at hl ⊢
  have hl : lv_has ls 3 [(0, .ref h0), (1, .ref a0), (2, .ref a1)] := hl
  refine lv_aload_n hx hb d_K_init_0 rfl (lv_at hl 0 rfl) ?_
  refine W.objInit hx hb hown (hts _ tw_272) (hts _ tw_267) (hts _ tw_268) rfl (by rw [hml]; exact hl.1) rfl d_K_init_1 (Nat.le_of_ble_eq_true rfl) (Nat.le_of_ble_eq_true rfl) ?_
  refine W.eq (g2 := F0 m 4 ls []) rfl ?_
  refine lv_aload_n hx hb d_K_init_4 rfl (lv_at hl 0 rfl) ?_
  refine lv_sipush (v := 670) hx hb d_K_init_5 (by decide) ?_
  refine va_newa (atype := .int) (N' := 670) (a0 := (670, .inl (fun _ => 0))) (ty := .int) (n := 670) hx hb (hts _ tw_273) rfl hK hP hD hS hA (fun _ => rfl) (by decide) (by decide) (by decide) (show 1 ≤ 5 from by decide) (show 670 ≤ 3352 from by decide) d_K_init_8 (fun q8 k8 H hK hP hD hS => ?_)
  have hP : va_P (dC, dI) vwCl [(h0, .inr (1, [.null, .null, .null, .null, .null, .null, .null, .int 0, .int 0, .int 0, .int 0, .int 0, .int 0])), (q8, .inl (k8, 670, .inl (fun _ => 0)))] H := hP
  have hD : va_D A [(h0, .inr (1, [.null, .null, .null, .null, .null, .null, .null, .int 0, .int 0, .int 0, .int 0, .int 0, .int 0])), (q8, .inl (k8, 670, .inl (fun _ => 0)))] := hD
  have hK : va_K (dC, dI) vwCl [(k8, .int)] s := hK
  refine W.widen (k := 1) (n := 670) (by decide) (by decide) ?_
  refine va_putF (D := (dC, dI)) (ci := 1) (v := .ref q8) (ty := (.array .int)) (C := R_K) (T := T_K) (N := 13) hx hb hts in_K ty_K ty_K_ok nm_K hown hK hP hD hS 0 rfl rfl 2 (by decide) (hts _ tw_149) (fun _ h9 => h9) rfl hin rfl (by decide +kernel) rfl rfl (Nat.le_of_ble_eq_true rfl) d_K_init_10 (fun H locs hP hD hS => ?_)
  have hP : va_P (dC, dI) vwCl [(h0, .inr (1, [.null, .null, .ref q8, .null, .null, .null, .null, .int 0, .int 0, .int 0, .int 0, .int 0, .int 0])), (q8, .inl (k8, 670, .inl (fun _ => 0)))] H := hP
  have hD : va_D A [(h0, .inr (1, [.null, .null, .ref q8, .null, .null, .null, .null, .int 0, .int 0, .int 0, .int 0, .int 0, .int 0])), (q8, .inl (k8, 670, .inl (fun _ => 0)))] := hD
  refine lv_aload_n hx hb d_K_init_13 rfl (lv_at hl 0 rfl) ?_
  refine lv_sipush (v := 670) hx hb d_K_init_14 (by decide) ?_
  refine va_newa (atype := .int) (N' := 670) (a0 := (670, .inl (fun _ => 0))) (ty := .int) (n := 670) hx hb (hts _ tw_273) rfl hK hP hD hS hA (fun _ => rfl) (by decide) (by decide) (by decide) (show 2 ≤ 5 from by decide) (show 1340 ≤ 3352 from by decide) d_K_init_17 (fun q17 k17 H hK hP hD hS => ?_)
  have hP : va_P (dC, dI) vwCl [(h0, .inr (1, [.null, .null, .ref q8, .null, .null, .null, .null, .int 0, .int 0, .int 0, .int 0, .int 0, .int 0])), (q8, .inl (k8, 670, .inl (fun _ => 0))), (q17, .inl (k17, 670, .inl (fun _ => 0)))] H := hP
  have hD : va_D A [(h0, .inr (1, [.null, .null, .ref q8, .null, .null, .null, .null, .int 0, .int 0, .int 0, .int 0, .int 0, .int 0])), (q8, .inl (k8, 670, .inl (fun _ => 0))), (q17, .inl (k17, 670, .inl (fun _ => 0)))] := hD
  have hK : va_K (dC, dI) vwCl [(k8, .int), (k17, .int)] s := hK
  refine W.widen (k := 2) (n := 1340) (by decide) (by decide) ?_
  refine va_putF (D := (dC, dI)) (ci := 1) (v := .ref q17) (ty := (.array .int)) (C := R_K) (T := T_K) (N := 13) hx hb hts in_K ty_K ty_K_ok nm_K hown hK hP hD hS 0 rfl rfl 3 (by decide) (hts _ tw_150) (fun _ h9 => h9) rfl hin rfl (by decide +kernel) rfl rfl (Nat.le_of_ble_eq_true rfl) d_K_init_19 (fun H locs hP hD hS => ?_)
  have hP : va_P (dC, dI) vwCl [(h0, .inr (1, [.null, .null, .ref q8, .ref q17, .null, .null, .null, .int 0, .int 0, .int 0, .int 0, .int 0, .int 0])), (q8, .inl (k8, 670, .inl (fun _ => 0))), (q17, .inl (k17, 670, .inl (fun _ => 0)))] H := hP
  have hD : va_D A [(h0, .inr (1, [.null, .null, .ref q8, .ref q17, .null, .null, .null, .int 0, .int 0, .int 0, .int 0, .int 0, .int 0])), (q8, .inl (k8, 670, .inl (fun _ => 0))), (q17, .inl (k17, 670, .inl (fun _ => 0)))] := hD
  refine lv_aload_n hx hb d_K_init_22 rfl (lv_at hl 0 rfl) ?_
  refine lv_sipush (v := 670) hx hb d_K_init_23 (by decide) ?_
  refine va_newa (atype := .boolean) (N' := 670) (a0 := (670, .inl (fun _ => 0))) (ty := .boolean) (n := 670) hx hb (hts _ tw_274) rfl hK hP hD hS hA (fun _ => rfl) (by decide) (by decide) (by decide) (show 3 ≤ 5 from by decide) (show 2010 ≤ 3352 from by decide) d_K_init_26 (fun q26 k26 H hK hP hD hS => ?_)
  have hP : va_P (dC, dI) vwCl [(h0, .inr (1, [.null, .null, .ref q8, .ref q17, .null, .null, .null, .int 0, .int 0, .int 0, .int 0, .int 0, .int 0])), (q8, .inl (k8, 670, .inl (fun _ => 0))), (q17, .inl (k17, 670, .inl (fun _ => 0))), (q26, .inl (k26, 670, .inl (fun _ => 0)))] H := hP
  have hD : va_D A [(h0, .inr (1, [.null, .null, .ref q8, .ref q17, .null, .null, .null, .int 0, .int 0, .int 0, .int 0, .int 0, .int 0])), (q8, .inl (k8, 670, .inl (fun _ => 0))), (q17, .inl (k17, 670, .inl (fun _ => 0))), (q26, .inl (k26, 670, .inl (fun _ => 0)))] := hD
  have hK : va_K (dC, dI) vwCl [(k8, .int), (k17, .int), (k26, .boolean)] s := hK
  refine W.widen (k := 3) (n := 2010) (by decide) (by decide) ?_
  refine va_putF (D := (dC, dI)) (ci := 1) (v := .ref q26) (ty := (.array .boolean)) (C := R_K) (T := T_K) (N := 13) hx hb hts in_K ty_K ty_K_ok nm_K hown hK hP hD hS 0 rfl rfl 4 (by decide) (hts _ tw_151) (fun _ h9 => h9) rfl hin rfl (by decide +kernel) rfl rfl (Nat.le_of_ble_eq_true rfl) d_K_init_28 (fun H locs hP hD hS => ?_)
  have hP : va_P (dC, dI) vwCl [(h0, .inr (1, [.null, .null, .ref q8, .ref q17, .ref q26, .null, .null, .int 0, .int 0, .int 0, .int 0, .int 0, .int 0])), (q8, .inl (k8, 670, .inl (fun _ => 0))), (q17, .inl (k17, 670, .inl (fun _ => 0))), (q26, .inl (k26, 670, .inl (fun _ => 0)))] H := hP
  have hD : va_D A [(h0, .inr (1, [.null, .null, .ref q8, .ref q17, .ref q26, .null, .null, .int 0, .int 0, .int 0, .int 0, .int 0, .int 0])), (q8, .inl (k8, 670, .inl (fun _ => 0))), (q17, .inl (k17, 670, .inl (fun _ => 0))), (q26, .inl (k26, 670, .inl (fun _ => 0)))] := hD
  refine lv_aload_n hx hb d_K_init_31 rfl (lv_at hl 0 rfl) ?_
  refine lv_sipush (v := 671) hx hb d_K_init_32 (by decide) ?_
  refine va_newa (atype := .long) (N' := 671) (a0 := (671, .inr (.inl (fun _ => 0)))) (ty := .long) (n := 671) hx hb (hts _ tw_275) rfl hK hP hD hS hA (fun _ => rfl) (by decide) (by decide) (by decide) (show 4 ≤ 5 from by decide) (show 2681 ≤ 3352 from by decide) d_K_init_35 (fun q35 k35 H hK hP hD hS => ?_)
  have hP : va_P (dC, dI) vwCl [(h0, .inr (1, [.null, .null, .ref q8, .ref q17, .ref q26, .null, .null, .int 0, .int 0, .int 0, .int 0, .int 0, .int 0])), (q8, .inl (k8, 670, .inl (fun _ => 0))), (q17, .inl (k17, 670, .inl (fun _ => 0))), (q26, .inl (k26, 670, .inl (fun _ => 0))), (q35, .inl (k35, 671, .inr (.inl (fun _ => 0))))] H := hP
  have hD : va_D A [(h0, .inr (1, [.null, .null, .ref q8, .ref q17, .ref q26, .null, .null, .int 0, .int 0, .int 0, .int 0, .int 0, .int 0])), (q8, .inl (k8, 670, .inl (fun _ => 0))), (q17, .inl (k17, 670, .inl (fun _ => 0))), (q26, .inl (k26, 670, .inl (fun _ => 0))), (q35, .inl (k35, 671, .inr (.inl (fun _ => 0))))] := hD
  have hK : va_K (dC, dI) vwCl [(k8, .int), (k17, .int), (k26, .boolean), (k35, .long)] s := hK
  refine W.widen (k := 4) (n := 2681) (by decide) (by decide) ?_
  refine va_putF (D := (dC, dI)) (ci := 1) (v := .ref q35) (ty := (.array .long)) (C := R_K) (T := T_K) (N := 13) hx hb hts in_K ty_K ty_K_ok nm_K hown hK hP hD hS 0 rfl rfl 5 (by decide) (hts _ tw_146) (fun _ h9 => h9) rfl hin rfl (by decide +kernel) rfl rfl (Nat.le_of_ble_eq_true rfl) d_K_init_37 (fun H locs hP hD hS => ?_)
  have hP : va_P (dC, dI) vwCl [(h0, .inr (1, [.null, .null, .ref q8, .ref q17, .ref q26, .ref q35, .null, .int 0, .int 0, .int 0, .int 0, .int 0, .int 0])), (q8, .inl (k8, 670, .inl (fun _ => 0))), (q17, .inl (k17, 670, .inl (fun _ => 0))), (q26, .inl (k26, 670, .inl (fun _ => 0))), (q35, .inl (k35, 671, .inr (.inl (fun _ => 0))))] H := hP
  have hD : va_D A [(h0, .inr (1, [.null, .null, .ref q8, .ref q17, .ref q26, .ref q35, .null, .int 0, .int 0, .int 0, .int 0, .int 0, .int 0])), (q8, .inl (k8, 670, .inl (fun _ => 0))), (q17, .inl (k17, 670, .inl (fun _ => 0))), (q26, .inl (k26, 670, .inl (fun _ => 0))), (q35, .inl (k35, 671, .inr (.inl (fun _ => 0))))] := hD
  refine lv_aload_n hx hb d_K_init_40 rfl (lv_at hl 0 rfl) ?_
  refine lv_sipush (v := 671) hx hb d_K_init_41 (by decide) ?_
  refine va_newa (atype := .boolean) (N' := 671) (a0 := (671, .inl (fun _ => 0))) (ty := .boolean) (n := 671) hx hb (hts _ tw_274) rfl hK hP hD hS hA (fun _ => rfl) (by decide) (by decide) (by decide) (show 5 ≤ 5 from by decide) (show 3352 ≤ 3352 from by decide) d_K_init_44 (fun q44 k44 H hK hP hD hS => ?_)
  have hP : va_P (dC, dI) vwCl [(h0, .inr (1, [.null, .null, .ref q8, .ref q17, .ref q26, .ref q35, .null, .int 0, .int 0, .int 0, .int 0, .int 0, .int 0])), (q8, .inl (k8, 670, .inl (fun _ => 0))), (q17, .inl (k17, 670, .inl (fun _ => 0))), (q26, .inl (k26, 670, .inl (fun _ => 0))), (q35, .inl (k35, 671, .inr (.inl (fun _ => 0)))), (q44, .inl (k44, 671, .inl (fun _ => 0)))] H := hP
  have hD : va_D A [(h0, .inr (1, [.null, .null, .ref q8, .ref q17, .ref q26, .ref q35, .null, .int 0, .int 0, .int 0, .int 0, .int 0, .int 0])), (q8, .inl (k8, 670, .inl (fun _ => 0))), (q17, .inl (k17, 670, .inl (fun _ => 0))), (q26, .inl (k26, 670, .inl (fun _ => 0))), (q35, .inl (k35, 671, .inr (.inl (fun _ => 0)))), (q44, .inl (k44, 671, .inl (fun _ => 0)))] := hD
  have hK : va_K (dC, dI) vwCl [(k8, .int), (k17, .int), (k26, .boolean), (k35, .long), (k44, .boolean)] s := hK
  refine W.widen (k := 5) (n := 3352) (by decide) (by decide) ?_
  refine va_putF (D := (dC, dI)) (ci := 1) (v := .ref q44) (ty := (.array .boolean)) (C := R_K) (T := T_K) (N := 13) hx hb hts in_K ty_K ty_K_ok nm_K hown hK hP hD hS 0 rfl rfl 6 (by decide) (hts _ tw_147) (fun _ h9 => h9) rfl hin rfl (by decide +kernel) rfl rfl (Nat.le_of_ble_eq_true rfl) d_K_init_46 (fun H locs hP hD hS => ?_)
  have hP : va_P (dC, dI) vwCl [(h0, .inr (1, [.null, .null, .ref q8, .ref q17, .ref q26, .ref q35, .ref q44, .int 0, .int 0, .int 0, .int 0, .int 0, .int 0])), (q8, .inl (k8, 670, .inl (fun _ => 0))), (q17, .inl (k17, 670, .inl (fun _ => 0))), (q26, .inl (k26, 670, .inl (fun _ => 0))), (q35, .inl (k35, 671, .inr (.inl (fun _ => 0)))), (q44, .inl (k44, 671, .inl (fun _ => 0)))] H := hP
  have hD : va_D A [(h0, .inr (1, [.null, .null, .ref q8, .ref q17, .ref q26, .ref q35, .ref q44, .int 0, .int 0, .int 0, .int 0, .int 0, .int 0])), (q8, .inl (k8, 670, .inl (fun _ => 0))), (q17, .inl (k17, 670, .inl (fun _ => 0))), (q26, .inl (k26, 670, .inl (fun _ => 0))), (q35, .inl (k35, 671, .inr (.inl (fun _ => 0)))), (q44, .inl (k44, 671, .inl (fun _ => 0)))] := hD
  refine lv_aload_n hx hb d_K_init_49 rfl (lv_at hl 0 rfl) ?_
  refine lv_aload_n hx hb d_K_init_50 rfl (lv_at hl 1 rfl) ?_
  refine va_putF (D := (dC, dI)) (ci := 1) (v := .ref a0) (ty := (.object "ConditionMill$Walk")) (C := R_K) (T := T_K) (N := 13) hx hb hts in_K ty_K ty_K_ok nm_K hown hK hP hD hS 0 rfl rfl 0 (by decide) (hts _ tw_153) (fun _ h9 => h9) rfl hin rfl (by decide +kernel) rfl rfl (Nat.le_of_ble_eq_true rfl) d_K_init_51 (fun H locs hP hD hS => ?_)
  have hP : va_P (dC, dI) vwCl [(h0, .inr (1, [.ref a0, .null, .ref q8, .ref q17, .ref q26, .ref q35, .ref q44, .int 0, .int 0, .int 0, .int 0, .int 0, .int 0])), (q8, .inl (k8, 670, .inl (fun _ => 0))), (q17, .inl (k17, 670, .inl (fun _ => 0))), (q26, .inl (k26, 670, .inl (fun _ => 0))), (q35, .inl (k35, 671, .inr (.inl (fun _ => 0)))), (q44, .inl (k44, 671, .inl (fun _ => 0)))] H := hP
  have hD : va_D A [(h0, .inr (1, [.ref a0, .null, .ref q8, .ref q17, .ref q26, .ref q35, .ref q44, .int 0, .int 0, .int 0, .int 0, .int 0, .int 0])), (q8, .inl (k8, 670, .inl (fun _ => 0))), (q17, .inl (k17, 670, .inl (fun _ => 0))), (q26, .inl (k26, 670, .inl (fun _ => 0))), (q35, .inl (k35, 671, .inr (.inl (fun _ => 0)))), (q44, .inl (k44, 671, .inl (fun _ => 0)))] := hD
  refine lv_aload_n hx hb d_K_init_54 rfl (lv_at hl 0 rfl) ?_
  refine lv_aload_n hx hb d_K_init_55 rfl (lv_at hl 2 rfl) ?_
  refine va_putF (D := (dC, dI)) (ci := 1) (v := .ref a1) (ty := (.object "ConditionMill$Literal")) (C := R_K) (T := T_K) (N := 13) hx hb hts in_K ty_K ty_K_ok nm_K hown hK hP hD hS 0 rfl rfl 1 (by decide) (hts _ tw_195) (fun _ h9 => h9) rfl hin rfl (by decide +kernel) rfl rfl (Nat.le_of_ble_eq_true rfl) d_K_init_56 (fun H locs hP hD hS => ?_)
  have hP : va_P (dC, dI) vwCl [(h0, .inr (1, [.ref a0, .ref a1, .ref q8, .ref q17, .ref q26, .ref q35, .ref q44, .int 0, .int 0, .int 0, .int 0, .int 0, .int 0])), (q8, .inl (k8, 670, .inl (fun _ => 0))), (q17, .inl (k17, 670, .inl (fun _ => 0))), (q26, .inl (k26, 670, .inl (fun _ => 0))), (q35, .inl (k35, 671, .inr (.inl (fun _ => 0)))), (q44, .inl (k44, 671, .inl (fun _ => 0)))] H := hP
  have hD : va_D A [(h0, .inr (1, [.ref a0, .ref a1, .ref q8, .ref q17, .ref q26, .ref q35, .ref q44, .int 0, .int 0, .int 0, .int 0, .int 0, .int 0])), (q8, .inl (k8, 670, .inl (fun _ => 0))), (q17, .inl (k17, 670, .inl (fun _ => 0))), (q26, .inl (k26, 670, .inl (fun _ => 0))), (q35, .inl (k35, 671, .inr (.inl (fun _ => 0)))), (q44, .inl (k44, 671, .inl (fun _ => 0)))] := hD
  have hP9 := hP.sub (ws' := [(h0, .inr (1, [.ref a0, .ref a1, .ref q8, .ref q17, .ref q26, .ref q35, .ref q44, .int 0, .int 0, .int 0, .int 0, .int 0, .int 0])), (q8, .inl (k8, 670, .inl (fun _ => 0))), (q17, .inl (k17, 670, .inl (fun _ => 0))), (q26, .inl (k26, 670, .inl (fun _ => 0))), (q35, .inl (k35, 671, .inr (.inl (fun _ => 0)))), (q44, .inl (k44, 671, .inl (fun _ => 0)))]) [0, 1, 2, 3, 4, 5] rfl
  have hD9 := hD.sub (ws' := [(h0, .inr (1, [.ref a0, .ref a1, .ref q8, .ref q17, .ref q26, .ref q35, .ref q44, .int 0, .int 0, .int 0, .int 0, .int 0, .int 0])), (q8, .inl (k8, 670, .inl (fun _ => 0))), (q17, .inl (k17, 670, .inl (fun _ => 0))), (q26, .inl (k26, 670, .inl (fun _ => 0))), (q35, .inl (k35, 671, .inr (.inl (fun _ => 0)))), (q44, .inl (k44, 671, .inl (fun _ => 0)))]) [0, 1, 2, 3, 4, 5] (by decide) rfl
  exact W.vret hx hb hr (fun t ht hW => ⟨⟨(q8, k8, q17, k17, q26, k26, q35, k35, q44, k44), rfl, trivial, by rw [ht]; exact hP9, va_K.moved hW.alike hK, hD9⟩, hS.F ht⟩) hS.2.2 d_K_init_59

set_option maxHeartbeats 4000000 in
set_option maxRecDepth 100000 in
theorem i_M_init (l : Launch) (dC : Nat → ClassId) (dI : Nat → Nat → Nat) (h0 sz : Nat)  : Met l y_M_init ws_M_init ({ frames := 2, cells := 10, slots := 7472, locals := 34 } : Room) (va_Pc [.ref h0] (fun U => U.heap.size = sz ∧ va_P (dC, dI) vwCl [(h0, .inr (4, [.null, .null, .null, .long 0, .int 0]))] U.heap ∧ va_K (dC, dI) vwCl [] U ∧ va_D (fun _ => True) [(h0, .inr (4, [.null, .null, .null, .long 0, .int 0]))] ∧ va_Nw (.methodLinkNest R_M 9 y_T_init "ConditionMill") U)) (va_Qv (fun _ : Nat × Nat × ClassId × Nat × Nat × Nat × Nat × ClassId × Nat × ClassId × Nat × ClassId × Nat × ClassId × Nat × ClassId => True) (fun u t => va_P (dC, dI) vwCl [(h0, .inr (4, [.ref u.1, .ref u.2.2.2.1, .ref u.2.2.2.2.1, .long 0, .int 0])), (u.1, .inr (2, [.ref u.2.1, .int 0])), (u.2.1, .inl (u.2.2.1, 4096, .inl (fun _ => 0))), (u.2.2.2.1, .inr (3, [.ref u.1, .int 0, .int 0, .int 0, .int 0, .int 0])), (u.2.2.2.2.2.1, .inr (0, [.ref u.1, .long 0, .int 0])), (u.2.2.2.2.1, .inr (1, [.ref u.2.2.2.1, .ref u.2.2.2.2.2.1, .ref u.2.2.2.2.2.2.1, .ref u.2.2.2.2.2.2.2.2.1, .ref u.2.2.2.2.2.2.2.2.2.2.1, .ref u.2.2.2.2.2.2.2.2.2.2.2.2.1, .ref u.2.2.2.2.2.2.2.2.2.2.2.2.2.2.1, .int 0, .int 0, .int 0, .int 0, .int 0, .int 0])), (u.2.2.2.2.2.2.1, .inl (u.2.2.2.2.2.2.2.1, 670, .inl (fun _ => 0))), (u.2.2.2.2.2.2.2.2.1, .inl (u.2.2.2.2.2.2.2.2.2.1, 670, .inl (fun _ => 0))), (u.2.2.2.2.2.2.2.2.2.2.1, .inl (u.2.2.2.2.2.2.2.2.2.2.2.1, 670, .inl (fun _ => 0))), (u.2.2.2.2.2.2.2.2.2.2.2.2.1, .inl (u.2.2.2.2.2.2.2.2.2.2.2.2.2.1, 671, .inr (.inl (fun _ => 0)))), (u.2.2.2.2.2.2.2.2.2.2.2.2.2.2.1, .inl (u.2.2.2.2.2.2.2.2.2.2.2.2.2.2.2, 671, .inl (fun _ => 0)))] t.heap ∧ va_K (dC, dI) vwCl [(u.2.2.1, .byte), (u.2.2.2.2.2.2.2.1, .int), (u.2.2.2.2.2.2.2.2.2.1, .int), (u.2.2.2.2.2.2.2.2.2.2.2.1, .boolean), (u.2.2.2.2.2.2.2.2.2.2.2.2.2.1, .long), (u.2.2.2.2.2.2.2.2.2.2.2.2.2.2.2, .boolean)] t ∧ va_D (va_A [(h0, .inr (4, [.null, .null, .null, .long 0, .int 0]))] sz) [(h0, .inr (4, [.ref u.1, .ref u.2.2.2.1, .ref u.2.2.2.2.1, .long 0, .int 0])), (u.1, .inr (2, [.ref u.2.1, .int 0])), (u.2.1, .inl (u.2.2.1, 4096, .inl (fun _ => 0))), (u.2.2.2.1, .inr (3, [.ref u.1, .int 0, .int 0, .int 0, .int 0, .int 0])), (u.2.2.2.2.2.1, .inr (0, [.ref u.1, .long 0, .int 0])), (u.2.2.2.2.1, .inr (1, [.ref u.2.2.2.1, .ref u.2.2.2.2.2.1, .ref u.2.2.2.2.2.2.1, .ref u.2.2.2.2.2.2.2.2.1, .ref u.2.2.2.2.2.2.2.2.2.2.1, .ref u.2.2.2.2.2.2.2.2.2.2.2.2.1, .ref u.2.2.2.2.2.2.2.2.2.2.2.2.2.2.1, .int 0, .int 0, .int 0, .int 0, .int 0, .int 0])), (u.2.2.2.2.2.2.1, .inl (u.2.2.2.2.2.2.2.1, 670, .inl (fun _ => 0))), (u.2.2.2.2.2.2.2.2.1, .inl (u.2.2.2.2.2.2.2.2.2.1, 670, .inl (fun _ => 0))), (u.2.2.2.2.2.2.2.2.2.2.1, .inl (u.2.2.2.2.2.2.2.2.2.2.2.1, 670, .inl (fun _ => 0))), (u.2.2.2.2.2.2.2.2.2.2.2.2.1, .inl (u.2.2.2.2.2.2.2.2.2.2.2.2.2.1, 671, .inr (.inl (fun _ => 0)))), (u.2.2.2.2.2.2.2.2.2.2.2.2.2.2.1, .inl (u.2.2.2.2.2.2.2.2.2.2.2.2.2.2.2, 671, .inl (fun _ => 0)))]) (va_A [(h0, .inr (4, [.null, .null, .null, .long 0, .int 0]))] sz)) 10 7472 (va_A [(h0, .inr (4, [.null, .null, .null, .long 0, .int 0]))] sz) := by
  refine Met.ofW (cc := c_M_init) (maxL := 1) (ret := none) (by decide) rfl ?_
  intro p e s m args below meth c s₁ B hml hv
  obtain ⟨rfl, hsz, hP, hK, hD0, hNw⟩ := hv
  have hx := B.exec
  have hb := B.bytes
  have hr := B.returns
  have hts : ∀ w ∈ TB, w.before _ s = true := fun w h => atoms_spec (ws := ws_M_init) B.pre w (List.mem_cons_of_mem _ h)
  have hown : s.vm.findClass R_M = some m.cls := findClass_of_methodNamed B.named
  have hlocks := B.notSynchronized
  have hin : meth.name = "<init>" := (name_of_methodNamed B.named B.method).1
  subst hsz
  have hD := hD0.self (sz := s.heap.size)
  generalize hAe : va_A [(h0, .inr (4, [.null, .null, .null, .long 0, .int 0]))] s.heap.size = A at hD ⊢
  have hA : ∀ q : Nat, s.heap.size ≤ q → A q := fun q h => by rw [← hAe]; exact Or.inr h
  have hS : va_S A s.heap s.heap [] := va_S.rf
  have hP : va_P (dC, dI) vwCl [(h0, .inr (4, [.null, .null, .null, .long 0, .int 0]))] s.heap := hP
  have hl := lv_entry ([.ref h0]) (n := 1) (Nat.le_of_ble_eq_true rfl)
  rw [lg_entry_eq]
  generalize (lg_sl ([.ref h0]) ++ List.replicate (1 - (lg_sl ([.ref h0])).length) Slot.unset).toArray = ls at hl ⊢
  have hl : lv_has ls 1 [(0, .ref h0)] := hl
  refine lv_aload_n hx hb d_M_init_0 rfl (lv_at hl 0 rfl) ?_
  refine W.objInit hx hb hown (hts _ tw_276) (hts _ tw_267) (hts _ tw_268) rfl (by rw [hml]; exact hl.1) rfl d_M_init_1 (Nat.le_of_ble_eq_true rfl) (Nat.le_of_ble_eq_true rfl) ?_
  refine W.eq (g2 := F0 m 4 ls []) rfl ?_
  refine lv_aload_n hx hb d_M_init_4 rfl (lv_at hl 0 rfl) ?_
  refine va_new (ci := 2) (fs := [.null, .int 0]) (C := R_T) (T := T_T) (N := 2) hx hb hts in_T ty_T ty_T_ok hown (hts _ tw_277) (hts _ tw_278) (hts _ tw_17) hK hP hD hS hA rfl (fun j hj => by rcases (show j = 0 ∨ j = 1 by omega) with rfl | rfl <;> rfl) (show 1 ≤ 10 from by decide) (show 2 ≤ 7472 from by decide) d_M_init_5 (fun q5 H hP hD hS => ?_)
  have hP : va_P (dC, dI) vwCl [(h0, .inr (4, [.null, .null, .null, .long 0, .int 0])), (q5, .inr (2, [.null, .int 0]))] H := hP
  have hD : va_D A [(h0, .inr (4, [.null, .null, .null, .long 0, .int 0])), (q5, .inr (2, [.null, .int 0]))] := hD
  refine W.widen (k := 1) (n := 2) (by decide) (by decide) ?_
  refine lv_dup hx hb d_M_init_8 rfl ?_
  have hPc := hP.sub (ws' := [(q5, .inr (2, [.null, .int 0]))]) [1] rfl
  have hDc := hD.sub (ws' := [(q5, .inr (2, [.null, .int 0]))]) [1] (by decide) rfl
  have hKc := hK.sub (tys' := []) [] rfl
  have hFc := va_free (wc := [(q5, .inr (2, [.null, .int 0]))]) hD hS hA [1] rfl
  refine va_callv (va_runIN (As := []) (rest := [.ref q5, .ref h0]) ⟨hx, hb, hml, hown, hts⟩ (i_T_init l dC dI q5 H.size ) ⟨va_cnB 0 hts (gC tw_279) rfl rfl rfl (hNw) (hts _ tw_17) hd_T_init ⟨Nat.le_of_ble_eq_true rfl, Nat.le_of_ble_eq_true rfl⟩, rfl, hts _ tw_280⟩ ⟨fun a U g mk q => by obtain ⟨q0, q1, qP, qK, qD⟩ := q; exact ⟨q0, q1, qP, va_K.moved (u := U) (U := U.calling g mk a) (Vm.Alike.refl U.vm) qK, qD⟩, fun U hU hW => ⟨rfl, by rw [hU], by rw [hU]; exact hPc, va_K.moved hW.alike hKc, hDc.weaken (fun _ _ _ _ => trivial)⟩⟩ rfl rfl hl.1 rfl (lv_room (Nat.le_of_ble_eq_true rfl)) d_M_init_9 ⟨show 2 ≤ 10 from by decide, show 4098 ≤ 7472 from by decide⟩) hS (fun q _ h => hFc q h) hFc (fun u t H1 locs ht hvm hw hB hz1 hk1 hS => ?_)
  obtain ⟨q8_9, k8_9⟩ := u
  obtain ⟨hP1, hK1, hD1⟩ := hB
  rw [ht] at hP1
  have hK1 := va_K.moved hvm.symm hK1
  obtain ⟨hP, hD⟩ := va_join (wr := [(h0, .inr (4, [.null, .null, .null, .long 0, .int 0]))]) (w1 := [(q5, .inr (2, [.ref q8_9, .int 0])), (q8_9, .inl (k8_9, 4096, .inl (fun _ => 0)))]) hP hD [1] [0] rfl rfl (by decide) (by decide) hk1 hFc hP1 hD1
  have hK := hK.app hK1
  generalize H1 = H at hP hS ⊢
  have hP : va_P (dC, dI) vwCl [(h0, .inr (4, [.null, .null, .null, .long 0, .int 0])), (q5, .inr (2, [.ref q8_9, .int 0])), (q8_9, .inl (k8_9, 4096, .inl (fun _ => 0)))] H := hP
  have hD : va_D A [(h0, .inr (4, [.null, .null, .null, .long 0, .int 0])), (q5, .inr (2, [.ref q8_9, .int 0])), (q8_9, .inl (k8_9, 4096, .inl (fun _ => 0)))] := hD
  have hK : va_K (dC, dI) vwCl [(k8_9, .byte)] s := hK
  refine W.widen (k := 2) (n := 4098) (by decide) (by decide) ?_
  refine va_putF (D := (dC, dI)) (ci := 4) (v := .ref q5) (ty := (.object "ConditionMill$Text")) (C := R_M) (T := T_M) (N := 5) hx hb hts in_M ty_M ty_M_ok nm_M hown hK hP hD hS 0 rfl rfl 0 (by decide) (hts _ tw_251) (fun _ h9 => h9) rfl hin rfl (by decide +kernel) rfl rfl (Nat.le_of_ble_eq_true rfl) d_M_init_12 (fun H locs hP hD hS => ?_)
  have hP : va_P (dC, dI) vwCl [(h0, .inr (4, [.ref q5, .null, .null, .long 0, .int 0])), (q5, .inr (2, [.ref q8_9, .int 0])), (q8_9, .inl (k8_9, 4096, .inl (fun _ => 0)))] H := hP
  have hD : va_D A [(h0, .inr (4, [.ref q5, .null, .null, .long 0, .int 0])), (q5, .inr (2, [.ref q8_9, .int 0])), (q8_9, .inl (k8_9, 4096, .inl (fun _ => 0)))] := hD
  refine lv_aload_n hx hb d_M_init_15 rfl (lv_at hl 0 rfl) ?_
  refine va_new (ci := 3) (fs := [.null, .int 0, .int 0, .int 0, .int 0, .int 0]) (C := R_W) (T := T_W) (N := 6) hx hb hts in_W ty_W ty_W_ok hown (hts _ tw_281) (hts _ tw_282) (hts _ tw_6) hK hP hD hS hA rfl (fun j hj => by rcases (show j = 0 ∨ j = 1 ∨ j = 2 ∨ j = 3 ∨ j = 4 ∨ j = 5 by omega) with rfl | rfl | rfl | rfl | rfl | rfl <;> rfl) (show 3 ≤ 10 from by decide) (show 4104 ≤ 7472 from by decide) d_M_init_16 (fun q16 H hP hD hS => ?_)
  have hP : va_P (dC, dI) vwCl [(h0, .inr (4, [.ref q5, .null, .null, .long 0, .int 0])), (q5, .inr (2, [.ref q8_9, .int 0])), (q8_9, .inl (k8_9, 4096, .inl (fun _ => 0))), (q16, .inr (3, [.null, .int 0, .int 0, .int 0, .int 0, .int 0]))] H := hP
  have hD : va_D A [(h0, .inr (4, [.ref q5, .null, .null, .long 0, .int 0])), (q5, .inr (2, [.ref q8_9, .int 0])), (q8_9, .inl (k8_9, 4096, .inl (fun _ => 0))), (q16, .inr (3, [.null, .int 0, .int 0, .int 0, .int 0, .int 0]))] := hD
  refine W.widen (k := 3) (n := 4104) (by decide) (by decide) ?_
  refine lv_dup hx hb d_M_init_19 rfl ?_
  refine lv_aload_n hx hb d_M_init_20 rfl (lv_at hl 0 rfl) ?_
  refine va_get (D := (dC, dI)) (ci := 4) (v := .ref q5) (C := R_M) (T := T_M) (N := 5) hx hb hts in_M hown hK hP 0 rfl rfl 0 (by decide) (hts _ tw_251) (fun _ h9 => h9) rfl d_M_init_21 ?_
  have hPc := hP.sub (ws' := [(q16, .inr (3, [.null, .int 0, .int 0, .int 0, .int 0, .int 0]))]) [3] rfl
  have hDc := hD.sub (ws' := [(q16, .inr (3, [.null, .int 0, .int 0, .int 0, .int 0, .int 0]))]) [3] (by decide) rfl
  have hKc := hK.sub (tys' := []) [] rfl
  have hFc := va_free (wc := [(q16, .inr (3, [.null, .int 0, .int 0, .int 0, .int 0, .int 0]))]) hD hS hA [3] rfl
  refine va_callv (va_runI (As := [.ref q5]) (rest := [.ref q16, .ref h0]) ⟨hx, hb, hml, hown, hts⟩ (i_W_init l dC dI q16 H.size q5) (cwI 1 hts (gC tw_284) rfl rfl rfl (hts _ tw_6) (hts _ tw_283) (hts _ tw_285) rfl hd_W_init ⟨Nat.le_of_ble_eq_true rfl, Nat.le_of_ble_eq_true rfl⟩) ⟨fun a U g mk q => by obtain ⟨q0, q1, qP, qK, qD⟩ := q; exact ⟨q0, q1, qP, va_K.moved (u := U) (U := U.calling g mk a) (Vm.Alike.refl U.vm) qK, qD⟩, fun U hU hW => ⟨rfl, by rw [hU], by rw [hU]; exact hPc, va_K.moved hW.alike hKc, hDc.weaken (fun _ _ _ _ => trivial)⟩⟩ rfl rfl hl.1 rfl (lv_room (Nat.le_of_ble_eq_true rfl)) d_M_init_24 ⟨show 3 ≤ 10 from by decide, show 4104 ≤ 7472 from by decide⟩) hS (fun q _ h => hFc q h) hFc (fun u t H1 locs ht hvm hw hB hz1 hk1 hS => ?_)
  obtain ⟨hP1, hK1, hD1⟩ := hB
  rw [ht] at hP1
  have hK1 := va_K.moved hvm.symm hK1
  obtain ⟨hP, hD⟩ := va_join (wr := [(h0, .inr (4, [.ref q5, .null, .null, .long 0, .int 0])), (q5, .inr (2, [.ref q8_9, .int 0])), (q8_9, .inl (k8_9, 4096, .inl (fun _ => 0)))]) (w1 := [(q16, .inr (3, [.ref q5, .int 0, .int 0, .int 0, .int 0, .int 0]))]) hP hD [3] [0, 1, 2] rfl rfl (by decide) (by decide) hk1 hFc hP1 hD1
  have hK := hK.app hK1
  generalize H1 = H at hP hS ⊢
  have hP : va_P (dC, dI) vwCl [(h0, .inr (4, [.ref q5, .null, .null, .long 0, .int 0])), (q5, .inr (2, [.ref q8_9, .int 0])), (q8_9, .inl (k8_9, 4096, .inl (fun _ => 0))), (q16, .inr (3, [.ref q5, .int 0, .int 0, .int 0, .int 0, .int 0]))] H := hP
  have hD : va_D A [(h0, .inr (4, [.ref q5, .null, .null, .long 0, .int 0])), (q5, .inr (2, [.ref q8_9, .int 0])), (q8_9, .inl (k8_9, 4096, .inl (fun _ => 0))), (q16, .inr (3, [.ref q5, .int 0, .int 0, .int 0, .int 0, .int 0]))] := hD
  have hK : va_K (dC, dI) vwCl [(k8_9, .byte)] s := hK
  refine W.widen (k := 3) (n := 4104) (by decide) (by decide) ?_
  refine va_putF (D := (dC, dI)) (ci := 4) (v := .ref q16) (ty := (.object "ConditionMill$Walk")) (C := R_M) (T := T_M) (N := 5) hx hb hts in_M ty_M ty_M_ok nm_M hown hK hP hD hS 0 rfl rfl 1 (by decide) (hts _ tw_263) (fun _ h9 => h9) rfl hin rfl (by decide +kernel) rfl rfl (Nat.le_of_ble_eq_true rfl) d_M_init_27 (fun H locs hP hD hS => ?_)
  have hP : va_P (dC, dI) vwCl [(h0, .inr (4, [.ref q5, .ref q16, .null, .long 0, .int 0])), (q5, .inr (2, [.ref q8_9, .int 0])), (q8_9, .inl (k8_9, 4096, .inl (fun _ => 0))), (q16, .inr (3, [.ref q5, .int 0, .int 0, .int 0, .int 0, .int 0]))] H := hP
  have hD : va_D A [(h0, .inr (4, [.ref q5, .ref q16, .null, .long 0, .int 0])), (q5, .inr (2, [.ref q8_9, .int 0])), (q8_9, .inl (k8_9, 4096, .inl (fun _ => 0))), (q16, .inr (3, [.ref q5, .int 0, .int 0, .int 0, .int 0, .int 0]))] := hD
  refine lv_aload_n hx hb d_M_init_30 rfl (lv_at hl 0 rfl) ?_
  refine va_new (ci := 1) (fs := [.null, .null, .null, .null, .null, .null, .null, .int 0, .int 0, .int 0, .int 0, .int 0, .int 0]) (C := R_K) (T := T_K) (N := 13) hx hb hts in_K ty_K ty_K_ok hown (hts _ tw_286) (hts _ tw_287) (hts _ tw_161) hK hP hD hS hA rfl (fun j hj => by rcases (show j = 0 ∨ j = 1 ∨ j = 2 ∨ j = 3 ∨ j = 4 ∨ j = 5 ∨ j = 6 ∨ j = 7 ∨ j = 8 ∨ j = 9 ∨ j = 10 ∨ j = 11 ∨ j = 12 by omega) with rfl | rfl | rfl | rfl | rfl | rfl | rfl | rfl | rfl | rfl | rfl | rfl | rfl <;> rfl) (show 4 ≤ 10 from by decide) (show 4117 ≤ 7472 from by decide) d_M_init_31 (fun q31 H hP hD hS => ?_)
  have hP : va_P (dC, dI) vwCl [(h0, .inr (4, [.ref q5, .ref q16, .null, .long 0, .int 0])), (q5, .inr (2, [.ref q8_9, .int 0])), (q8_9, .inl (k8_9, 4096, .inl (fun _ => 0))), (q16, .inr (3, [.ref q5, .int 0, .int 0, .int 0, .int 0, .int 0])), (q31, .inr (1, [.null, .null, .null, .null, .null, .null, .null, .int 0, .int 0, .int 0, .int 0, .int 0, .int 0]))] H := hP
  have hD : va_D A [(h0, .inr (4, [.ref q5, .ref q16, .null, .long 0, .int 0])), (q5, .inr (2, [.ref q8_9, .int 0])), (q8_9, .inl (k8_9, 4096, .inl (fun _ => 0))), (q16, .inr (3, [.ref q5, .int 0, .int 0, .int 0, .int 0, .int 0])), (q31, .inr (1, [.null, .null, .null, .null, .null, .null, .null, .int 0, .int 0, .int 0, .int 0, .int 0, .int 0]))] := hD
  refine W.widen (k := 4) (n := 4117) (by decide) (by decide) ?_
  refine lv_dup hx hb d_M_init_34 rfl ?_
  refine lv_aload_n hx hb d_M_init_35 rfl (lv_at hl 0 rfl) ?_
  refine va_get (D := (dC, dI)) (ci := 4) (v := .ref q16) (C := R_M) (T := T_M) (N := 5) hx hb hts in_M hown hK hP 0 rfl rfl 1 (by decide) (hts _ tw_263) (fun _ h9 => h9) rfl d_M_init_36 ?_
  refine va_new (ci := 0) (fs := [.null, .long 0, .int 0]) (C := R_L) (T := T_L) (N := 3) hx hb hts in_L ty_L ty_L_ok hown (hts _ tw_288) (hts _ tw_289) (hts _ tw_104) hK hP hD hS hA rfl (fun j hj => by rcases (show j = 0 ∨ j = 1 ∨ j = 2 by omega) with rfl | rfl | rfl <;> rfl) (show 5 ≤ 10 from by decide) (show 4120 ≤ 7472 from by decide) d_M_init_39 (fun q39 H hP hD hS => ?_)
  have hP : va_P (dC, dI) vwCl [(h0, .inr (4, [.ref q5, .ref q16, .null, .long 0, .int 0])), (q5, .inr (2, [.ref q8_9, .int 0])), (q8_9, .inl (k8_9, 4096, .inl (fun _ => 0))), (q16, .inr (3, [.ref q5, .int 0, .int 0, .int 0, .int 0, .int 0])), (q31, .inr (1, [.null, .null, .null, .null, .null, .null, .null, .int 0, .int 0, .int 0, .int 0, .int 0, .int 0])), (q39, .inr (0, [.null, .long 0, .int 0]))] H := hP
  have hD : va_D A [(h0, .inr (4, [.ref q5, .ref q16, .null, .long 0, .int 0])), (q5, .inr (2, [.ref q8_9, .int 0])), (q8_9, .inl (k8_9, 4096, .inl (fun _ => 0))), (q16, .inr (3, [.ref q5, .int 0, .int 0, .int 0, .int 0, .int 0])), (q31, .inr (1, [.null, .null, .null, .null, .null, .null, .null, .int 0, .int 0, .int 0, .int 0, .int 0, .int 0])), (q39, .inr (0, [.null, .long 0, .int 0]))] := hD
  refine W.widen (k := 5) (n := 4120) (by decide) (by decide) ?_
  refine lv_dup hx hb d_M_init_42 rfl ?_
  refine lv_aload_n hx hb d_M_init_43 rfl (lv_at hl 0 rfl) ?_
  refine va_get (D := (dC, dI)) (ci := 4) (v := .ref q5) (C := R_M) (T := T_M) (N := 5) hx hb hts in_M hown hK hP 0 rfl rfl 0 (by decide) (hts _ tw_251) (fun _ h9 => h9) rfl d_M_init_44 ?_
  have hPc := hP.sub (ws' := [(q39, .inr (0, [.null, .long 0, .int 0]))]) [5] rfl
  have hDc := hD.sub (ws' := [(q39, .inr (0, [.null, .long 0, .int 0]))]) [5] (by decide) rfl
  have hKc := hK.sub (tys' := []) [] rfl
  have hFc := va_free (wc := [(q39, .inr (0, [.null, .long 0, .int 0]))]) hD hS hA [5] rfl
  refine va_callv (va_runI (As := [.ref q5]) (rest := [.ref q39, .ref q16, .ref q31, .ref q31, .ref h0]) ⟨hx, hb, hml, hown, hts⟩ (i_L_init l dC dI q39 H.size q5) (cwI 1 hts (gC tw_291) rfl rfl rfl (hts _ tw_104) (hts _ tw_290) (hts _ tw_292) rfl hd_L_init ⟨Nat.le_of_ble_eq_true rfl, Nat.le_of_ble_eq_true rfl⟩) ⟨fun a U g mk q => by obtain ⟨q0, q1, qP, qK, qD⟩ := q; exact ⟨q0, q1, qP, va_K.moved (u := U) (U := U.calling g mk a) (Vm.Alike.refl U.vm) qK, qD⟩, fun U hU hW => ⟨rfl, by rw [hU], by rw [hU]; exact hPc, va_K.moved hW.alike hKc, hDc.weaken (fun _ _ _ _ => trivial)⟩⟩ rfl rfl hl.1 rfl (lv_room (Nat.le_of_ble_eq_true rfl)) d_M_init_47 ⟨show 5 ≤ 10 from by decide, show 4120 ≤ 7472 from by decide⟩) hS (fun q _ h => hFc q h) hFc (fun u t H1 locs ht hvm hw hB hz1 hk1 hS => ?_)
  obtain ⟨hP1, hK1, hD1⟩ := hB
  rw [ht] at hP1
  have hK1 := va_K.moved hvm.symm hK1
  obtain ⟨hP, hD⟩ := va_join (wr := [(h0, .inr (4, [.ref q5, .ref q16, .null, .long 0, .int 0])), (q5, .inr (2, [.ref q8_9, .int 0])), (q8_9, .inl (k8_9, 4096, .inl (fun _ => 0))), (q16, .inr (3, [.ref q5, .int 0, .int 0, .int 0, .int 0, .int 0])), (q31, .inr (1, [.null, .null, .null, .null, .null, .null, .null, .int 0, .int 0, .int 0, .int 0, .int 0, .int 0]))]) (w1 := [(q39, .inr (0, [.ref q5, .long 0, .int 0]))]) hP hD [5] [0, 1, 2, 3, 4] rfl rfl (by decide) (by decide) hk1 hFc hP1 hD1
  have hK := hK.app hK1
  generalize H1 = H at hP hS ⊢
  have hP : va_P (dC, dI) vwCl [(h0, .inr (4, [.ref q5, .ref q16, .null, .long 0, .int 0])), (q5, .inr (2, [.ref q8_9, .int 0])), (q8_9, .inl (k8_9, 4096, .inl (fun _ => 0))), (q16, .inr (3, [.ref q5, .int 0, .int 0, .int 0, .int 0, .int 0])), (q31, .inr (1, [.null, .null, .null, .null, .null, .null, .null, .int 0, .int 0, .int 0, .int 0, .int 0, .int 0])), (q39, .inr (0, [.ref q5, .long 0, .int 0]))] H := hP
  have hD : va_D A [(h0, .inr (4, [.ref q5, .ref q16, .null, .long 0, .int 0])), (q5, .inr (2, [.ref q8_9, .int 0])), (q8_9, .inl (k8_9, 4096, .inl (fun _ => 0))), (q16, .inr (3, [.ref q5, .int 0, .int 0, .int 0, .int 0, .int 0])), (q31, .inr (1, [.null, .null, .null, .null, .null, .null, .null, .int 0, .int 0, .int 0, .int 0, .int 0, .int 0])), (q39, .inr (0, [.ref q5, .long 0, .int 0]))] := hD
  have hK : va_K (dC, dI) vwCl [(k8_9, .byte)] s := hK
  refine W.widen (k := 5) (n := 4120) (by decide) (by decide) ?_
  have hPc := hP.sub (ws' := [(q31, .inr (1, [.null, .null, .null, .null, .null, .null, .null, .int 0, .int 0, .int 0, .int 0, .int 0, .int 0]))]) [4] rfl
  have hDc := hD.sub (ws' := [(q31, .inr (1, [.null, .null, .null, .null, .null, .null, .null, .int 0, .int 0, .int 0, .int 0, .int 0, .int 0]))]) [4] (by decide) rfl
  have hKc := hK.sub (tys' := []) [] rfl
  have hFc := va_free (wc := [(q31, .inr (1, [.null, .null, .null, .null, .null, .null, .null, .int 0, .int 0, .int 0, .int 0, .int 0, .int 0]))]) hD hS hA [4] rfl
  refine va_callv (va_runI (As := [.ref q16, .ref q39]) (rest := [.ref q31, .ref h0]) ⟨hx, hb, hml, hown, hts⟩ (i_K_init l dC dI q31 H.size q16 q39) (cwI 2 hts (gC tw_294) rfl rfl rfl (hts _ tw_161) (hts _ tw_293) (hts _ tw_295) rfl hd_K_init ⟨Nat.le_of_ble_eq_true rfl, Nat.le_of_ble_eq_true rfl⟩) ⟨fun a U g mk q => by obtain ⟨q0, q1, qP, qK, qD⟩ := q; exact ⟨q0, q1, qP, va_K.moved (u := U) (U := U.calling g mk a) (Vm.Alike.refl U.vm) qK, qD⟩, fun U hU hW => ⟨rfl, by rw [hU], by rw [hU]; exact hPc, va_K.moved hW.alike hKc, hDc.weaken (fun _ _ _ _ => trivial)⟩⟩ rfl rfl hl.1 rfl (lv_room (Nat.le_of_ble_eq_true rfl)) d_M_init_50 ⟨show 10 ≤ 10 from by decide, show 7472 ≤ 7472 from by decide⟩) hS (fun q _ h => hFc q h) hFc (fun u t H1 locs ht hvm hw hB hz1 hk1 hS => ?_)
  obtain ⟨q8_50, k8_50, q17_50, k17_50, q26_50, k26_50, q35_50, k35_50, q44_50, k44_50⟩ := u
  obtain ⟨hP1, hK1, hD1⟩ := hB
  rw [ht] at hP1
  have hK1 := va_K.moved hvm.symm hK1
  obtain ⟨hP, hD⟩ := va_join (wr := [(h0, .inr (4, [.ref q5, .ref q16, .null, .long 0, .int 0])), (q5, .inr (2, [.ref q8_9, .int 0])), (q8_9, .inl (k8_9, 4096, .inl (fun _ => 0))), (q16, .inr (3, [.ref q5, .int 0, .int 0, .int 0, .int 0, .int 0])), (q39, .inr (0, [.ref q5, .long 0, .int 0]))]) (w1 := [(q31, .inr (1, [.ref q16, .ref q39, .ref q8_50, .ref q17_50, .ref q26_50, .ref q35_50, .ref q44_50, .int 0, .int 0, .int 0, .int 0, .int 0, .int 0])), (q8_50, .inl (k8_50, 670, .inl (fun _ => 0))), (q17_50, .inl (k17_50, 670, .inl (fun _ => 0))), (q26_50, .inl (k26_50, 670, .inl (fun _ => 0))), (q35_50, .inl (k35_50, 671, .inr (.inl (fun _ => 0)))), (q44_50, .inl (k44_50, 671, .inl (fun _ => 0)))]) hP hD [4] [0, 1, 2, 3, 5] rfl rfl (by decide) (by decide) hk1 hFc hP1 hD1
  have hK := hK.app hK1
  generalize H1 = H at hP hS ⊢
  have hP : va_P (dC, dI) vwCl [(h0, .inr (4, [.ref q5, .ref q16, .null, .long 0, .int 0])), (q5, .inr (2, [.ref q8_9, .int 0])), (q8_9, .inl (k8_9, 4096, .inl (fun _ => 0))), (q16, .inr (3, [.ref q5, .int 0, .int 0, .int 0, .int 0, .int 0])), (q39, .inr (0, [.ref q5, .long 0, .int 0])), (q31, .inr (1, [.ref q16, .ref q39, .ref q8_50, .ref q17_50, .ref q26_50, .ref q35_50, .ref q44_50, .int 0, .int 0, .int 0, .int 0, .int 0, .int 0])), (q8_50, .inl (k8_50, 670, .inl (fun _ => 0))), (q17_50, .inl (k17_50, 670, .inl (fun _ => 0))), (q26_50, .inl (k26_50, 670, .inl (fun _ => 0))), (q35_50, .inl (k35_50, 671, .inr (.inl (fun _ => 0)))), (q44_50, .inl (k44_50, 671, .inl (fun _ => 0)))] H := hP
  have hD : va_D A [(h0, .inr (4, [.ref q5, .ref q16, .null, .long 0, .int 0])), (q5, .inr (2, [.ref q8_9, .int 0])), (q8_9, .inl (k8_9, 4096, .inl (fun _ => 0))), (q16, .inr (3, [.ref q5, .int 0, .int 0, .int 0, .int 0, .int 0])), (q39, .inr (0, [.ref q5, .long 0, .int 0])), (q31, .inr (1, [.ref q16, .ref q39, .ref q8_50, .ref q17_50, .ref q26_50, .ref q35_50, .ref q44_50, .int 0, .int 0, .int 0, .int 0, .int 0, .int 0])), (q8_50, .inl (k8_50, 670, .inl (fun _ => 0))), (q17_50, .inl (k17_50, 670, .inl (fun _ => 0))), (q26_50, .inl (k26_50, 670, .inl (fun _ => 0))), (q35_50, .inl (k35_50, 671, .inr (.inl (fun _ => 0)))), (q44_50, .inl (k44_50, 671, .inl (fun _ => 0)))] := hD
  have hK : va_K (dC, dI) vwCl [(k8_9, .byte), (k8_50, .int), (k17_50, .int), (k26_50, .boolean), (k35_50, .long), (k44_50, .boolean)] s := hK
  refine W.widen (k := 10) (n := 7472) (by decide) (by decide) ?_
  refine va_putF (D := (dC, dI)) (ci := 4) (v := .ref q31) (ty := (.object "ConditionMill$Reckoner")) (C := R_M) (T := T_M) (N := 5) hx hb hts in_M ty_M ty_M_ok nm_M hown hK hP hD hS 0 rfl rfl 2 (by decide) (hts _ tw_256) (fun _ h9 => h9) rfl hin rfl (by decide +kernel) rfl rfl (Nat.le_of_ble_eq_true rfl) d_M_init_53 (fun H locs hP hD hS => ?_)
  have hP : va_P (dC, dI) vwCl [(h0, .inr (4, [.ref q5, .ref q16, .ref q31, .long 0, .int 0])), (q5, .inr (2, [.ref q8_9, .int 0])), (q8_9, .inl (k8_9, 4096, .inl (fun _ => 0))), (q16, .inr (3, [.ref q5, .int 0, .int 0, .int 0, .int 0, .int 0])), (q39, .inr (0, [.ref q5, .long 0, .int 0])), (q31, .inr (1, [.ref q16, .ref q39, .ref q8_50, .ref q17_50, .ref q26_50, .ref q35_50, .ref q44_50, .int 0, .int 0, .int 0, .int 0, .int 0, .int 0])), (q8_50, .inl (k8_50, 670, .inl (fun _ => 0))), (q17_50, .inl (k17_50, 670, .inl (fun _ => 0))), (q26_50, .inl (k26_50, 670, .inl (fun _ => 0))), (q35_50, .inl (k35_50, 671, .inr (.inl (fun _ => 0)))), (q44_50, .inl (k44_50, 671, .inl (fun _ => 0)))] H := hP
  have hD : va_D A [(h0, .inr (4, [.ref q5, .ref q16, .ref q31, .long 0, .int 0])), (q5, .inr (2, [.ref q8_9, .int 0])), (q8_9, .inl (k8_9, 4096, .inl (fun _ => 0))), (q16, .inr (3, [.ref q5, .int 0, .int 0, .int 0, .int 0, .int 0])), (q39, .inr (0, [.ref q5, .long 0, .int 0])), (q31, .inr (1, [.ref q16, .ref q39, .ref q8_50, .ref q17_50, .ref q26_50, .ref q35_50, .ref q44_50, .int 0, .int 0, .int 0, .int 0, .int 0, .int 0])), (q8_50, .inl (k8_50, 670, .inl (fun _ => 0))), (q17_50, .inl (k17_50, 670, .inl (fun _ => 0))), (q26_50, .inl (k26_50, 670, .inl (fun _ => 0))), (q35_50, .inl (k35_50, 671, .inr (.inl (fun _ => 0)))), (q44_50, .inl (k44_50, 671, .inl (fun _ => 0)))] := hD
  have hP9 := hP.sub (ws' := [(h0, .inr (4, [.ref q5, .ref q16, .ref q31, .long 0, .int 0])), (q5, .inr (2, [.ref q8_9, .int 0])), (q8_9, .inl (k8_9, 4096, .inl (fun _ => 0))), (q16, .inr (3, [.ref q5, .int 0, .int 0, .int 0, .int 0, .int 0])), (q39, .inr (0, [.ref q5, .long 0, .int 0])), (q31, .inr (1, [.ref q16, .ref q39, .ref q8_50, .ref q17_50, .ref q26_50, .ref q35_50, .ref q44_50, .int 0, .int 0, .int 0, .int 0, .int 0, .int 0])), (q8_50, .inl (k8_50, 670, .inl (fun _ => 0))), (q17_50, .inl (k17_50, 670, .inl (fun _ => 0))), (q26_50, .inl (k26_50, 670, .inl (fun _ => 0))), (q35_50, .inl (k35_50, 671, .inr (.inl (fun _ => 0)))), (q44_50, .inl (k44_50, 671, .inl (fun _ => 0)))]) [0, 1, 2, 3, 4, 5, 6, 7, 8, 9, 10] rfl
  have hD9 := hD.sub (ws' := [(h0, .inr (4, [.ref q5, .ref q16, .ref q31, .long 0, .int 0])), (q5, .inr (2, [.ref q8_9, .int 0])), (q8_9, .inl (k8_9, 4096, .inl (fun _ => 0))), (q16, .inr (3, [.ref q5, .int 0, .int 0, .int 0, .int 0, .int 0])), (q39, .inr (0, [.ref q5, .long 0, .int 0])), (q31, .inr (1, [.ref q16, .ref q39, .ref q8_50, .ref q17_50, .ref q26_50, .ref q35_50, .ref q44_50, .int 0, .int 0, .int 0, .int 0, .int 0, .int 0])), (q8_50, .inl (k8_50, 670, .inl (fun _ => 0))), (q17_50, .inl (k17_50, 670, .inl (fun _ => 0))), (q26_50, .inl (k26_50, 670, .inl (fun _ => 0))), (q35_50, .inl (k35_50, 671, .inr (.inl (fun _ => 0)))), (q44_50, .inl (k44_50, 671, .inl (fun _ => 0)))]) [0, 1, 2, 3, 4, 5, 6, 7, 8, 9, 10] (by decide) rfl
  exact W.vret hx hb hr (fun t ht hW => ⟨⟨(q5, q8_9, k8_9, q16, q31, q39, q8_50, k8_50, q17_50, k17_50, q26_50, k26_50, q35_50, k35_50, q44_50, k44_50), rfl, trivial, by rw [ht]; exact hP9, va_K.moved hW.alike hK, hD9⟩, hS.F ht⟩) hS.2.2 d_M_init_56
