abbrev c_R_init : ByteArray := prog_8_method_1_code
def y_R_init : MethodName := ⟨R_R, "<init>", "()V"⟩
def ws_R_init : List Cond := Cond.code y_R_init c_R_init 1 none :: TB
theorem hd_R_init : (y_R_init).cls ≠ "java/lang/invoke/MethodHandle" ∧ (y_R_init).cls ≠ "java/lang/invoke/VarHandle" ∧ (parseMethodDescriptor (y_R_init).desc).map (fun d => d.parameters.length) = some 0 := by decide +kernel
theorem ux_168 : (.methodLink R_R 1 objectInit) ∈ TB := tb_i 466 (by decide +kernel) rfl
theorem ux_169 : (.instanceMethod objectInit) ∈ TB := tb_i 21 (by decide +kernel) rfl
theorem ux_170 : (.code objectInit ⟨#[0xb1]⟩ 1 none) ∈ TB := tb_i 22 (by decide +kernel) rfl
theorem ux_171 : (.arrayClass .byte) ∈ TB := tb_i 38 (by decide +kernel) rfl
theorem ux_172 : (.arrayClass .int) ∈ TB := tb_i 136 (by decide +kernel) rfl
theorem ux_173 : (.arrayClass .long) ∈ TB := tb_i 138 (by decide +kernel) rfl
theorem ux_174 : (.arrayClass .boolean) ∈ TB := tb_i 137 (by decide +kernel) rfl
theorem d_R_init_0 : decode c_R_init 0 = .ok (.aload_n 0, 1) := by decide +kernel
theorem d_R_init_1 : decode c_R_init 1 = .ok (.invokespecial 1, 3) := by decide +kernel
theorem d_R_init_4 : decode c_R_init 4 = .ok (.aload_n 0, 1) := by decide +kernel
theorem d_R_init_5 : decode c_R_init 5 = .ok (.sipush 4096, 3) := by decide +kernel
theorem d_R_init_8 : decode c_R_init 8 = .ok (.newarray .byte, 2) := by decide +kernel
theorem d_R_init_10 : decode c_R_init 10 = .ok (.putfield 9, 3) := by decide +kernel
theorem d_R_init_13 : decode c_R_init 13 = .ok (.aload_n 0, 1) := by decide +kernel
theorem d_R_init_14 : decode c_R_init 14 = .ok (.sipush 4096, 3) := by decide +kernel
theorem d_R_init_17 : decode c_R_init 17 = .ok (.newarray .int, 2) := by decide +kernel
theorem d_R_init_19 : decode c_R_init 19 = .ok (.putfield 13, 3) := by decide +kernel
theorem d_R_init_22 : decode c_R_init 22 = .ok (.aload_n 0, 1) := by decide +kernel
theorem d_R_init_23 : decode c_R_init 23 = .ok (.sipush 4096, 3) := by decide +kernel
theorem d_R_init_26 : decode c_R_init 26 = .ok (.newarray .int, 2) := by decide +kernel
theorem d_R_init_28 : decode c_R_init 28 = .ok (.putfield 17, 3) := by decide +kernel
theorem d_R_init_31 : decode c_R_init 31 = .ok (.aload_n 0, 1) := by decide +kernel
theorem d_R_init_32 : decode c_R_init 32 = .ok (.sipush 800, 3) := by decide +kernel
theorem d_R_init_35 : decode c_R_init 35 = .ok (.newarray .int, 2) := by decide +kernel
theorem d_R_init_37 : decode c_R_init 37 = .ok (.putfield 20, 3) := by decide +kernel
theorem d_R_init_40 : decode c_R_init 40 = .ok (.aload_n 0, 1) := by decide +kernel
theorem d_R_init_41 : decode c_R_init 41 = .ok (.sipush 800, 3) := by decide +kernel
theorem d_R_init_44 : decode c_R_init 44 = .ok (.newarray .long, 2) := by decide +kernel
theorem d_R_init_46 : decode c_R_init 46 = .ok (.putfield 23, 3) := by decide +kernel
theorem d_R_init_49 : decode c_R_init 49 = .ok (.aload_n 0, 1) := by decide +kernel
theorem d_R_init_50 : decode c_R_init 50 = .ok (.sipush 800, 3) := by decide +kernel
theorem d_R_init_53 : decode c_R_init 53 = .ok (.newarray .boolean, 2) := by decide +kernel
theorem d_R_init_55 : decode c_R_init 55 = .ok (.putfield 27, 3) := by decide +kernel
theorem d_R_init_58 : decode c_R_init 58 = .ok (.return_, 1) := by decide +kernel
set_option maxHeartbeats 4000000 in
set_option maxRecDepth 100000 in
theorem i_R_init (l : Launch) (dC : Nat → ClassId) (dI : Nat → Nat → Nat) (h0 sz : Nat)  : Met l y_R_init ws_R_init ({ frames := 1, cells := 6, slots := 14688, locals := 12 } : Room) (va_Pc [.ref h0] (fun U => U.heap.size = sz ∧ va_P (dC, dI) vwCl [(h0, .inr (5, [.int 0, .null, .long 0, .int 0, .int 0, .null, .null, .int 0, .int 0, .int 0, .int 0, .int 0, .int 0, .null, .null, .null]))] U.heap ∧ va_K (dC, dI) vwCl [] U ∧ va_D (fun _ => True) [(h0, .inr (5, [.int 0, .null, .long 0, .int 0, .int 0, .null, .null, .int 0, .int 0, .int 0, .int 0, .int 0, .int 0, .null, .null, .null]))])) (va_Qv (fun _ : Nat × ClassId × Nat × ClassId × Nat × ClassId × Nat × ClassId × Nat × ClassId × Nat × ClassId => True) (fun u t => va_P (dC, dI) vwCl [(h0, .inr (5, [.int 0, .ref u.1, .long 0, .int 0, .int 0, .ref u.2.2.1, .ref u.2.2.2.2.1, .int 0, .int 0, .int 0, .int 0, .int 0, .int 0, .ref u.2.2.2.2.2.2.1, .ref u.2.2.2.2.2.2.2.2.1, .ref u.2.2.2.2.2.2.2.2.2.2.1])), (u.1, .inl (u.2.1, 4096, .inl (fun _ => 0))), (u.2.2.1, .inl (u.2.2.2.1, 4096, .inl (fun _ => 0))), (u.2.2.2.2.1, .inl (u.2.2.2.2.2.1, 4096, .inl (fun _ => 0))), (u.2.2.2.2.2.2.1, .inl (u.2.2.2.2.2.2.2.1, 800, .inl (fun _ => 0))), (u.2.2.2.2.2.2.2.2.1, .inl (u.2.2.2.2.2.2.2.2.2.1, 800, .inr (.inl (fun _ => 0)))), (u.2.2.2.2.2.2.2.2.2.2.1, .inl (u.2.2.2.2.2.2.2.2.2.2.2, 800, .inl (fun _ => 0)))] t.heap ∧ va_K (dC, dI) vwCl [(u.2.1, .byte), (u.2.2.2.1, .int), (u.2.2.2.2.2.1, .int), (u.2.2.2.2.2.2.2.1, .int), (u.2.2.2.2.2.2.2.2.2.1, .long), (u.2.2.2.2.2.2.2.2.2.2.2, .boolean)] t ∧ va_D (va_A [(h0, .inr (5, [.int 0, .null, .long 0, .int 0, .int 0, .null, .null, .int 0, .int 0, .int 0, .int 0, .int 0, .int 0, .null, .null, .null]))] sz) [(h0, .inr (5, [.int 0, .ref u.1, .long 0, .int 0, .int 0, .ref u.2.2.1, .ref u.2.2.2.2.1, .int 0, .int 0, .int 0, .int 0, .int 0, .int 0, .ref u.2.2.2.2.2.2.1, .ref u.2.2.2.2.2.2.2.2.1, .ref u.2.2.2.2.2.2.2.2.2.2.1])), (u.1, .inl (u.2.1, 4096, .inl (fun _ => 0))), (u.2.2.1, .inl (u.2.2.2.1, 4096, .inl (fun _ => 0))), (u.2.2.2.2.1, .inl (u.2.2.2.2.2.1, 4096, .inl (fun _ => 0))), (u.2.2.2.2.2.2.1, .inl (u.2.2.2.2.2.2.2.1, 800, .inl (fun _ => 0))), (u.2.2.2.2.2.2.2.2.1, .inl (u.2.2.2.2.2.2.2.2.2.1, 800, .inr (.inl (fun _ => 0)))), (u.2.2.2.2.2.2.2.2.2.2.1, .inl (u.2.2.2.2.2.2.2.2.2.2.2, 800, .inl (fun _ => 0)))]) (va_A [(h0, .inr (5, [.int 0, .null, .long 0, .int 0, .int 0, .null, .null, .int 0, .int 0, .int 0, .int 0, .int 0, .int 0, .null, .null, .null]))] sz)) 6 14688 (va_A [(h0, .inr (5, [.int 0, .null, .long 0, .int 0, .int 0, .null, .null, .int 0, .int 0, .int 0, .int 0, .int 0, .int 0, .null, .null, .null]))] sz) := by
  refine Met.ofW (cc := c_R_init) (maxL := 1) (ret := none) (by decide) rfl ?_
  intro p e s m args below meth c s₁ B hml hv
  obtain ⟨rfl, hsz, hP, hK, hD0⟩ := hv
  have hx := B.exec
  have hb := B.bytes
  have hr := B.returns
  have hts : ∀ w ∈ TB, w.before _ s = true := fun w h => atoms_spec (ws := ws_R_init) B.pre w (List.mem_cons_of_mem _ h)
  have hown : s.vm.findClass R_R = some m.cls := findClass_of_methodNamed B.named
  have hlocks := B.notSynchronized
  have hin : meth.name = "<init>" := (name_of_methodNamed B.named B.method).1
  subst hsz
  have hD := hD0.self (sz := s.heap.size)
  generalize hAe : va_A [(h0, .inr (5, [.int 0, .null, .long 0, .int 0, .int 0, .null, .null, .int 0, .int 0, .int 0, .int 0, .int 0, .int 0, .null, .null, .null]))] s.heap.size = A at hD ⊢
  have hA : ∀ q : Nat, s.heap.size ≤ q → A q := fun q h => by rw [← hAe]; exact Or.inr h
  have hS : va_S A s.heap s.heap [] := va_S.rf
  have hP : va_P (dC, dI) vwCl [(h0, .inr (5, [.int 0, .null, .long 0, .int 0, .int 0, .null, .null, .int 0, .int 0, .int 0, .int 0, .int 0, .int 0, .null, .null, .null]))] s.heap := hP
  have hl := lv_entry ([.ref h0]) (n := 1) (Nat.le_of_ble_eq_true rfl)
  rw [lg_entry_eq]
  generalize (lg_sl ([.ref h0]) ++ List.replicate (1 - (lg_sl ([.ref h0])).length) Slot.unset).toArray = ls at hl ⊢
  have hl : lv_has ls 1 [(0, .ref h0)] := hl
  refine lv_aload_n hx hb d_R_init_0 rfl (lv_at hl 0 rfl) ?_
  refine W.objInit hx hb hown (hts _ ux_168) (hts _ ux_169) (hts _ ux_170) rfl (by rw [hml]; exact hl.1) rfl d_R_init_1 (Nat.le_of_ble_eq_true rfl) (Nat.le_of_ble_eq_true rfl) ?_
  refine W.eq (g2 := F0 m 4 ls []) rfl ?_
  refine lv_aload_n hx hb d_R_init_4 rfl (lv_at hl 0 rfl) ?_
  refine lv_sipush (v := 4096) hx hb d_R_init_5 (by decide) ?_
  refine va_newa (atype := .byte) (N' := 4096) (a0 := (4096, .inl (fun _ => 0))) (ty := .byte) (n := 4096) hx hb (hts _ ux_171) rfl hK hP hD hS hA (fun _ => rfl) (by decide) (by decide) (by decide) (show 1 ≤ 6 from by decide) (show 4096 ≤ 14688 from by decide) d_R_init_8 (fun q8 k8 H hK hP hD hS => ?_)
  have hP : va_P (dC, dI) vwCl [(h0, .inr (5, [.int 0, .null, .long 0, .int 0, .int 0, .null, .null, .int 0, .int 0, .int 0, .int 0, .int 0, .int 0, .null, .null, .null])), (q8, .inl (k8, 4096, .inl (fun _ => 0)))] H := hP
  have hD : va_D A [(h0, .inr (5, [.int 0, .null, .long 0, .int 0, .int 0, .null, .null, .int 0, .int 0, .int 0, .int 0, .int 0, .int 0, .null, .null, .null])), (q8, .inl (k8, 4096, .inl (fun _ => 0)))] := hD
  have hK : va_K (dC, dI) vwCl [(k8, .byte)] s := hK
  refine W.widen (k := 1) (n := 4096) (by decide) (by decide) ?_
  refine va_putF (D := (dC, dI)) (ci := 5) (v := .ref q8) (ty := (.array .byte)) (C := R_R) (T := T_R) (N := 16) hx hb hts in_R ty_R ty_R_ok nm_R hown hK hP hD hS 0 rfl rfl 1 (by decide) (hts _ ux_46) (fun _ h9 => h9) rfl hin rfl (by decide +kernel) rfl rfl (Nat.le_of_ble_eq_true rfl) d_R_init_10 (fun H locs hP hD hS => ?_)
  have hP : va_P (dC, dI) vwCl [(h0, .inr (5, [.int 0, .ref q8, .long 0, .int 0, .int 0, .null, .null, .int 0, .int 0, .int 0, .int 0, .int 0, .int 0, .null, .null, .null])), (q8, .inl (k8, 4096, .inl (fun _ => 0)))] H := hP
  have hD : va_D A [(h0, .inr (5, [.int 0, .ref q8, .long 0, .int 0, .int 0, .null, .null, .int 0, .int 0, .int 0, .int 0, .int 0, .int 0, .null, .null, .null])), (q8, .inl (k8, 4096, .inl (fun _ => 0)))] := hD
  refine lv_aload_n hx hb d_R_init_13 rfl (lv_at hl 0 rfl) ?_
  refine lv_sipush (v := 4096) hx hb d_R_init_14 (by decide) ?_
  refine va_newa (atype := .int) (N' := 4096) (a0 := (4096, .inl (fun _ => 0))) (ty := .int) (n := 4096) hx hb (hts _ ux_172) rfl hK hP hD hS hA (fun _ => rfl) (by decide) (by decide) (by decide) (show 2 ≤ 6 from by decide) (show 8192 ≤ 14688 from by decide) d_R_init_17 (fun q17 k17 H hK hP hD hS => ?_)
  have hP : va_P (dC, dI) vwCl [(h0, .inr (5, [.int 0, .ref q8, .long 0, .int 0, .int 0, .null, .null, .int 0, .int 0, .int 0, .int 0, .int 0, .int 0, .null, .null, .null])), (q8, .inl (k8, 4096, .inl (fun _ => 0))), (q17, .inl (k17, 4096, .inl (fun _ => 0)))] H := hP
  have hD : va_D A [(h0, .inr (5, [.int 0, .ref q8, .long 0, .int 0, .int 0, .null, .null, .int 0, .int 0, .int 0, .int 0, .int 0, .int 0, .null, .null, .null])), (q8, .inl (k8, 4096, .inl (fun _ => 0))), (q17, .inl (k17, 4096, .inl (fun _ => 0)))] := hD
  have hK : va_K (dC, dI) vwCl [(k8, .byte), (k17, .int)] s := hK
  refine W.widen (k := 2) (n := 8192) (by decide) (by decide) ?_
  refine va_putF (D := (dC, dI)) (ci := 5) (v := .ref q17) (ty := (.array .int)) (C := R_R) (T := T_R) (N := 16) hx hb hts in_R ty_R ty_R_ok nm_R hown hK hP hD hS 0 rfl rfl 5 (by decide) (hts _ ux_73) (fun _ h9 => h9) rfl hin rfl (by decide +kernel) rfl rfl (Nat.le_of_ble_eq_true rfl) d_R_init_19 (fun H locs hP hD hS => ?_)
  have hP : va_P (dC, dI) vwCl [(h0, .inr (5, [.int 0, .ref q8, .long 0, .int 0, .int 0, .ref q17, .null, .int 0, .int 0, .int 0, .int 0, .int 0, .int 0, .null, .null, .null])), (q8, .inl (k8, 4096, .inl (fun _ => 0))), (q17, .inl (k17, 4096, .inl (fun _ => 0)))] H := hP
  have hD : va_D A [(h0, .inr (5, [.int 0, .ref q8, .long 0, .int 0, .int 0, .ref q17, .null, .int 0, .int 0, .int 0, .int 0, .int 0, .int 0, .null, .null, .null])), (q8, .inl (k8, 4096, .inl (fun _ => 0))), (q17, .inl (k17, 4096, .inl (fun _ => 0)))] := hD
  refine lv_aload_n hx hb d_R_init_22 rfl (lv_at hl 0 rfl) ?_
  refine lv_sipush (v := 4096) hx hb d_R_init_23 (by decide) ?_
  refine va_newa (atype := .int) (N' := 4096) (a0 := (4096, .inl (fun _ => 0))) (ty := .int) (n := 4096) hx hb (hts _ ux_172) rfl hK hP hD hS hA (fun _ => rfl) (by decide) (by decide) (by decide) (show 3 ≤ 6 from by decide) (show 12288 ≤ 14688 from by decide) d_R_init_26 (fun q26 k26 H hK hP hD hS => ?_)
  have hP : va_P (dC, dI) vwCl [(h0, .inr (5, [.int 0, .ref q8, .long 0, .int 0, .int 0, .ref q17, .null, .int 0, .int 0, .int 0, .int 0, .int 0, .int 0, .null, .null, .null])), (q8, .inl (k8, 4096, .inl (fun _ => 0))), (q17, .inl (k17, 4096, .inl (fun _ => 0))), (q26, .inl (k26, 4096, .inl (fun _ => 0)))] H := hP
  have hD : va_D A [(h0, .inr (5, [.int 0, .ref q8, .long 0, .int 0, .int 0, .ref q17, .null, .int 0, .int 0, .int 0, .int 0, .int 0, .int 0, .null, .null, .null])), (q8, .inl (k8, 4096, .inl (fun _ => 0))), (q17, .inl (k17, 4096, .inl (fun _ => 0))), (q26, .inl (k26, 4096, .inl (fun _ => 0)))] := hD
  have hK : va_K (dC, dI) vwCl [(k8, .byte), (k17, .int), (k26, .int)] s := hK
  refine W.widen (k := 3) (n := 12288) (by decide) (by decide) ?_
  refine va_putF (D := (dC, dI)) (ci := 5) (v := .ref q26) (ty := (.array .int)) (C := R_R) (T := T_R) (N := 16) hx hb hts in_R ty_R ty_R_ok nm_R hown hK hP hD hS 0 rfl rfl 6 (by decide) (hts _ ux_74) (fun _ h9 => h9) rfl hin rfl (by decide +kernel) rfl rfl (Nat.le_of_ble_eq_true rfl) d_R_init_28 (fun H locs hP hD hS => ?_)
  have hP : va_P (dC, dI) vwCl [(h0, .inr (5, [.int 0, .ref q8, .long 0, .int 0, .int 0, .ref q17, .ref q26, .int 0, .int 0, .int 0, .int 0, .int 0, .int 0, .null, .null, .null])), (q8, .inl (k8, 4096, .inl (fun _ => 0))), (q17, .inl (k17, 4096, .inl (fun _ => 0))), (q26, .inl (k26, 4096, .inl (fun _ => 0)))] H := hP
  have hD : va_D A [(h0, .inr (5, [.int 0, .ref q8, .long 0, .int 0, .int 0, .ref q17, .ref q26, .int 0, .int 0, .int 0, .int 0, .int 0, .int 0, .null, .null, .null])), (q8, .inl (k8, 4096, .inl (fun _ => 0))), (q17, .inl (k17, 4096, .inl (fun _ => 0))), (q26, .inl (k26, 4096, .inl (fun _ => 0)))] := hD
  refine lv_aload_n hx hb d_R_init_31 rfl (lv_at hl 0 rfl) ?_
  refine lv_sipush (v := 800) hx hb d_R_init_32 (by decide) ?_
  refine va_newa (atype := .int) (N' := 800) (a0 := (800, .inl (fun _ => 0))) (ty := .int) (n := 800) hx hb (hts _ ux_172) rfl hK hP hD hS hA (fun _ => rfl) (by decide) (by decide) (by decide) (show 4 ≤ 6 from by decide) (show 13088 ≤ 14688 from by decide) d_R_init_35 (fun q35 k35 H hK hP hD hS => ?_)
  have hP : va_P (dC, dI) vwCl [(h0, .inr (5, [.int 0, .ref q8, .long 0, .int 0, .int 0, .ref q17, .ref q26, .int 0, .int 0, .int 0, .int 0, .int 0, .int 0, .null, .null, .null])), (q8, .inl (k8, 4096, .inl (fun _ => 0))), (q17, .inl (k17, 4096, .inl (fun _ => 0))), (q26, .inl (k26, 4096, .inl (fun _ => 0))), (q35, .inl (k35, 800, .inl (fun _ => 0)))] H := hP
  have hD : va_D A [(h0, .inr (5, [.int 0, .ref q8, .long 0, .int 0, .int 0, .ref q17, .ref q26, .int 0, .int 0, .int 0, .int 0, .int 0, .int 0, .null, .null, .null])), (q8, .inl (k8, 4096, .inl (fun _ => 0))), (q17, .inl (k17, 4096, .inl (fun _ => 0))), (q26, .inl (k26, 4096, .inl (fun _ => 0))), (q35, .inl (k35, 800, .inl (fun _ => 0)))] := hD
  have hK : va_K (dC, dI) vwCl [(k8, .byte), (k17, .int), (k26, .int), (k35, .int)] s := hK
  refine W.widen (k := 4) (n := 13088) (by decide) (by decide) ?_
  refine va_putF (D := (dC, dI)) (ci := 5) (v := .ref q35) (ty := (.array .int)) (C := R_R) (T := T_R) (N := 16) hx hb hts in_R ty_R ty_R_ok nm_R hown hK hP hD hS 0 rfl rfl 13 (by decide) (hts _ ux_92) (fun _ h9 => h9) rfl hin rfl (by decide +kernel) rfl rfl (Nat.le_of_ble_eq_true rfl) d_R_init_37 (fun H locs hP hD hS => ?_)
  have hP : va_P (dC, dI) vwCl [(h0, .inr (5, [.int 0, .ref q8, .long 0, .int 0, .int 0, .ref q17, .ref q26, .int 0, .int 0, .int 0, .int 0, .int 0, .int 0, .ref q35, .null, .null])), (q8, .inl (k8, 4096, .inl (fun _ => 0))), (q17, .inl (k17, 4096, .inl (fun _ => 0))), (q26, .inl (k26, 4096, .inl (fun _ => 0))), (q35, .inl (k35, 800, .inl (fun _ => 0)))] H := hP
  have hD : va_D A [(h0, .inr (5, [.int 0, .ref q8, .long 0, .int 0, .int 0, .ref q17, .ref q26, .int 0, .int 0, .int 0, .int 0, .int 0, .int 0, .ref q35, .null, .null])), (q8, .inl (k8, 4096, .inl (fun _ => 0))), (q17, .inl (k17, 4096, .inl (fun _ => 0))), (q26, .inl (k26, 4096, .inl (fun _ => 0))), (q35, .inl (k35, 800, .inl (fun _ => 0)))] := hD
  refine lv_aload_n hx hb d_R_init_40 rfl (lv_at hl 0 rfl) ?_
  refine lv_sipush (v := 800) hx hb d_R_init_41 (by decide) ?_
  refine va_newa (atype := .long) (N' := 800) (a0 := (800, .inr (.inl (fun _ => 0)))) (ty := .long) (n := 800) hx hb (hts _ ux_173) rfl hK hP hD hS hA (fun _ => rfl) (by decide) (by decide) (by decide) (show 5 ≤ 6 from by decide) (show 13888 ≤ 14688 from by decide) d_R_init_44 (fun q44 k44 H hK hP hD hS => ?_)
  have hP : va_P (dC, dI) vwCl [(h0, .inr (5, [.int 0, .ref q8, .long 0, .int 0, .int 0, .ref q17, .ref q26, .int 0, .int 0, .int 0, .int 0, .int 0, .int 0, .ref q35, .null, .null])), (q8, .inl (k8, 4096, .inl (fun _ => 0))), (q17, .inl (k17, 4096, .inl (fun _ => 0))), (q26, .inl (k26, 4096, .inl (fun _ => 0))), (q35, .inl (k35, 800, .inl (fun _ => 0))), (q44, .inl (k44, 800, .inr (.inl (fun _ => 0))))] H := hP
  have hD : va_D A [(h0, .inr (5, [.int 0, .ref q8, .long 0, .int 0, .int 0, .ref q17, .ref q26, .int 0, .int 0, .int 0, .int 0, .int 0, .int 0, .ref q35, .null, .null])), (q8, .inl (k8, 4096, .inl (fun _ => 0))), (q17, .inl (k17, 4096, .inl (fun _ => 0))), (q26, .inl (k26, 4096, .inl (fun _ => 0))), (q35, .inl (k35, 800, .inl (fun _ => 0))), (q44, .inl (k44, 800, .inr (.inl (fun _ => 0))))] := hD
  have hK : va_K (dC, dI) vwCl [(k8, .byte), (k17, .int), (k26, .int), (k35, .int), (k44, .long)] s := hK
  refine W.widen (k := 5) (n := 13888) (by decide) (by decide) ?_
  refine va_putF (D := (dC, dI)) (ci := 5) (v := .ref q44) (ty := (.array .long)) (C := R_R) (T := T_R) (N := 16) hx hb hts in_R ty_R ty_R_ok nm_R hown hK hP hD hS 0 rfl rfl 14 (by decide) (hts _ ux_93) (fun _ h9 => h9) rfl hin rfl (by decide +kernel) rfl rfl (Nat.le_of_ble_eq_true rfl) d_R_init_46 (fun H locs hP hD hS => ?_)
  have hP : va_P (dC, dI) vwCl [(h0, .inr (5, [.int 0, .ref q8, .long 0, .int 0, .int 0, .ref q17, .ref q26, .int 0, .int 0, .int 0, .int 0, .int 0, .int 0, .ref q35, .ref q44, .null])), (q8, .inl (k8, 4096, .inl (fun _ => 0))), (q17, .inl (k17, 4096, .inl (fun _ => 0))), (q26, .inl (k26, 4096, .inl (fun _ => 0))), (q35, .inl (k35, 800, .inl (fun _ => 0))), (q44, .inl (k44, 800, .inr (.inl (fun _ => 0))))] H := hP
  have hD : va_D A [(h0, .inr (5, [.int 0, .ref q8, .long 0, .int 0, .int 0, .ref q17, .ref q26, .int 0, .int 0, .int 0, .int 0, .int 0, .int 0, .ref q35, .ref q44, .null])), (q8, .inl (k8, 4096, .inl (fun _ => 0))), (q17, .inl (k17, 4096, .inl (fun _ => 0))), (q26, .inl (k26, 4096, .inl (fun _ => 0))), (q35, .inl (k35, 800, .inl (fun _ => 0))), (q44, .inl (k44, 800, .inr (.inl (fun _ => 0))))] := hD
  refine lv_aload_n hx hb d_R_init_49 rfl (lv_at hl 0 rfl) ?_
  refine lv_sipush (v := 800) hx hb d_R_init_50 (by decide) ?_
  refine va_newa (atype := .boolean) (N' := 800) (a0 := (800, .inl (fun _ => 0))) (ty := .boolean) (n := 800) hx hb (hts _ ux_174) rfl hK hP hD hS hA (fun _ => rfl) (by decide) (by decide) (by decide) (show 6 ≤ 6 from by decide) (show 14688 ≤ 14688 from by decide) d_R_init_53 (fun q53 k53 H hK hP hD hS => ?_)
  have hP : va_P (dC, dI) vwCl [(h0, .inr (5, [.int 0, .ref q8, .long 0, .int 0, .int 0, .ref q17, .ref q26, .int 0, .int 0, .int 0, .int 0, .int 0, .int 0, .ref q35, .ref q44, .null])), (q8, .inl (k8, 4096, .inl (fun _ => 0))), (q17, .inl (k17, 4096, .inl (fun _ => 0))), (q26, .inl (k26, 4096, .inl (fun _ => 0))), (q35, .inl (k35, 800, .inl (fun _ => 0))), (q44, .inl (k44, 800, .inr (.inl (fun _ => 0)))), (q53, .inl (k53, 800, .inl (fun _ => 0)))] H := hP
  have hD : va_D A [(h0, .inr (5, [.int 0, .ref q8, .long 0, .int 0, .int 0, .ref q17, .ref q26, .int 0, .int 0, .int 0, .int 0, .int 0, .int 0, .ref q35, .ref q44, .null])), (q8, .inl (k8, 4096, .inl (fun _ => 0))), (q17, .inl (k17, 4096, .inl (fun _ => 0))), (q26, .inl (k26, 4096, .inl (fun _ => 0))), (q35, .inl (k35, 800, .inl (fun _ => 0))), (q44, .inl (k44, 800, .inr (.inl (fun _ => 0)))), (q53, .inl (k53, 800, .inl (fun _ => 0)))] := hD
  have hK : va_K (dC, dI) vwCl [(k8, .byte), (k17, .int), (k26, .int), (k35, .int), (k44, .long), (k53, .boolean)] s := hK
  refine W.widen (k := 6) (n := 14688) (by decide) (by decide) ?_
  refine va_putF (D := (dC, dI)) (ci := 5) (v := .ref q53) (ty := (.array .boolean)) (C := R_R) (T := T_R) (N := 16) hx hb hts in_R ty_R ty_R_ok nm_R hown hK hP hD hS 0 rfl rfl 15 (by decide) (hts _ ux_101) (fun _ h9 => h9) rfl hin rfl (by decide +kernel) rfl rfl (Nat.le_of_ble_eq_true rfl) d_R_init_55 (fun H locs hP hD hS => ?_)
  have hP : va_P (dC, dI) vwCl [(h0, .inr (5, [.int 0, .ref q8, .long 0, .int 0, .int 0, .ref q17, .ref q26, .int 0, .int 0, .int 0, .int 0, .int 0, .int 0, .ref q35, .ref q44, .ref q53])), (q8, .inl (k8, 4096, .inl (fun _ => 0))), (q17, .inl (k17, 4096, .inl (fun _ => 0))), (q26, .inl (k26, 4096, .inl (fun _ => 0))), (q35, .inl (k35, 800, .inl (fun _ => 0))), (q44, .inl (k44, 800, .inr (.inl (fun _ => 0)))), (q53, .inl (k53, 800, .inl (fun _ => 0)))] H := hP
  have hD : va_D A [(h0, .inr (5, [.int 0, .ref q8, .long 0, .int 0, .int 0, .ref q17, .ref q26, .int 0, .int 0, .int 0, .int 0, .int 0, .int 0, .ref q35, .ref q44, .ref q53])), (q8, .inl (k8, 4096, .inl (fun _ => 0))), (q17, .inl (k17, 4096, .inl (fun _ => 0))), (q26, .inl (k26, 4096, .inl (fun _ => 0))), (q35, .inl (k35, 800, .inl (fun _ => 0))), (q44, .inl (k44, 800, .inr (.inl (fun _ => 0)))), (q53, .inl (k53, 800, .inl (fun _ => 0)))] := hD
  have hP9 := hP.sub (ws' := [(h0, .inr (5, [.int 0, .ref q8, .long 0, .int 0, .int 0, .ref q17, .ref q26, .int 0, .int 0, .int 0, .int 0, .int 0, .int 0, .ref q35, .ref q44, .ref q53])), (q8, .inl (k8, 4096, .inl (fun _ => 0))), (q17, .inl (k17, 4096, .inl (fun _ => 0))), (q26, .inl (k26, 4096, .inl (fun _ => 0))), (q35, .inl (k35, 800, .inl (fun _ => 0))), (q44, .inl (k44, 800, .inr (.inl (fun _ => 0)))), (q53, .inl (k53, 800, .inl (fun _ => 0)))]) [0, 1, 2, 3, 4, 5, 6] rfl
  have hD9 := hD.sub (ws' := [(h0, .inr (5, [.int 0, .ref q8, .long 0, .int 0, .int 0, .ref q17, .ref q26, .int 0, .int 0, .int 0, .int 0, .int 0, .int 0, .ref q35, .ref q44, .ref q53])), (q8, .inl (k8, 4096, .inl (fun _ => 0))), (q17, .inl (k17, 4096, .inl (fun _ => 0))), (q26, .inl (k26, 4096, .inl (fun _ => 0))), (q35, .inl (k35, 800, .inl (fun _ => 0))), (q44, .inl (k44, 800, .inr (.inl (fun _ => 0)))), (q53, .inl (k53, 800, .inl (fun _ => 0)))]) [0, 1, 2, 3, 4, 5, 6] (by decide) rfl
  exact W.vret hx hb hr (fun t ht hW => ⟨⟨(q8, k8, q17, k17, q26, k26, q35, k35, q44, k44, q53, k53), rfl, trivial, by rw [ht]; exact hP9, va_K.moved hW.alike hK, hD9⟩, hS.F ht⟩) hS.2.2 d_R_init_58
