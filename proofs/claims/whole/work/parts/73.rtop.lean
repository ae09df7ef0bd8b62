abbrev wd_R_feed (ad : Nat → Nat) (ck : Nat → ClassId) (rsize : Int32) (rval : Int64) (risP : Int32) (cnt : Int32) (look : Int32) (bad : Int32) (byZ : Int32) (inr : Int32) (rpl : Int32) (hld : Int32) (store : Nat → Int32) : va_W := [(ad 11, .inr (5, [.int rsize, .ref (ad 12), .long rval, .int risP, .int cnt, .ref (ad 13), .ref (ad 14), .int look, .int bad, .int byZ, .int inr, .int rpl, .int hld, .ref (ad 15), .ref (ad 16), .ref (ad 17)])), (ad 12, .inl (ck 6, 4096, .inl store))]
def w_R_feed_31 (post : Int32 → Int32 → (Nat → Int32) → Prop) (x1 : Int64) (x3 : Int32) (rval : Int64) (risP : Int32) (cnt : Int32) (look : Int32) (bad : Int32) (byZ : Int32) (inr : Int32) (rpl : Int32) (hld : Int32) : Nat → Int32 → Int32 → (Nat → Int32) → Prop
  | 0 => fun _ _ _ => False
  | n + 1 => fun x4 rsize store => (x3 ≤ x4 → (post rsize rsize store)) ∧ (¬ x3 ≤ x4 → (vp_in rsize 4096 ∧ (∀ store_6 : Nat → Int32, store_6 = upd store rsize.toNatClampNeg (vp_nar .byte (((x1 >>> ((8 * x4).toInt64 &&& 63)).toInt32).toInt8.toInt32)) → (∀ rsize_7 : Int32, rsize_7 = (rsize + 1) → (∀ x4_8 : Int32, x4_8 = x4 + 1 → (w_R_feed_31 post x1 x3 rval risP cnt look bad byZ inr rpl hld n x4_8 rsize_7 store_6))))))
def wp_R_feed (post : Int32 → Int32 → (Nat → Int32) → Prop) (rsize : Int32) (rval : Int64) (risP : Int32) (cnt : Int32) (look : Int32) (bad : Int32) (byZ : Int32) (inr : Int32) (rpl : Int32) (hld : Int32) (store : Nat → Int32) (p0 : Int64) (p1 : Int32) : Prop := (p1 < 1 → (post (-1) rsize store)) ∧ (¬ p1 < 1 → ((p1 ≤ 8 → (((rsize + p1) ≤ 4096 → (∃ fu31 : Nat, w_R_feed_31 post p0 p1 rval risP cnt look bad byZ inr rpl hld fu31 0 rsize store)) ∧ (¬ (rsize + p1) ≤ 4096 → (post (-2) rsize store)))) ∧ (¬ p1 ≤ 8 → (post (-1) rsize store))))
set_option maxHeartbeats 4000000 in
set_option maxRecDepth 100000 in
theorem kc_R_feed (l : Launch) (dC : Nat → ClassId) (dI : Nat → Nat → Nat) (ad : Nat → Nat) (ck : Nat → ClassId) (rsize : Int32) (rval : Int64) (risP : Int32) (cnt : Int32) (look : Int32) (bad : Int32) (byZ : Int32) (inr : Int32) (rpl : Int32) (hld : Int32) (store : Nat → Int32) (p0 : Int64) (p1 : Int32) {post : Int32 → Int32 → (Nat → Int32) → Prop} (hw : wp_R_feed post rsize rval risP cnt look bad byZ inr rpl hld store p0 p1) : k_Ci l y_R_feed ws_R_feed ({ frames := 0, cells := 0, slots := 0, locals := 0 } : Room) (dC, dI) vwCl (TYr ck) k_x0 [.ref (ad 11), .long p0, .int p1] (wd_R_feed ad ck rsize rval risP cnt look bad byZ inr rpl hld store) (fun (r : Int32) (u : Int32 × (Nat → Int32)) => post r u.1 u.2) (fun (u : Int32 × (Nat → Int32)) => wd_R_feed ad ck u.1 rval risP cnt look bad byZ inr rpl hld u.2) := by
  intro sz
  refine Met.ofW (cc := c_R_feed) (maxL := 5) (ret := (some .int)) (by decide) rfl ?_
  intro p e s m args below meth c s₁ B hml hv
  obtain ⟨rfl, hsz, hP, hK, hD0, hX⟩ := hv
  have hx := B.exec
  have hb := B.bytes
  have hr := B.returns
  have hts : ∀ w ∈ TB, w.before _ s = true := fun w h => atoms_spec (ws := ws_R_feed) B.pre w (List.mem_cons_of_mem _ h)
  have hown : s.vm.findClass R_R = some m.cls := findClass_of_methodNamed B.named
  have hlocks := B.notSynchronized
  subst hsz
  have hD := hD0.self (sz := s.heap.size)
  generalize hAe : va_A (wd_R_feed ad ck rsize rval risP cnt look bad byZ inr rpl hld store) s.heap.size = A at hD hX ⊢
  have hA : ∀ q : Nat, s.heap.size ≤ q → A q := fun q h => by rw [← hAe]; exact Or.inr h
  have hS : va_S A s.heap s.heap [] := va_S.rf
  have hP : va_P (dC, dI) vwCl (wd_R_feed ad ck rsize rval risP cnt look bad byZ inr rpl hld store) s.heap := hP
  have hl := lv_entry ([.ref (ad 11), .long p0, .int p1]) (n := 5) (Nat.le_of_ble_eq_true rfl)
  rw [lg_entry_eq]
  generalize (lg_sl ([.ref (ad 11), .long p0, .int p1]) ++ List.replicate (5 - (lg_sl ([.ref (ad 11), .long p0, .int p1])).length) Slot.unset).toArray = ls at hl ⊢
  have hl : lv_has ls 5 [(0, .ref (ad 11)), (1, .long p0), (3, .int p1)] := hl
  have L_31 : ∀ (x1 : Int64) (x3 : Int32) (rval : Int64) (risP : Int32) (cnt : Int32) (look : Int32) (bad : Int32) (byZ : Int32) (inr : Int32) (rpl : Int32) (hld : Int32) (n : Nat) (x4 : Int32) (rsize : Int32) (store : Nat → Int32) (H : Heap) (locs : List Loc) (ls : Array Slot), w_R_feed_31 post x1 x3 rval risP cnt look bad byZ inr rpl hld n x4 rsize store → va_P (dC, dI) vwCl (wd_R_feed ad ck rsize rval risP cnt look bad byZ inr rpl hld store) H → va_D A (wd_R_feed ad ck rsize rval risP cnt look bad byZ inr rpl hld store) → va_S A s.heap H locs → lv_has ls 5 [(0, .ref (ad 11)), (1, .long x1), (3, .int x3), (4, .int x4)] → W p l e (headSpec ws_R_feed ({ frames := 0, cells := 0, slots := 0, locals := 0 } : Room)).room s m ([.ref (ad 11), .long p0, .int p1] : List Value).toArray below meth c H locs 0 0 (k_Qi below (dC, dI) vwCl (TYr ck) A (fun (r : Int32) (u : Int32 × (Nat → Int32)) => post r u.1 u.2) (fun (u : Int32 × (Nat → Int32)) => wd_R_feed ad ck u.1 rval risP cnt look bad byZ inr rpl hld u.2) ([.ref (ad 11), .long p0, .int p1] : List Value).toArray s) (F0 m 31 ls []) := by
    intro x1 x3 rval risP cnt look bad byZ inr rpl hld n
    induction n with
    | zero =>
      intro x4 rsize store H locs ls hw
      exact False.elim hw
    | succ n ih =>
      intro x4 rsize store H locs ls hw hP hD hS hl
      refine lv_iload hx hb d_R_feed_31 (lv_at hl 3 rfl) ?_
      refine lv_iload_n hx hb d_R_feed_33 rfl (lv_at hl 2 rfl) ?_
      obtain ⟨hwt, hwf⟩ := hw
      refine lv_icmp_ge (tgt := 71) hx hb d_R_feed_34 (by decide) (fun c_4 => ?_) (fun c_4 => ?_)
      · have hw := hwt c_4
        refine lv_aload_n hx hb d_R_feed_71 rfl (lv_at hl 0 rfl) ?_
        refine va_get (D := (dC, dI)) (ci := 5) (v := .int rsize) (C := R_R) (T := T_R) (N := 16) hx hb hts in_R hown hK hP 0 rfl rfl 0 (by decide) (hts _ ux_69) (fun _ h9 => h9) rfl d_R_feed_72 ?_
        exact W.iret (v := rsize) hx hb hr (fun t ht hW => ⟨⟨rsize, (rsize, store), rfl, hw, by rw [ht]; exact hP, va_K.moved hW.alike hK, hD⟩, hS.F ht⟩) hS.2.2 d_R_feed_75
      · have hw := hwf c_4
        refine lv_aload_n hx hb d_R_feed_37 rfl (lv_at hl 0 rfl) ?_
        refine va_get (D := (dC, dI)) (ci := 5) (v := .ref (ad 12)) (C := R_R) (T := T_R) (N := 16) hx hb hts in_R hown hK hP 0 rfl rfl 1 (by decide) (hts _ ux_46) (fun _ h9 => h9) rfl d_R_feed_38 ?_
        refine lv_aload_n hx hb d_R_feed_41 rfl (lv_at hl 0 rfl) ?_
        refine va_get (D := (dC, dI)) (ci := 5) (v := .int rsize) (C := R_R) (T := T_R) (N := 16) hx hb hts in_R hown hK hP 0 rfl rfl 0 (by decide) (hts _ ux_69) (fun _ h9 => h9) rfl d_R_feed_42 ?_
        refine lv_lload_n hx hb d_R_feed_45 rfl (lv_at hl 1 rfl) ?_
        refine lv_bipush (v := 8) hx hb d_R_feed_46 (by decide) ?_
        refine lv_iload hx hb d_R_feed_48 (lv_at hl 3 rfl) ?_
        refine lv_imul hx hb d_R_feed_50 ?_
        refine lv_lshr (v := (x1 >>> ((8 * x4).toInt64 &&& 63))) hx hb d_R_feed_51 rfl ?_
        refine lv_l2i (v := (x1 >>> ((8 * x4).toInt64 &&& 63)).toInt32) hx hb d_R_feed_52 rfl ?_
        refine lv_i2b (v := ((x1 >>> ((8 * x4).toInt64 &&& 63)).toInt32).toInt8.toInt32) hx hb d_R_feed_53 rfl ?_
        obtain ⟨hi_5, hw⟩ := hw
        refine va_bast hx hb hK hP hD hS 1 0 rfl rfl hi_5 d_R_feed_54 (fun H locs hP hD hS => ?_)
        obtain ⟨store_6, estore_6⟩ : ∃ z : Nat → Int32, z = upd store rsize.toNatClampNeg (vp_nar .byte (((x1 >>> ((8 * x4).toInt64 &&& 63)).toInt32).toInt8.toInt32)) := ⟨_, rfl⟩
        have hw := hw store_6 estore_6
        have hP : va_P (dC, dI) vwCl (wd_R_feed ad ck rsize rval risP cnt look bad byZ inr rpl hld store_6) H := by rw [estore_6]; exact hP
        have hD : va_D A (wd_R_feed ad ck rsize rval risP cnt look bad byZ inr rpl hld store_6) := by rw [estore_6]; exact hD
        refine lv_aload_n hx hb d_R_feed_55 rfl (lv_at hl 0 rfl) ?_
        refine lv_dup hx hb d_R_feed_56 rfl ?_
        refine va_get (D := (dC, dI)) (ci := 5) (v := .int rsize) (C := R_R) (T := T_R) (N := 16) hx hb hts in_R hown hK hP 0 rfl rfl 0 (by decide) (hts _ ux_69) (fun _ h9 => h9) rfl d_R_feed_57 ?_
        refine lv_iconst (v := 1) hx hb d_R_feed_60 (by decide) ?_
        refine lv_iadd hx hb d_R_feed_61 ?_
        refine lv_topi (fun rsize_7 ersize_7 => ?_)
        have hw := hw rsize_7 ersize_7
        refine va_put (D := (dC, dI)) (ci := 5) (v := .int rsize_7) (ty := .int) (C := R_R) (T := T_R) (N := 16) hx hb hts in_R ty_R ty_R_ok nm_R hown hK hP hD hS 0 rfl rfl 0 (by decide) (hts _ ux_69) (fun _ h9 => h9) rfl (by decide +kernel) rfl rfl (Nat.le_of_ble_eq_true rfl) d_R_feed_62 (fun H locs hP hD hS => ?_)
        have hP : va_P (dC, dI) vwCl (wd_R_feed ad ck rsize_7 rval risP cnt look bad byZ inr rpl hld store_6) H := hP
        have hD : va_D A (wd_R_feed ad ck rsize_7 rval risP cnt look bad byZ inr rpl hld store_6) := hD
        obtain ⟨x4_8, ex4_8⟩ : ∃ y : Int32, y = x4 + 1 := ⟨_, rfl⟩
        have hw := hw x4_8 ex4_8
        refine lv_iinc (v := x4_8) (lv' := [(4, .int x4_8), (0, .ref (ad 11)), (1, .long x1), (3, .int x3)]) hx hb d_R_feed_65 hl (k := 3) rfl (by rw [ex4_8]; rfl) (by decide) rfl (fun ls hl => ?_)
        refine lv_goto (tgt := 31) hx hb d_R_feed_68 (by decide) ?_
        exact ih x4_8 rsize_7 store_6 _ _ _ hw hP hD hS (lv_sub hl [1, 2, 3, 0] rfl)
  refine lv_iload_n hx hb d_R_feed_0 rfl (lv_at hl 2 rfl) ?_
  refine lv_iconst (v := 1) hx hb d_R_feed_1 (by decide) ?_
  obtain ⟨hwt, hwf⟩ := hw
  refine lv_icmp_lt (tgt := 11) hx hb d_R_feed_2 (by decide) (fun c_1 => ?_) (fun c_1 => ?_)
  · have hw := hwt c_1
    refine lv_iconst (v := (-1)) hx hb d_R_feed_11 (by decide) ?_
    exact W.iret (v := (-1)) hx hb hr (fun t ht hW => ⟨⟨(-1), (rsize, store), rfl, hw, by rw [ht]; exact hP, va_K.moved hW.alike hK, hD⟩, hS.F ht⟩) hS.2.2 d_R_feed_12
  · have hw := hwf c_1
    refine lv_iload_n hx hb d_R_feed_5 rfl (lv_at hl 2 rfl) ?_
    refine lv_bipush (v := 8) hx hb d_R_feed_6 (by decide) ?_
    obtain ⟨hwt, hwf⟩ := hw
    refine lv_icmp_le (tgt := 13) hx hb d_R_feed_8 (by decide) (fun c_2 => ?_) (fun c_2 => ?_)
    · have hw := hwt c_2
      refine lv_aload_n hx hb d_R_feed_13 rfl (lv_at hl 0 rfl) ?_
      refine va_get (D := (dC, dI)) (ci := 5) (v := .int rsize) (C := R_R) (T := T_R) (N := 16) hx hb hts in_R hown hK hP 0 rfl rfl 0 (by decide) (hts _ ux_69) (fun _ h9 => h9) rfl d_R_feed_14 ?_
      refine lv_iload_n hx hb d_R_feed_17 rfl (lv_at hl 2 rfl) ?_
      refine lv_iadd hx hb d_R_feed_18 ?_
      refine lv_sipush (v := 4096) hx hb d_R_feed_19 (by decide) ?_
      obtain ⟨hwt, hwf⟩ := hw
      refine lv_icmp_le (tgt := 28) hx hb d_R_feed_22 (by decide) (fun c_3 => ?_) (fun c_3 => ?_)
      · have hw := hwt c_3
        refine lv_iconst (v := 0) hx hb d_R_feed_28 (by decide) ?_
        refine lv_istore (lv' := [(4, .int 0), (0, .ref (ad 11)), (1, .long p0), (3, .int p1)]) hx hb d_R_feed_29 hl (by decide) rfl (fun ls hl => ?_)
        obtain ⟨fu31, hw⟩ := hw
        exact L_31 p0 p1 rval risP cnt look bad byZ inr rpl hld fu31 0 rsize store _ _ _ hw hP hD hS (lv_sub hl [1, 2, 3, 0] rfl)
      · have hw := hwf c_3
        refine lv_bipush (v := (-2)) hx hb d_R_feed_25 (by decide) ?_
        exact W.iret (v := (-2)) hx hb hr (fun t ht hW => ⟨⟨(-2), (rsize, store), rfl, hw, by rw [ht]; exact hP, va_K.moved hW.alike hK, hD⟩, hS.F ht⟩) hS.2.2 d_R_feed_27
    · have hw := hwf c_2
      refine lv_iconst (v := (-1)) hx hb d_R_feed_11 (by decide) ?_
      exact W.iret (v := (-1)) hx hb hr (fun t ht hW => ⟨⟨(-1), (rsize, store), rfl, hw, by rw [ht]; exact hP, va_K.moved hW.alike hK, hD⟩, hS.F ht⟩) hS.2.2 d_R_feed_12

abbrev wd_R_cut (ad : Nat → Nat) (ck : Nat → ClassId) (rsize : Int32) (rval : Int64) (risP : Int32) (cnt : Int32) (look : Int32) (bad : Int32) (byZ : Int32) (inr : Int32) (rpl : Int32) (hld : Int32) : va_W := [(ad 11, .inr (5, [.int rsize, .ref (ad 12), .long rval, .int risP, .int cnt, .ref (ad 13), .ref (ad 14), .int look, .int bad, .int byZ, .int inr, .int rpl, .int hld, .ref (ad 15), .ref (ad 16), .ref (ad 17)]))]
def wp_R_cut (post : Int32 → Int32 → Prop) (rsize : Int32) (rval : Int64) (risP : Int32) (cnt : Int32) (look : Int32) (bad : Int32) (byZ : Int32) (inr : Int32) (rpl : Int32) (hld : Int32) (p0 : Int32) : Prop := (p0 < 0 → (post (-1) rsize)) ∧ (¬ p0 < 0 → ((p0 ≤ rsize → (∀ x2_3 : Int32, x2_3 = (rsize - p0) → (post x2_3 p0))) ∧ (¬ p0 ≤ rsize → (post (-1) rsize))))
set_option maxHeartbeats 4000000 in
set_option maxRecDepth 100000 in
theorem kc_R_cut (l : Launch) (dC : Nat → ClassId) (dI : Nat → Nat → Nat) (ad : Nat → Nat) (ck : Nat → ClassId) (rsize : Int32) (rval : Int64) (risP : Int32) (cnt : Int32) (look : Int32) (bad : Int32) (byZ : Int32) (inr : Int32) (rpl : Int32) (hld : Int32) (p0 : Int32) {post : Int32 → Int32 → Prop} (hw : wp_R_cut post rsize rval risP cnt look bad byZ inr rpl hld p0) : k_Ci l y_R_cut ws_R_cut ({ frames := 0, cells := 0, slots := 0, locals := 0 } : Room) (dC, dI) vwCl (TYr ck) k_x0 [.ref (ad 11), .int p0] (wd_R_cut ad ck rsize rval risP cnt look bad byZ inr rpl hld) (fun (r : Int32) (u : Int32) => post r u) (fun (u : Int32) => wd_R_cut ad ck u rval risP cnt look bad byZ inr rpl hld) := by
  intro sz
  refine Met.ofW (cc := c_R_cut) (maxL := 3) (ret := (some .int)) (by decide) rfl ?_
  intro p e s m args below meth c s₁ B hml hv
  obtain ⟨rfl, hsz, hP, hK, hD0, hX⟩ := hv
  have hx := B.exec
  have hb := B.bytes
  have hr := B.returns
  have hts : ∀ w ∈ TB, w.before _ s = true := fun w h => atoms_spec (ws := ws_R_cut) B.pre w (List.mem_cons_of_mem _ h)
  have hown : s.vm.findClass R_R = some m.cls := findClass_of_methodNamed B.named
  have hlocks := B.notSynchronized
  subst hsz
  have hD := hD0.self (sz := s.heap.size)
  generalize hAe : va_A (wd_R_cut ad ck rsize rval risP cnt look bad byZ inr rpl hld) s.heap.size = A at hD hX ⊢
  have hA : ∀ q : Nat, s.heap.size ≤ q → A q := fun q h => by rw [← hAe]; exact Or.inr h
  have hS : va_S A s.heap s.heap [] := va_S.rf
  have hP : va_P (dC, dI) vwCl (wd_R_cut ad ck rsize rval risP cnt look bad byZ inr rpl hld) s.heap := hP
  have hl := lv_entry ([.ref (ad 11), .int p0]) (n := 3) (Nat.le_of_ble_eq_true rfl)
  rw [lg_entry_eq]
  generalize (lg_sl ([.ref (ad 11), .int p0]) ++ List.replicate (3 - (lg_sl ([.ref (ad 11), .int p0])).length) Slot.unset).toArray = ls at hl ⊢
  have hl : lv_has ls 3 [(0, .ref (ad 11)), (1, .int p0)] := hl
  refine lv_iload_n hx hb d_R_cut_0 rfl (lv_at hl 1 rfl) ?_
  obtain ⟨hwt, hwf⟩ := hw
  refine lv_if_lt (tgt := 12) hx hb d_R_cut_1 (by decide) (fun c_1 => ?_) (fun c_1 => ?_)
  · have hw := hwt c_1
    refine lv_iconst (v := (-1)) hx hb d_R_cut_12 (by decide) ?_
    exact W.iret (v := (-1)) hx hb hr (fun t ht hW => ⟨⟨(-1), rsize, rfl, hw, by rw [ht]; exact hP, va_K.moved hW.alike hK, hD⟩, hS.F ht⟩) hS.2.2 d_R_cut_13
  · have hw := hwf c_1
    refine lv_iload_n hx hb d_R_cut_4 rfl (lv_at hl 1 rfl) ?_
    refine lv_aload_n hx hb d_R_cut_5 rfl (lv_at hl 0 rfl) ?_
    refine va_get (D := (dC, dI)) (ci := 5) (v := .int rsize) (C := R_R) (T := T_R) (N := 16) hx hb hts in_R hown hK hP 0 rfl rfl 0 (by decide) (hts _ ux_69) (fun _ h9 => h9) rfl d_R_cut_6 ?_
    obtain ⟨hwt, hwf⟩ := hw
    refine lv_icmp_le (tgt := 14) hx hb d_R_cut_9 (by decide) (fun c_2 => ?_) (fun c_2 => ?_)
    · have hw := hwt c_2
      refine lv_aload_n hx hb d_R_cut_14 rfl (lv_at hl 0 rfl) ?_
      refine va_get (D := (dC, dI)) (ci := 5) (v := .int rsize) (C := R_R) (T := T_R) (N := 16) hx hb hts in_R hown hK hP 0 rfl rfl 0 (by decide) (hts _ ux_69) (fun _ h9 => h9) rfl d_R_cut_15 ?_
      refine lv_iload_n hx hb d_R_cut_18 rfl (lv_at hl 1 rfl) ?_
      refine lv_isub hx hb d_R_cut_19 ?_
      refine lv_topi (fun x2_3 ex2_3 => ?_)
      have hw := hw x2_3 ex2_3
      refine lv_istore_n (lv' := [(2, .int x2_3), (0, .ref (ad 11)), (1, .int p0)]) hx hb d_R_cut_20 rfl hl (by decide) rfl (fun ls hl => ?_)
      refine lv_aload_n hx hb d_R_cut_21 rfl (lv_at hl 1 rfl) ?_
      refine lv_iload_n hx hb d_R_cut_22 rfl (lv_at hl 2 rfl) ?_
      refine va_put (D := (dC, dI)) (ci := 5) (v := .int p0) (ty := .int) (C := R_R) (T := T_R) (N := 16) hx hb hts in_R ty_R ty_R_ok nm_R hown hK hP hD hS 0 rfl rfl 0 (by decide) (hts _ ux_69) (fun _ h9 => h9) rfl (by decide +kernel) rfl rfl (Nat.le_of_ble_eq_true rfl) d_R_cut_23 (fun H locs hP hD hS => ?_)
      have hP : va_P (dC, dI) vwCl (wd_R_cut ad ck p0 rval risP cnt look bad byZ inr rpl hld) H := hP
      have hD : va_D A (wd_R_cut ad ck p0 rval risP cnt look bad byZ inr rpl hld) := hD
      refine lv_iload_n hx hb d_R_cut_26 rfl (lv_at hl 0 rfl) ?_
      exact W.iret (v := x2_3) hx hb hr (fun t ht hW => ⟨⟨x2_3, p0, rfl, hw, by rw [ht]; exact hP, va_K.moved hW.alike hK, hD⟩, hS.F ht⟩) hS.2.2 d_R_cut_27
    · have hw := hwf c_2
      refine lv_iconst (v := (-1)) hx hb d_R_cut_12 (by decide) ?_
      exact W.iret (v := (-1)) hx hb hr (fun t ht hW => ⟨⟨(-1), rsize, rfl, hw, by rw [ht]; exact hP, va_K.moved hW.alike hK, hD⟩, hS.F ht⟩) hS.2.2 d_R_cut_13

abbrev wd_R_tokens (ad : Nat → Nat) (ck : Nat → ClassId) (rsize : Int32) (rval : Int64) (risP : Int32) (cnt : Int32) (look : Int32) (bad : Int32) (byZ : Int32) (inr : Int32) (rpl : Int32) (hld : Int32) (store : Nat → Int32) (tAt : Nat → Int32) (tSz : Nat → Int32) : va_W := [(ad 11, .inr (5, [.int rsize, .ref (ad 12), .long rval, .int risP, .int cnt, .ref (ad 13), .ref (ad 14), .int look, .int bad, .int byZ, .int inr, .int rpl, .int hld, .ref (ad 15), .ref (ad 16), .ref (ad 17)])), (ad 12, .inl (ck 6, 4096, .inl store)), (ad 13, .inl (ck 7, 4096, .inl tAt)), (ad 14, .inl (ck 8, 4096, .inl tSz))]
def wp_R_tokens (post : Int32 → Int32 → (Nat → Int32) → (Nat → Int32) → Prop) (rsize : Int32) (rval : Int64) (risP : Int32) (cnt : Int32) (look : Int32) (bad : Int32) (byZ : Int32) (inr : Int32) (rpl : Int32) (hld : Int32) (store : Nat → Int32) (tAt : Nat → Int32) (tSz : Nat → Int32)  : Prop := wp_R_cutAll (fun (cnt_1 : Int32) (tAt_2 : Nat → Int32) (tSz_3 : Nat → Int32) => post cnt_1 cnt_1 tAt_2 tSz_3) rsize rval risP cnt look bad byZ inr rpl hld store tAt tSz
set_option maxHeartbeats 4000000 in
set_option maxRecDepth 100000 in
theorem kc_R_tokens (l : Launch) (dC : Nat → ClassId) (dI : Nat → Nat → Nat) (ad : Nat → Nat) (ck : Nat → ClassId) (sa sv : Nat → Nat) (sf : Option Nat) (rsize : Int32) (rval : Int64) (risP : Int32) (cnt : Int32) (look : Int32) (bad : Int32) (byZ : Int32) (inr : Int32) (rpl : Int32) (hld : Int32) (store : Nat → Int32) (tAt : Nat → Int32) (tSz : Nat → Int32)  {post : Int32 → Int32 → (Nat → Int32) → (Nat → Int32) → Prop} (hw : wp_R_tokens post rsize rval risP cnt look bad byZ inr rpl hld store tAt tSz ) : k_Ci l y_R_tokens ws_R_tokens ({ frames := 8, cells := 0, slots := 0, locals := 184 } : Room) (dC, dI) vwCl (TYr ck) (XR sa sv sf) [.ref (ad 11)] (wd_R_tokens ad ck rsize rval risP cnt look bad byZ inr rpl hld store tAt tSz) (fun (r : Int32) (u : Int32 × (Nat → Int32) × (Nat → Int32)) => post r u.1 u.2.1 u.2.2) (fun (u : Int32 × (Nat → Int32) × (Nat → Int32)) => wd_R_tokens ad ck rsize rval risP u.1 look bad byZ inr rpl hld store u.2.1 u.2.2) := by
  intro sz
  refine Met.ofW (cc := c_R_tokens) (maxL := 1) (ret := (some .int)) (by decide) rfl ?_
  intro p e s m args below meth c s₁ B hml hv
  obtain ⟨rfl, hsz, hP, hK, hD0, hX⟩ := hv
  have hx := B.exec
  have hb := B.bytes
  have hr := B.returns
  have hts : ∀ w ∈ TB, w.before _ s = true := fun w h => atoms_spec (ws := ws_R_tokens) B.pre w (List.mem_cons_of_mem _ h)
  have hown : s.vm.findClass R_R = some m.cls := findClass_of_methodNamed B.named
  have hlocks := B.notSynchronized
  subst hsz
  have hD := hD0.self (sz := s.heap.size)
  generalize hAe : va_A (wd_R_tokens ad ck rsize rval risP cnt look bad byZ inr rpl hld store tAt tSz) s.heap.size = A at hD hX ⊢
  have hA : ∀ q : Nat, s.heap.size ≤ q → A q := fun q h => by rw [← hAe]; exact Or.inr h
  have hS : va_S A s.heap s.heap [] := va_S.rf
  have hP : va_P (dC, dI) vwCl (wd_R_tokens ad ck rsize rval risP cnt look bad byZ inr rpl hld store tAt tSz) s.heap := hP
  have hl := lv_entry ([.ref (ad 11)]) (n := 1) (Nat.le_of_ble_eq_true rfl)
  rw [lg_entry_eq]
  generalize (lg_sl ([.ref (ad 11)]) ++ List.replicate (1 - (lg_sl ([.ref (ad 11)])).length) Slot.unset).toArray = ls at hl ⊢
  have hl : lv_has ls 1 [(0, .ref (ad 11))] := hl
  refine lv_aload_n hx hb d_R_tokens_0 rfl (lv_at hl 0 rfl) ?_
  refine k_callVv (As := []) (rest := []) (fun (u : Int32 × (Nat → Int32) × (Nat → Int32)) => wd_R_tokens ad ck rsize rval risP u.1 look bad byZ inr rpl hld store u.2.1 u.2.2) ⟨hx, hb, hml, hown, hts⟩ (kc_R_cutAll l dC dI ad ck sa sv sf rsize rval risP cnt look bad byZ inr rpl hld store tAt tSz (hw := hw)) (cwV 0 hts (gV ux_122 ux_124 ux_125 ux_49 ux_123) rfl rfl rfl hd_R_cutAll ⟨Nat.le_of_ble_eq_true rfl, Nat.le_of_ble_eq_true rfl⟩) hK hP hD hS hA (XR_c sa sv sf) hX [0, 1, 2, 3] [] [0, 1, 2, 3] rfl rfl (by decide) (by decide) (fun _ => rfl) (va_recv hK hP (ci := 5) (q0 := 0) rfl rfl) rfl hl.1 rfl (lv_room (Nat.le_of_ble_eq_true rfl)) d_R_tokens_1 ⟨Nat.zero_le _, Nat.zero_le _⟩ ?_
  intro u H locs hw hP hD hS
  obtain ⟨cnt_1, tAt_2, tSz_3⟩ := u
  have hP : va_P (dC, dI) vwCl (wd_R_tokens ad ck rsize rval risP cnt_1 look bad byZ inr rpl hld store tAt_2 tSz_3) H := hP
  have hD : va_D A (wd_R_tokens ad ck rsize rval risP cnt_1 look bad byZ inr rpl hld store tAt_2 tSz_3) := hD
  try dsimp only at hw
  refine lv_aload_n hx hb d_R_tokens_4 rfl (lv_at hl 0 rfl) ?_
  refine va_get (D := (dC, dI)) (ci := 5) (v := .int cnt_1) (C := R_R) (T := T_R) (N := 16) hx hb hts in_R hown hK hP 0 rfl rfl 4 (by decide) (hts _ ux_68) (fun _ h9 => h9) rfl d_R_tokens_5 ?_
  exact W.iret (v := cnt_1) hx hb hr (fun t ht hW => ⟨⟨cnt_1, (cnt_1, tAt_2, tSz_3), rfl, hw, by rw [ht]; exact hP, va_K.moved hW.alike hK, hD⟩, hS.F ht⟩) hS.2.2 d_R_tokens_8

abbrev wd_R_token (ad : Nat → Nat) (ck : Nat → ClassId) (rsize : Int32) (rval : Int64) (risP : Int32) (cnt : Int32) (look : Int32) (bad : Int32) (byZ : Int32) (inr : Int32) (rpl : Int32) (hld : Int32) (store : Nat → Int32) (tAt : Nat → Int32) (tSz : Nat → Int32) : va_W := [(ad 11, .inr (5, [.int rsize, .ref (ad 12), .long rval, .int risP, .int cnt, .ref (ad 13), .ref (ad 14), .int look, .int bad, .int byZ, .int inr, .int rpl, .int hld, .ref (ad 15), .ref (ad 16), .ref (ad 17)])), (ad 12, .inl (ck 6, 4096, .inl store)), (ad 13, .inl (ck 7, 4096, .inl tAt)), (ad 14, .inl (ck 8, 4096, .inl tSz))]
def wp_R_token (post : Int32 → Int32 → (Nat → Int32) → (Nat → Int32) → Prop) (rsize : Int32) (rval : Int64) (risP : Int32) (cnt : Int32) (look : Int32) (bad : Int32) (byZ : Int32) (inr : Int32) (rpl : Int32) (hld : Int32) (store : Nat → Int32) (tAt : Nat → Int32) (tSz : Nat → Int32) (p0 : Int32) (p1 : Int32) : Prop := wp_R_cutAll (fun (cnt_1 : Int32) (tAt_2 : Nat → Int32) (tSz_3 : Nat → Int32) => (p0 < 0 → (post (-1) cnt_1 tAt_2 tSz_3)) ∧ (¬ p0 < 0 → ((cnt_1 ≤ p0 → (post (-1) cnt_1 tAt_2 tSz_3)) ∧ (¬ cnt_1 ≤ p0 → ((p1 < 0 → (post (-1) cnt_1 tAt_2 tSz_3)) ∧ (¬ p1 < 0 → ((p1 ≤ 2 → ((p1 = 0 → (vp_in p0 4096 ∧ (post (tAt_2 p0.toNatClampNeg) cnt_1 tAt_2 tSz_3))) ∧ (¬ p1 = 0 → ((p1 = 1 → (vp_in p0 4096 ∧ (post (tSz_3 p0.toNatClampNeg) cnt_1 tAt_2 tSz_3))) ∧ (¬ p1 = 1 → (wp_R_kindOf (fun (r_10 : Int32) => post r_10 cnt_1 tAt_2 tSz_3) rsize rval risP cnt_1 look bad byZ inr rpl hld store tAt_2 tSz_3 p0)))))) ∧ (¬ p1 ≤ 2 → (post (-1) cnt_1 tAt_2 tSz_3))))))))) rsize rval risP cnt look bad byZ inr rpl hld store tAt tSz
set_option maxHeartbeats 4000000 in
set_option maxRecDepth 100000 in
theorem kc_R_token (l : Launch) (dC : Nat → ClassId) (dI : Nat → Nat → Nat) (ad : Nat → Nat) (ck : Nat → ClassId) (sa sv : Nat → Nat) (sf : Option Nat) (rsize : Int32) (rval : Int64) (risP : Int32) (cnt : Int32) (look : Int32) (bad : Int32) (byZ : Int32) (inr : Int32) (rpl : Int32) (hld : Int32) (store : Nat → Int32) (tAt : Nat → Int32) (tSz : Nat → Int32) (p0 : Int32) (p1 : Int32) {post : Int32 → Int32 → (Nat → Int32) → (Nat → Int32) → Prop} (hw : wp_R_token post rsize rval risP cnt look bad byZ inr rpl hld store tAt tSz p0 p1) : k_Ci l y_R_token ws_R_token ({ frames := 8, cells := 0, slots := 0, locals := 184 } : Room) (dC, dI) vwCl (TYr ck) (XR sa sv sf) [.ref (ad 11), .int p0, .int p1] (wd_R_token ad ck rsize rval risP cnt look bad byZ inr rpl hld store tAt tSz) (fun (r : Int32) (u : Int32 × (Nat → Int32) × (Nat → Int32)) => post r u.1 u.2.1 u.2.2) (fun (u : Int32 × (Nat → Int32) × (Nat → Int32)) => wd_R_token ad ck rsize rval risP u.1 look bad byZ inr rpl hld store u.2.1 u.2.2) := by
  intro sz
  refine Met.ofW (cc := c_R_token) (maxL := 3) (ret := (some .int)) (by decide) rfl ?_
  intro p e s m args below meth c s₁ B hml hv
  obtain ⟨rfl, hsz, hP, hK, hD0, hX⟩ := hv
  have hx := B.exec
  have hb := B.bytes
  have hr := B.returns
  have hts : ∀ w ∈ TB, w.before _ s = true := fun w h => atoms_spec (ws := ws_R_token) B.pre w (List.mem_cons_of_mem _ h)
  have hown : s.vm.findClass R_R = some m.cls := findClass_of_methodNamed B.named
  have hlocks := B.notSynchronized
  subst hsz
  have hD := hD0.self (sz := s.heap.size)
  generalize hAe : va_A (wd_R_token ad ck rsize rval risP cnt look bad byZ inr rpl hld store tAt tSz) s.heap.size = A at hD hX ⊢
  have hA : ∀ q : Nat, s.heap.size ≤ q → A q := fun q h => by rw [← hAe]; exact Or.inr h
  have hS : va_S A s.heap s.heap [] := va_S.rf
  have hP : va_P (dC, dI) vwCl (wd_R_token ad ck rsize rval risP cnt look bad byZ inr rpl hld store tAt tSz) s.heap := hP
  have hl := lv_entry ([.ref (ad 11), .int p0, .int p1]) (n := 3) (Nat.le_of_ble_eq_true rfl)
  rw [lg_entry_eq]
  generalize (lg_sl ([.ref (ad 11), .int p0, .int p1]) ++ List.replicate (3 - (lg_sl ([.ref (ad 11), .int p0, .int p1])).length) Slot.unset).toArray = ls at hl ⊢
  have hl : lv_has ls 3 [(0, .ref (ad 11)), (1, .int p0), (2, .int p1)] := hl
  refine lv_aload_n hx hb d_R_token_0 rfl (lv_at hl 0 rfl) ?_
  refine k_callVv (As := []) (rest := []) (fun (u : Int32 × (Nat → Int32) × (Nat → Int32)) => wd_R_token ad ck rsize rval risP u.1 look bad byZ inr rpl hld store u.2.1 u.2.2) ⟨hx, hb, hml, hown, hts⟩ (kc_R_cutAll l dC dI ad ck sa sv sf rsize rval risP cnt look bad byZ inr rpl hld store tAt tSz (hw := hw)) (cwV 0 hts (gV ux_122 ux_124 ux_125 ux_49 ux_123) rfl rfl rfl hd_R_cutAll ⟨Nat.le_of_ble_eq_true rfl, Nat.le_of_ble_eq_true rfl⟩) hK hP hD hS hA (XR_c sa sv sf) hX [0, 1, 2, 3] [] [0, 1, 2, 3] rfl rfl (by decide) (by decide) (fun _ => rfl) (va_recv hK hP (ci := 5) (q0 := 0) rfl rfl) rfl hl.1 rfl (lv_room (Nat.le_of_ble_eq_true rfl)) d_R_token_1 ⟨Nat.zero_le _, Nat.zero_le _⟩ ?_
  intro u H locs hw hP hD hS
  obtain ⟨cnt_1, tAt_2, tSz_3⟩ := u
  have hP : va_P (dC, dI) vwCl (wd_R_token ad ck rsize rval risP cnt_1 look bad byZ inr rpl hld store tAt_2 tSz_3) H := hP
  have hD : va_D A (wd_R_token ad ck rsize rval risP cnt_1 look bad byZ inr rpl hld store tAt_2 tSz_3) := hD
  try dsimp only at hw
  refine lv_iload_n hx hb d_R_token_4 rfl (lv_at hl 1 rfl) ?_
  obtain ⟨hwt, hwf⟩ := hw
  refine lv_if_lt (tgt := 25) hx hb d_R_token_5 (by decide) (fun c_4 => ?_) (fun c_4 => ?_)
  · have hw := hwt c_4
    refine lv_iconst (v := (-1)) hx hb d_R_token_25 (by decide) ?_
    exact W.iret (v := (-1)) hx hb hr (fun t ht hW => ⟨⟨(-1), (cnt_1, tAt_2, tSz_3), rfl, hw, by rw [ht]; exact hP, va_K.moved hW.alike hK, hD⟩, hS.F ht⟩) hS.2.2 d_R_token_26
  · have hw := hwf c_4
    refine lv_iload_n hx hb d_R_token_8 rfl (lv_at hl 1 rfl) ?_
    refine lv_aload_n hx hb d_R_token_9 rfl (lv_at hl 0 rfl) ?_
    refine va_get (D := (dC, dI)) (ci := 5) (v := .int cnt_1) (C := R_R) (T := T_R) (N := 16) hx hb hts in_R hown hK hP 0 rfl rfl 4 (by decide) (hts _ ux_68) (fun _ h9 => h9) rfl d_R_token_10 ?_
    obtain ⟨hwt, hwf⟩ := hw
    refine lv_icmp_ge (tgt := 25) hx hb d_R_token_13 (by decide) (fun c_5 => ?_) (fun c_5 => ?_)
    · have hw := hwt c_5
      refine lv_iconst (v := (-1)) hx hb d_R_token_25 (by decide) ?_
      exact W.iret (v := (-1)) hx hb hr (fun t ht hW => ⟨⟨(-1), (cnt_1, tAt_2, tSz_3), rfl, hw, by rw [ht]; exact hP, va_K.moved hW.alike hK, hD⟩, hS.F ht⟩) hS.2.2 d_R_token_26
    · have hw := hwf c_5
      refine lv_iload_n hx hb d_R_token_16 rfl (lv_at hl 2 rfl) ?_
      obtain ⟨hwt, hwf⟩ := hw
      refine lv_if_lt (tgt := 25) hx hb d_R_token_17 (by decide) (fun c_6 => ?_) (fun c_6 => ?_)
      · have hw := hwt c_6
        refine lv_iconst (v := (-1)) hx hb d_R_token_25 (by decide) ?_
        exact W.iret (v := (-1)) hx hb hr (fun t ht hW => ⟨⟨(-1), (cnt_1, tAt_2, tSz_3), rfl, hw, by rw [ht]; exact hP, va_K.moved hW.alike hK, hD⟩, hS.F ht⟩) hS.2.2 d_R_token_26
      · have hw := hwf c_6
        refine lv_iload_n hx hb d_R_token_20 rfl (lv_at hl 2 rfl) ?_
        refine lv_iconst (v := 2) hx hb d_R_token_21 (by decide) ?_
        obtain ⟨hwt, hwf⟩ := hw
        refine lv_icmp_le (tgt := 27) hx hb d_R_token_22 (by decide) (fun c_7 => ?_) (fun c_7 => ?_)
        · have hw := hwt c_7
          refine lv_iload_n hx hb d_R_token_27 rfl (lv_at hl 2 rfl) ?_
          obtain ⟨hwt, hwf⟩ := hw
          refine lv_if_ne (tgt := 40) hx hb d_R_token_28 (by decide) (fun c_8 => ?_) (fun c_8 => ?_)
          · have hw := hwf c_8
            refine lv_iload_n hx hb d_R_token_40 rfl (lv_at hl 2 rfl) ?_
            refine lv_iconst (v := 1) hx hb d_R_token_41 (by decide) ?_
            obtain ⟨hwt, hwf⟩ := hw
            refine lv_icmp_ne (tgt := 54) hx hb d_R_token_42 (by decide) (fun c_9 => ?_) (fun c_9 => ?_)
            · have hw := hwf c_9
              refine lv_aload_n hx hb d_R_token_54 rfl (lv_at hl 0 rfl) ?_
              refine lv_iload_n hx hb d_R_token_55 rfl (lv_at hl 1 rfl) ?_
              refine k_callVi (As := [.int p0]) (rest := []) (fun (u : Unit) => wd_R_token ad ck rsize rval risP cnt_1 look bad byZ inr rpl hld store tAt_2 tSz_3) ⟨hx, hb, hml, hown, hts⟩ (kc_R_kindOf l dC dI ad ck sa sv sf rsize rval risP cnt_1 look bad byZ inr rpl hld store tAt_2 tSz_3 p0 (hw := hw)) (cwV 1 hts (gV ux_126 ux_128 ux_129 ux_49 ux_127) rfl rfl rfl hd_R_kindOf ⟨Nat.le_of_ble_eq_true rfl, Nat.le_of_ble_eq_true rfl⟩) hK hP hD hS hA (XR_c sa sv sf) hX [0, 1, 2, 3] [] [0, 1, 2, 3] rfl rfl (by decide) (by decide) (fun _ => rfl) (va_recv hK hP (ci := 5) (q0 := 0) rfl rfl) rfl hl.1 rfl (lv_room (Nat.le_of_ble_eq_true rfl)) d_R_token_56 ⟨Nat.zero_le _, Nat.zero_le _⟩ ?_
              intro r_10 u H locs hw hP hD hS
              have hP : va_P (dC, dI) vwCl (wd_R_token ad ck rsize rval risP cnt_1 look bad byZ inr rpl hld store tAt_2 tSz_3) H := hP
              have hD : va_D A (wd_R_token ad ck rsize rval risP cnt_1 look bad byZ inr rpl hld store tAt_2 tSz_3) := hD
              try dsimp only at hw
              exact W.iret (v := r_10) hx hb hr (fun t ht hW => ⟨⟨r_10, (cnt_1, tAt_2, tSz_3), rfl, hw, by rw [ht]; exact hP, va_K.moved hW.alike hK, hD⟩, hS.F ht⟩) hS.2.2 d_R_token_59
            · have hw := hwt c_9
              refine lv_aload_n hx hb d_R_token_45 rfl (lv_at hl 0 rfl) ?_
              refine va_get (D := (dC, dI)) (ci := 5) (v := .ref (ad 14)) (C := R_R) (T := T_R) (N := 16) hx hb hts in_R hown hK hP 0 rfl rfl 6 (by decide) (hts _ ux_74) (fun _ h9 => h9) rfl d_R_token_46 ?_
              refine lv_iload_n hx hb d_R_token_49 rfl (lv_at hl 1 rfl) ?_
              obtain ⟨hi_11, hw⟩ := hw
              refine va_iald hx hb hK hP 3 2 rfl rfl hi_11 d_R_token_50 ?_
              refine lv_goto (tgt := 59) hx hb d_R_token_51 (by decide) ?_
              exact W.iret (v := (tSz_3 p0.toNatClampNeg)) hx hb hr (fun t ht hW => ⟨⟨(tSz_3 p0.toNatClampNeg), (cnt_1, tAt_2, tSz_3), rfl, hw, by rw [ht]; exact hP, va_K.moved hW.alike hK, hD⟩, hS.F ht⟩) hS.2.2 d_R_token_59
          · have hw := hwt c_8
            refine lv_aload_n hx hb d_R_token_31 rfl (lv_at hl 0 rfl) ?_
            refine va_get (D := (dC, dI)) (ci := 5) (v := .ref (ad 13)) (C := R_R) (T := T_R) (N := 16) hx hb hts in_R hown hK hP 0 rfl rfl 5 (by decide) (hts _ ux_73) (fun _ h9 => h9) rfl d_R_token_32 ?_
            refine lv_iload_n hx hb d_R_token_35 rfl (lv_at hl 1 rfl) ?_
            obtain ⟨hi_12, hw⟩ := hw
            refine va_iald hx hb hK hP 2 1 rfl rfl hi_12 d_R_token_36 ?_
            refine lv_goto (tgt := 59) hx hb d_R_token_37 (by decide) ?_
            exact W.iret (v := (tAt_2 p0.toNatClampNeg)) hx hb hr (fun t ht hW => ⟨⟨(tAt_2 p0.toNatClampNeg), (cnt_1, tAt_2, tSz_3), rfl, hw, by rw [ht]; exact hP, va_K.moved hW.alike hK, hD⟩, hS.F ht⟩) hS.2.2 d_R_token_59
        · have hw := hwf c_7
          refine lv_iconst (v := (-1)) hx hb d_R_token_25 (by decide) ?_
          exact W.iret (v := (-1)) hx hb hr (fun t ht hW => ⟨⟨(-1), (cnt_1, tAt_2, tSz_3), rfl, hw, by rw [ht]; exact hP, va_K.moved hW.alike hK, hD⟩, hS.F ht⟩) hS.2.2 d_R_token_26

abbrev wd_R_value (ad : Nat → Nat) (ck : Nat → ClassId) (rsize : Int32) (rval : Int64) (risP : Int32) (cnt : Int32) (look : Int32) (bad : Int32) (byZ : Int32) (inr : Int32) (rpl : Int32) (hld : Int32) : va_W := [(ad 11, .inr (5, [.int rsize, .ref (ad 12), .long rval, .int risP, .int cnt, .ref (ad 13), .ref (ad 14), .int look, .int bad, .int byZ, .int inr, .int rpl, .int hld, .ref (ad 15), .ref (ad 16), .ref (ad 17)]))]
def wp_R_value (post : Int64 → Prop) (rsize : Int32) (rval : Int64) (risP : Int32) (cnt : Int32) (look : Int32) (bad : Int32) (byZ : Int32) (inr : Int32) (rpl : Int32) (hld : Int32)  : Prop := post rval
set_option maxHeartbeats 4000000 in
set_option maxRecDepth 100000 in
theorem kc_R_value (l : Launch) (dC : Nat → ClassId) (dI : Nat → Nat → Nat) (ad : Nat → Nat) (ck : Nat → ClassId) (rsize : Int32) (rval : Int64) (risP : Int32) (cnt : Int32) (look : Int32) (bad : Int32) (byZ : Int32) (inr : Int32) (rpl : Int32) (hld : Int32)  {post : Int64 → Prop} (hw : wp_R_value post rsize rval risP cnt look bad byZ inr rpl hld ) : k_Cl l y_R_value ws_R_value ({ frames := 0, cells := 0, slots := 0, locals := 0 } : Room) (dC, dI) vwCl (TYr ck) k_x0 [.ref (ad 11)] (wd_R_value ad ck rsize rval risP cnt look bad byZ inr rpl hld) (fun (r : Int64) (u : Unit) => post r ) (fun (u : Unit) => wd_R_value ad ck rsize rval risP cnt look bad byZ inr rpl hld) := by
  intro sz
  refine Met.ofW (cc := c_R_value) (maxL := 1) (ret := (some .long)) (by decide) rfl ?_
  intro p e s m args below meth c s₁ B hml hv
  obtain ⟨rfl, hsz, hP, hK, hD0, hX⟩ := hv
  have hx := B.exec
  have hb := B.bytes
  have hr := B.returns
  have hts : ∀ w ∈ TB, w.before _ s = true := fun w h => atoms_spec (ws := ws_R_value) B.pre w (List.mem_cons_of_mem _ h)
  have hown : s.vm.findClass R_R = some m.cls := findClass_of_methodNamed B.named
  have hlocks := B.notSynchronized
  subst hsz
  have hD := hD0.self (sz := s.heap.size)
  generalize hAe : va_A (wd_R_value ad ck rsize rval risP cnt look bad byZ inr rpl hld) s.heap.size = A at hD hX ⊢
  have hA : ∀ q : Nat, s.heap.size ≤ q → A q := fun q h => by rw [← hAe]; exact Or.inr h
  have hS : va_S A s.heap s.heap [] := va_S.rf
  have hP : va_P (dC, dI) vwCl (wd_R_value ad ck rsize rval risP cnt look bad byZ inr rpl hld) s.heap := hP
  have hl := lv_entry ([.ref (ad 11)]) (n := 1) (Nat.le_of_ble_eq_true rfl)
  rw [lg_entry_eq]
  generalize (lg_sl ([.ref (ad 11)]) ++ List.replicate (1 - (lg_sl ([.ref (ad 11)])).length) Slot.unset).toArray = ls at hl ⊢
  have hl : lv_has ls 1 [(0, .ref (ad 11))] := hl
  refine lv_aload_n hx hb d_R_value_0 rfl (lv_at hl 0 rfl) ?_
  refine va_get (D := (dC, dI)) (ci := 5) (v := .long rval) (C := R_R) (T := T_R) (N := 16) hx hb hts in_R hown hK hP 0 rfl rfl 2 (by decide) (hts _ ux_130) (fun _ h9 => h9) rfl d_R_value_1 ?_
  exact W.lret (v := rval) hx hb hr (fun t ht hW => ⟨⟨rval, (), rfl, hw, by rw [ht]; exact hP, va_K.moved hW.alike hK, hD⟩, hS.F ht⟩) hS.2.2 d_R_value_4

abbrev wd_R_isPlain (ad : Nat → Nat) (ck : Nat → ClassId) (rsize : Int32) (rval : Int64) (risP : Int32) (cnt : Int32) (look : Int32) (bad : Int32) (byZ : Int32) (inr : Int32) (rpl : Int32) (hld : Int32) : va_W := [(ad 11, .inr (5, [.int rsize, .ref (ad 12), .long rval, .int risP, .int cnt, .ref (ad 13), .ref (ad 14), .int look, .int bad, .int byZ, .int inr, .int rpl, .int hld, .ref (ad 15), .ref (ad 16), .ref (ad 17)]))]
def wp_R_isPlain (post : Int32 → Prop) (rsize : Int32) (rval : Int64) (risP : Int32) (cnt : Int32) (look : Int32) (bad : Int32) (byZ : Int32) (inr : Int32) (rpl : Int32) (hld : Int32)  : Prop := vz risP ∧ (post risP)
set_option maxHeartbeats 4000000 in
set_option maxRecDepth 100000 in
theorem kc_R_isPlain (l : Launch) (dC : Nat → ClassId) (dI : Nat → Nat → Nat) (ad : Nat → Nat) (ck : Nat → ClassId) (rsize : Int32) (rval : Int64) (risP : Int32) (cnt : Int32) (look : Int32) (bad : Int32) (byZ : Int32) (inr : Int32) (rpl : Int32) (hld : Int32)  {post : Int32 → Prop} (hw : wp_R_isPlain post rsize rval risP cnt look bad byZ inr rpl hld ) : k_Ci l y_R_isPlain ws_R_isPlain ({ frames := 0, cells := 0, slots := 0, locals := 0 } : Room) (dC, dI) vwCl (TYr ck) k_x0 [.ref (ad 11)] (wd_R_isPlain ad ck rsize rval risP cnt look bad byZ inr rpl hld) (fun (r : Int32) (u : Unit) => post r ) (fun (u : Unit) => wd_R_isPlain ad ck rsize rval risP cnt look bad byZ inr rpl hld) := by
  intro sz
  refine Met.ofW (cc := c_R_isPlain) (maxL := 1) (ret := (some .boolean)) (by decide) rfl ?_
  intro p e s m args below meth c s₁ B hml hv
  obtain ⟨rfl, hsz, hP, hK, hD0, hX⟩ := hv
  have hx := B.exec
  have hb := B.bytes
  have hr := B.returns
  have hts : ∀ w ∈ TB, w.before _ s = true := fun w h => atoms_spec (ws := ws_R_isPlain) B.pre w (List.mem_cons_of_mem _ h)
  have hown : s.vm.findClass R_R = some m.cls := findClass_of_methodNamed B.named
  have hlocks := B.notSynchronized
  subst hsz
  have hD := hD0.self (sz := s.heap.size)
  generalize hAe : va_A (wd_R_isPlain ad ck rsize rval risP cnt look bad byZ inr rpl hld) s.heap.size = A at hD hX ⊢
  have hA : ∀ q : Nat, s.heap.size ≤ q → A q := fun q h => by rw [← hAe]; exact Or.inr h
  have hS : va_S A s.heap s.heap [] := va_S.rf
  have hP : va_P (dC, dI) vwCl (wd_R_isPlain ad ck rsize rval risP cnt look bad byZ inr rpl hld) s.heap := hP
  have hl := lv_entry ([.ref (ad 11)]) (n := 1) (Nat.le_of_ble_eq_true rfl)
  rw [lg_entry_eq]
  generalize (lg_sl ([.ref (ad 11)]) ++ List.replicate (1 - (lg_sl ([.ref (ad 11)])).length) Slot.unset).toArray = ls at hl ⊢
  have hl : lv_has ls 1 [(0, .ref (ad 11))] := hl
  refine lv_aload_n hx hb d_R_isPlain_0 rfl (lv_at hl 0 rfl) ?_
  refine va_get (D := (dC, dI)) (ci := 5) (v := .int risP) (C := R_R) (T := T_R) (N := 16) hx hb hts in_R hown hK hP 0 rfl rfl 3 (by decide) (hts _ ux_131) (fun _ h9 => h9) rfl d_R_isPlain_1 ?_
  obtain ⟨hz_1, hw⟩ := hw
  exact W.zret (v := risP) hx hb hr (vz_n hz_1) (fun t ht hW => ⟨⟨risP, (), rfl, hw, by rw [ht]; exact hP, va_K.moved hW.alike hK, hD⟩, hS.F ht⟩) hS.2.2 d_R_isPlain_4
