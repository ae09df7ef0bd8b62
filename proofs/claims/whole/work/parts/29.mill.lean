abbrev wd_M_feed (ad : Nat → Nat) (ck : Nat → ClassId) (lAmt : Int64) (lPl : Int32) (size : Int32) (row : Nat → Int32) : va_W := [(ad 0, .inr (4, [.ref (ad 1), .ref (ad 3), .ref (ad 5), .long lAmt, .int lPl])), (ad 1, .inr (2, [.ref (ad 2), .int size])), (ad 2, .inl (ck 0, 4096, .inl row))]
def wp_M_feed (post : Int32 → Int32 → (Nat → Int32) → Prop) (lAmt : Int64) (lPl : Int32) (size : Int32) (row : Nat → Int32) (p0 : Int64) (p1 : Int32) : Prop := (p1 < 1 → (post (-1) size row)) ∧ (¬ p1 < 1 → ((p1 ≤ 8 → ((p1 ≤ (4096 - size) → (wp_T_append (fun (size_4 : Int32) (row_5 : Nat → Int32) => post size_4 size_4 row_5) size row p0 p1)) ∧ (¬ p1 ≤ (4096 - size) → (post (-2) size row)))) ∧ (¬ p1 ≤ 8 → (post (-1) size row))))
set_option maxHeartbeats 4000000 in
set_option maxRecDepth 100000 in
theorem kc_M_feed (l : Launch) (dC : Nat → ClassId) (dI : Nat → Nat → Nat) (ad : Nat → Nat) (ck : Nat → ClassId) (sk : Nat → Nat) (lAmt : Int64) (lPl : Int32) (size : Int32) (row : Nat → Int32) (p0 : Int64) (p1 : Int32) {post : Int32 → Int32 → (Nat → Int32) → Prop} (hw : wp_M_feed post lAmt lPl size row p0 p1) : k_Ci l y_M_feed ws_M_feed ({ frames := 1, cells := 0, slots := 0, locals := 24 } : Room) (dC, dI) vwCl (TYm ck) (XM sk) [.ref (ad 0), .long p0, .int p1] (wd_M_feed ad ck lAmt lPl size row) (fun (r : Int32) (u : Int32 × (Nat → Int32)) => post r u.1 u.2) (fun (u : Int32 × (Nat → Int32)) => wd_M_feed ad ck lAmt lPl u.1 u.2) := by
  intro sz
  refine Met.ofW (cc := c_M_feed) (maxL := 4) (ret := (some .int)) (by decide) rfl ?_
  intro p e s m args below meth c s₁ B hml hv
  obtain ⟨rfl, hsz, hP, hK, hD0, hX⟩ := hv
  have hx := B.exec
  have hb := B.bytes
  have hr := B.returns
  have hts : ∀ w ∈ TB, w.before _ s = true := fun w h => atoms_spec (ws := ws_M_feed) B.pre w (List.mem_cons_of_mem _ h)
  have hown : s.vm.findClass R_M = some m.cls := findClass_of_methodNamed B.named
  have hlocks := B.notSynchronized
  subst hsz
  have hD := hD0.self (sz := s.heap.size)
  generalize hAe : va_A (wd_M_feed ad ck lAmt lPl size row) s.heap.size = A at hD hX ⊢
  have hA : ∀ q : Nat, s.heap.size ≤ q → A q := fun q h => by rw [← hAe]; exact Or.inr h
  have hS : va_S A s.heap s.heap [] := va_S.rf
  have hP : va_P (dC, dI) vwCl (wd_M_feed ad ck lAmt lPl size row) s.heap := hP
  have hl := lv_entry ([.ref (ad 0), .long p0, .int p1]) (n := 4) (Nat.le_of_ble_eq_true rfl)
  rw [lg_entry_eq]
  generalize (lg_sl ([.ref (ad 0), .long p0, .int p1]) ++ List.replicate (4 - (lg_sl ([.ref (ad 0), .long p0, .int p1])).length) Slot.unset).toArray = ls at hl ⊢
  have hl : lv_has ls 4 [(0, .ref (ad 0)), (1, .long p0), (3, .int p1)] := hl
  refine lv_iload_n hx hb d_M_feed_0 rfl (lv_at hl 2 rfl) ?_
  refine lv_iconst (v := 1) hx hb d_M_feed_1 (by decide) ?_
  obtain ⟨hwt, hwf⟩ := hw
  refine lv_icmp_lt (tgt := 11) hx hb d_M_feed_2 (by decide) (fun c_1 => ?_) (fun c_1 => ?_)
  · have hw := hwt c_1
    refine lv_iconst (v := (-1)) hx hb d_M_feed_11 (by decide) ?_
    exact W.iret (v := (-1)) hx hb hr (fun t ht hW => ⟨⟨(-1), (size, row), rfl, hw, by rw [ht]; exact hP, va_K.moved hW.alike hK, hD⟩, hS.F ht⟩) hS.2.2 d_M_feed_12
  · have hw := hwf c_1
    refine lv_iload_n hx hb d_M_feed_5 rfl (lv_at hl 2 rfl) ?_
    refine lv_bipush (v := 8) hx hb d_M_feed_6 (by decide) ?_
    obtain ⟨hwt, hwf⟩ := hw
    refine lv_icmp_le (tgt := 13) hx hb d_M_feed_8 (by decide) (fun c_2 => ?_) (fun c_2 => ?_)
    · have hw := hwt c_2
      refine lv_iload_n hx hb d_M_feed_13 rfl (lv_at hl 2 rfl) ?_
      refine lv_sipush (v := 4096) hx hb d_M_feed_14 (by decide) ?_
      refine lv_aload_n hx hb d_M_feed_17 rfl (lv_at hl 0 rfl) ?_
      refine va_get (D := (dC, dI)) (ci := 4) (v := .ref (ad 1)) (C := R_M) (T := T_M) (N := 5) hx hb hts in_M hown hK hP 0 rfl rfl 0 (by decide) (hts _ tw_251) (fun _ h9 => h9) rfl d_M_feed_18 ?_
      refine va_getN (D := (dC, dI)) (ci := 2) (v := .int size) (C := R_T) (T := T_T) (N := 2) hx hb hts in_T hown hK hP 1 rfl rfl 1 (by decide) (va_Nw.use rfl (hX.2.2.2 _ nw_6)) (fun _ h9 => h9) rfl d_M_feed_21 ?_
      refine lv_isub hx hb d_M_feed_24 ?_
      obtain ⟨hwt, hwf⟩ := hw
      refine lv_icmp_le (tgt := 31) hx hb d_M_feed_25 (by decide) (fun c_3 => ?_) (fun c_3 => ?_)
      · have hw := hwt c_3
        refine lv_aload_n hx hb d_M_feed_31 rfl (lv_at hl 0 rfl) ?_
        refine va_get (D := (dC, dI)) (ci := 4) (v := .ref (ad 1)) (C := R_M) (T := T_M) (N := 5) hx hb hts in_M hown hK hP 0 rfl rfl 0 (by decide) (hts _ tw_251) (fun _ h9 => h9) rfl d_M_feed_32 ?_
        refine lv_lload_n hx hb d_M_feed_35 rfl (lv_at hl 1 rfl) ?_
        refine lv_iload_n hx hb d_M_feed_36 rfl (lv_at hl 2 rfl) ?_
        refine k_callVv (As := [.long p0, .int p1]) (rest := []) (fun (u : Int32 × (Nat → Int32)) => wd_M_feed ad ck lAmt lPl u.1 u.2) ⟨hx, hb, hml, hown, hts⟩ (kc_T_append l dC dI ad ck size row p0 p1 (hw := hw)) (cwV 2 hts (gV tw_252 tw_254 tw_255 tw_17 tw_253) rfl rfl rfl hd_T_append ⟨Nat.le_of_ble_eq_true rfl, Nat.le_of_ble_eq_true rfl⟩) hK hP hD hS hA k_x0c trivial [1, 2] [0] [0, 1, 2] rfl rfl (by decide) (by decide) (fun _ => rfl) (va_recv hK hP (ci := 2) (q0 := 1) rfl rfl) rfl hl.1 rfl (lv_room (Nat.le_of_ble_eq_true rfl)) d_M_feed_37 ⟨Nat.zero_le _, Nat.zero_le _⟩ ?_
        intro u H locs hw hP hD hS
        obtain ⟨size_4, row_5⟩ := u
        have hP : va_P (dC, dI) vwCl (wd_M_feed ad ck lAmt lPl size_4 row_5) H := hP
        have hD : va_D A (wd_M_feed ad ck lAmt lPl size_4 row_5) := hD
        try dsimp only at hw
        refine lv_aload_n hx hb d_M_feed_40 rfl (lv_at hl 0 rfl) ?_
        refine va_get (D := (dC, dI)) (ci := 4) (v := .ref (ad 1)) (C := R_M) (T := T_M) (N := 5) hx hb hts in_M hown hK hP 0 rfl rfl 0 (by decide) (hts _ tw_251) (fun _ h9 => h9) rfl d_M_feed_41 ?_
        refine va_getN (D := (dC, dI)) (ci := 2) (v := .int size_4) (C := R_T) (T := T_T) (N := 2) hx hb hts in_T hown hK hP 1 rfl rfl 1 (by decide) (va_Nw.use rfl (hX.2.2.2 _ nw_6)) (fun _ h9 => h9) rfl d_M_feed_44 ?_
        exact W.iret (v := size_4) hx hb hr (fun t ht hW => ⟨⟨size_4, (size_4, row_5), rfl, hw, by rw [ht]; exact hP, va_K.moved hW.alike hK, hD⟩, hS.F ht⟩) hS.2.2 d_M_feed_47
      · have hw := hwf c_3
        refine lv_bipush (v := (-2)) hx hb d_M_feed_28 (by decide) ?_
        exact W.iret (v := (-2)) hx hb hr (fun t ht hW => ⟨⟨(-2), (size, row), rfl, hw, by rw [ht]; exact hP, va_K.moved hW.alike hK, hD⟩, hS.F ht⟩) hS.2.2 d_M_feed_30
    · have hw := hwf c_2
      refine lv_iconst (v := (-1)) hx hb d_M_feed_11 (by decide) ?_
      exact W.iret (v := (-1)) hx hb hr (fun t ht hW => ⟨⟨(-1), (size, row), rfl, hw, by rw [ht]; exact hP, va_K.moved hW.alike hK, hD⟩, hS.F ht⟩) hS.2.2 d_M_feed_12

abbrev wd_M_cut (ad : Nat → Nat) (ck : Nat → ClassId) (lAmt : Int64) (lPl : Int32) (size : Int32) : va_W := [(ad 0, .inr (4, [.ref (ad 1), .ref (ad 3), .ref (ad 5), .long lAmt, .int lPl])), (ad 1, .inr (2, [.ref (ad 2), .int size]))]
def wp_M_cut (post : Int32 → Int32 → Prop) (lAmt : Int64) (lPl : Int32) (size : Int32) (p0 : Int32) : Prop := (p0 < 0 → (post (-1) size)) ∧ (¬ p0 < 0 → ((p0 ≤ size → (∀ x2_3 : Int32, x2_3 = (size - p0) → (post x2_3 p0))) ∧ (¬ p0 ≤ size → (post (-1) size))))
set_option maxHeartbeats 4000000 in
set_option maxRecDepth 100000 in
theorem kc_M_cut (l : Launch) (dC : Nat → ClassId) (dI : Nat → Nat → Nat) (ad : Nat → Nat) (ck : Nat → ClassId) (sk : Nat → Nat) (lAmt : Int64) (lPl : Int32) (size : Int32) (p0 : Int32) {post : Int32 → Int32 → Prop} (hw : wp_M_cut post lAmt lPl size p0) : k_Ci l y_M_cut ws_M_cut ({ frames := 0, cells := 0, slots := 0, locals := 0 } : Room) (dC, dI) vwCl (TYm ck) (XM sk) [.ref (ad 0), .int p0] (wd_M_cut ad ck lAmt lPl size) (fun (r : Int32) (u : Int32) => post r u) (fun (u : Int32) => wd_M_cut ad ck lAmt lPl u) := by
  intro sz
  refine Met.ofW (cc := c_M_cut) (maxL := 3) (ret := (some .int)) (by decide) rfl ?_
  intro p e s m args below meth c s₁ B hml hv
  obtain ⟨rfl, hsz, hP, hK, hD0, hX⟩ := hv
  have hx := B.exec
  have hb := B.bytes
  have hr := B.returns
  have hts : ∀ w ∈ TB, w.before _ s = true := fun w h => atoms_spec (ws := ws_M_cut) B.pre w (List.mem_cons_of_mem _ h)
  have hown : s.vm.findClass R_M = some m.cls := findClass_of_methodNamed B.named
  have hlocks := B.notSynchronized
  subst hsz
  have hD := hD0.self (sz := s.heap.size)
  generalize hAe : va_A (wd_M_cut ad ck lAmt lPl size) s.heap.size = A at hD hX ⊢
  have hA : ∀ q : Nat, s.heap.size ≤ q → A q := fun q h => by rw [← hAe]; exact Or.inr h
  have hS : va_S A s.heap s.heap [] := va_S.rf
  have hP : va_P (dC, dI) vwCl (wd_M_cut ad ck lAmt lPl size) s.heap := hP
  have hl := lv_entry ([.ref (ad 0), .int p0]) (n := 3) (Nat.le_of_ble_eq_true rfl)
  rw [lg_entry_eq]
  generalize (lg_sl ([.ref (ad 0), .int p0]) ++ List.replicate (3 - (lg_sl ([.ref (ad 0), .int p0])).length) Slot.unset).toArray = ls at hl ⊢
  have hl : lv_has ls 3 [(0, .ref (ad 0)), (1, .int p0)] := hl
  refine lv_iload_n hx hb d_M_cut_0 rfl (lv_at hl 1 rfl) ?_
  obtain ⟨hwt, hwf⟩ := hw
  refine lv_if_lt (tgt := 15) hx hb d_M_cut_1 (by decide) (fun c_1 => ?_) (fun c_1 => ?_)
  · have hw := hwt c_1
    refine lv_iconst (v := (-1)) hx hb d_M_cut_15 (by decide) ?_
    exact W.iret (v := (-1)) hx hb hr (fun t ht hW => ⟨⟨(-1), size, rfl, hw, by rw [ht]; exact hP, va_K.moved hW.alike hK, hD⟩, hS.F ht⟩) hS.2.2 d_M_cut_16
  · have hw := hwf c_1
    refine lv_iload_n hx hb d_M_cut_4 rfl (lv_at hl 1 rfl) ?_
    refine lv_aload_n hx hb d_M_cut_5 rfl (lv_at hl 0 rfl) ?_
    refine va_get (D := (dC, dI)) (ci := 4) (v := .ref (ad 1)) (C := R_M) (T := T_M) (N := 5) hx hb hts in_M hown hK hP 0 rfl rfl 0 (by decide) (hts _ tw_251) (fun _ h9 => h9) rfl d_M_cut_6 ?_
    refine va_getN (D := (dC, dI)) (ci := 2) (v := .int size) (C := R_T) (T := T_T) (N := 2) hx hb hts in_T hown hK hP 1 rfl rfl 1 (by decide) (va_Nw.use rfl (hX.2.2.2 _ nw_6)) (fun _ h9 => h9) rfl d_M_cut_9 ?_
    obtain ⟨hwt, hwf⟩ := hw
    refine lv_icmp_le (tgt := 17) hx hb d_M_cut_12 (by decide) (fun c_2 => ?_) (fun c_2 => ?_)
    · have hw := hwt c_2
      refine lv_aload_n hx hb d_M_cut_17 rfl (lv_at hl 0 rfl) ?_
      refine va_get (D := (dC, dI)) (ci := 4) (v := .ref (ad 1)) (C := R_M) (T := T_M) (N := 5) hx hb hts in_M hown hK hP 0 rfl rfl 0 (by decide) (hts _ tw_251) (fun _ h9 => h9) rfl d_M_cut_18 ?_
      refine va_getN (D := (dC, dI)) (ci := 2) (v := .int size) (C := R_T) (T := T_T) (N := 2) hx hb hts in_T hown hK hP 1 rfl rfl 1 (by decide) (va_Nw.use rfl (hX.2.2.2 _ nw_6)) (fun _ h9 => h9) rfl d_M_cut_21 ?_
      refine lv_iload_n hx hb d_M_cut_24 rfl (lv_at hl 1 rfl) ?_
      refine lv_isub hx hb d_M_cut_25 ?_
      refine lv_topi (fun x2_3 ex2_3 => ?_)
      have hw := hw x2_3 ex2_3
      refine lv_istore_n (lv' := [(2, .int x2_3), (0, .ref (ad 0)), (1, .int p0)]) hx hb d_M_cut_26 rfl hl (by decide) rfl (fun ls hl => ?_)
      refine lv_aload_n hx hb d_M_cut_27 rfl (lv_at hl 1 rfl) ?_
      refine va_get (D := (dC, dI)) (ci := 4) (v := .ref (ad 1)) (C := R_M) (T := T_M) (N := 5) hx hb hts in_M hown hK hP 0 rfl rfl 0 (by decide) (hts _ tw_251) (fun _ h9 => h9) rfl d_M_cut_28 ?_
      refine lv_iload_n hx hb d_M_cut_31 rfl (lv_at hl 2 rfl) ?_
      refine va_putN (D := (dC, dI)) (ci := 2) (v := .int p0) (ty := .int) (C := R_T) (T := T_T) (N := 2) hx hb hts in_T ty_T ty_T_ok nm_T hown hK hP hD hS 1 rfl rfl 1 (by decide) (va_Nw.use rfl (hX.2.2.2 _ nw_6)) (fun _ h9 => h9) rfl (by decide +kernel) rfl rfl (Nat.le_of_ble_eq_true rfl) d_M_cut_32 (fun H locs hP hD hS => ?_)
      have hP : va_P (dC, dI) vwCl (wd_M_cut ad ck lAmt lPl p0) H := hP
      have hD : va_D A (wd_M_cut ad ck lAmt lPl p0) := hD
      refine lv_iload_n hx hb d_M_cut_35 rfl (lv_at hl 0 rfl) ?_
      exact W.iret (v := x2_3) hx hb hr (fun t ht hW => ⟨⟨x2_3, p0, rfl, hw, by rw [ht]; exact hP, va_K.moved hW.alike hK, hD⟩, hS.F ht⟩) hS.2.2 d_M_cut_36
    · have hw := hwf c_2
      refine lv_iconst (v := (-1)) hx hb d_M_cut_15 (by decide) ?_
      exact W.iret (v := (-1)) hx hb hr (fun t ht hW => ⟨⟨(-1), size, rfl, hw, by rw [ht]; exact hP, va_K.moved hW.alike hK, hD⟩, hS.F ht⟩) hS.2.2 d_M_cut_16

abbrev wd_M_reckon (ad : Nat → Nat) (ck : Nat → ClassId) (lAmt : Int64) (lPl : Int32) (size : Int32) (row : Nat → Int32) (start : Int32) (fin : Int32) (kind : Int32) (oT : Int32) (oC : Int32) (amt : Int64) (pln : Int32) (wait : Int32) (held : Int32) (nest : Int32) (skp : Int32) (fmd : Int32) (dvd : Int32) (signs : Nat → Int32) (strs : Nat → Int32) (skips : Nat → Int32) (amts : Nat → Int64) (plns : Nat → Int32) : va_W := [(ad 0, .inr (4, [.ref (ad 1), .ref (ad 3), .ref (ad 5), .long lAmt, .int lPl])), (ad 1, .inr (2, [.ref (ad 2), .int size])), (ad 2, .inl (ck 0, 4096, .inl row)), (ad 3, .inr (3, [.ref (ad 1), .int start, .int fin, .int kind, .int oT, .int oC])), (ad 4, .inr (0, [.ref (ad 1), .long amt, .int pln])), (ad 5, .inr (1, [.ref (ad 3), .ref (ad 4), .ref (ad 6), .ref (ad 7), .ref (ad 8), .ref (ad 9), .ref (ad 10), .int wait, .int held, .int nest, .int skp, .int fmd, .int dvd])), (ad 6, .inl (ck 1, 670, .inl signs)), (ad 7, .inl (ck 2, 670, .inl strs)), (ad 8, .inl (ck 3, 670, .inl skips)), (ad 9, .inl (ck 4, 671, .inr (.inl amts))), (ad 10, .inl (ck 5, 671, .inl plns))]
def w_M_reckon_36 (post : Int32 → Int64 → Int32 → Int32 → Int32 → Int32 → Int32 → Int32 → Int64 → Int32 → Int32 → Int32 → Int32 → Int32 → Int32 → Int32 → (Nat → Int32) → (Nat → Int32) → (Nat → Int32) → (Nat → Int64) → (Nat → Int32) → Prop) (x1 : Int32) (x2 : Int32) (z0 : Int64) (lAmt : Int64) (lPl : Int32) (size : Int32) (row : Nat → Int32) (start : Int32) (fin : Int32) (kind : Int32) (oT : Int32) (oC : Int32) (amt : Int64) (pln : Int32) (wait : Int32) (held : Int32) (nest : Int32) (skp : Int32) (fmd : Int32) (dvd : Int32) (signs : Nat → Int32) (strs : Nat → Int32) (skips : Nat → Int32) (amts : Nat → Int64) (plns : Nat → Int32) : Prop := (x2 = 0 → (post x1 z0 0 start fin kind oT oC amt pln wait held nest skp fmd dvd signs strs skips amts plns)) ∧ (¬ x2 = 0 → (vp_in 0 671 ∧ (((plns (0 : Int32).toNatClampNeg) = 0 → (post x1 z0 0 start fin kind oT oC amt pln wait held nest skp fmd dvd signs strs skips amts plns)) ∧ (¬ (plns (0 : Int32).toNatClampNeg) = 0 → (post x1 z0 1 start fin kind oT oC amt pln wait held nest skp fmd dvd signs strs skips amts plns)))))
def wp_M_reckon (post : Int32 → Int64 → Int32 → Int32 → Int32 → Int32 → Int32 → Int32 → Int64 → Int32 → Int32 → Int32 → Int32 → Int32 → Int32 → Int32 → (Nat → Int32) → (Nat → Int32) → (Nat → Int32) → (Nat → Int64) → (Nat → Int32) → Prop) (lAmt : Int64) (lPl : Int32) (size : Int32) (row : Nat → Int32) (start : Int32) (fin : Int32) (kind : Int32) (oT : Int32) (oC : Int32) (amt : Int64) (pln : Int32) (wait : Int32) (held : Int32) (nest : Int32) (skp : Int32) (fmd : Int32) (dvd : Int32) (signs : Nat → Int32) (strs : Nat → Int32) (skips : Nat → Int32) (amts : Nat → Int64) (plns : Nat → Int32)  : Prop := wp_K_run (fun (r_1 : Int32) (start_2 : Int32) (fin_3 : Int32) (kind_4 : Int32) (oT_5 : Int32) (oC_6 : Int32) (amt_7 : Int64) (pln_8 : Int32) (wait_9 : Int32) (held_10 : Int32) (nest_11 : Int32) (skp_12 : Int32) (fmd_13 : Int32) (dvd_14 : Int32) (signs_15 : Nat → Int32) (strs_16 : Nat → Int32) (skips_17 : Nat → Int32) (amts_18 : Nat → Int64) (plns_19 : Nat → Int32) => (r_1 = 0 → (((1 : Int32) = 0 → (w_M_reckon_36 post r_1 1 0 lAmt lPl size row start_2 fin_3 kind_4 oT_5 oC_6 amt_7 pln_8 wait_9 held_10 nest_11 skp_12 fmd_13 dvd_14 signs_15 strs_16 skips_17 amts_18 plns_19)) ∧ (¬ (1 : Int32) = 0 → (vp_in 0 671 ∧ (w_M_reckon_36 post r_1 1 (amts_18 (0 : Int32).toNatClampNeg) lAmt lPl size row start_2 fin_3 kind_4 oT_5 oC_6 amt_7 pln_8 wait_9 held_10 nest_11 skp_12 fmd_13 dvd_14 signs_15 strs_16 skips_17 amts_18 plns_19))))) ∧ (¬ r_1 = 0 → (((0 : Int32) = 0 → (w_M_reckon_36 post r_1 0 0 lAmt lPl size row start_2 fin_3 kind_4 oT_5 oC_6 amt_7 pln_8 wait_9 held_10 nest_11 skp_12 fmd_13 dvd_14 signs_15 strs_16 skips_17 amts_18 plns_19)) ∧ (¬ (0 : Int32) = 0 → (vp_in 0 671 ∧ (w_M_reckon_36 post r_1 0 (amts_18 (0 : Int32).toNatClampNeg) lAmt lPl size row start_2 fin_3 kind_4 oT_5 oC_6 amt_7 pln_8 wait_9 held_10 nest_11 skp_12 fmd_13 dvd_14 signs_15 strs_16 skips_17 amts_18 plns_19)))))) wait held nest skp fmd dvd size row start fin kind oT oC amt pln signs strs skips amts plns
set_option maxHeartbeats 4000000 in
set_option maxRecDepth 100000 in
theorem kc_M_reckon (l : Launch) (dC : Nat → ClassId) (dI : Nat → Nat → Nat) (ad : Nat → Nat) (ck : Nat → ClassId) (sk : Nat → Nat) (lAmt : Int64) (lPl : Int32) (size : Int32) (row : Nat → Int32) (start : Int32) (fin : Int32) (kind : Int32) (oT : Int32) (oC : Int32) (amt : Int64) (pln : Int32) (wait : Int32) (held : Int32) (nest : Int32) (skp : Int32) (fmd : Int32) (dvd : Int32) (signs : Nat → Int32) (strs : Nat → Int32) (skips : Nat → Int32) (amts : Nat → Int64) (plns : Nat → Int32)  {post : Int32 → Int64 → Int32 → Int32 → Int32 → Int32 → Int32 → Int32 → Int64 → Int32 → Int32 → Int32 → Int32 → Int32 → Int32 → Int32 → (Nat → Int32) → (Nat → Int32) → (Nat → Int32) → (Nat → Int64) → (Nat → Int32) → Prop} (hw : wp_M_reckon post lAmt lPl size row start fin kind oT oC amt pln wait held nest skp fmd dvd signs strs skips amts plns ) : k_Ci l y_M_reckon ws_M_reckon ({ frames := 7, cells := 0, slots := 0, locals := 157 } : Room) (dC, dI) vwCl (TYm ck) (XM sk) [.ref (ad 0)] (wd_M_reckon ad ck lAmt lPl size row start fin kind oT oC amt pln wait held nest skp fmd dvd signs strs skips amts plns) (fun (r : Int32) (u : Int64 × Int32 × Int32 × Int32 × Int32 × Int32 × Int32 × Int64 × Int32 × Int32 × Int32 × Int32 × Int32 × Int32 × Int32 × (Nat → Int32) × (Nat → Int32) × (Nat → Int32) × (Nat → Int64) × (Nat → Int32)) => post r u.1 u.2.1 u.2.2.1 u.2.2.2.1 u.2.2.2.2.1 u.2.2.2.2.2.1 u.2.2.2.2.2.2.1 u.2.2.2.2.2.2.2.1 u.2.2.2.2.2.2.2.2.1 u.2.2.2.2.2.2.2.2.2.1 u.2.2.2.2.2.2.2.2.2.2.1 u.2.2.2.2.2.2.2.2.2.2.2.1 u.2.2.2.2.2.2.2.2.2.2.2.2.1 u.2.2.2.2.2.2.2.2.2.2.2.2.2.1 u.2.2.2.2.2.2.2.2.2.2.2.2.2.2.1 u.2.2.2.2.2.2.2.2.2.2.2.2.2.2.2.1 u.2.2.2.2.2.2.2.2.2.2.2.2.2.2.2.2.1 u.2.2.2.2.2.2.2.2.2.2.2.2.2.2.2.2.2.1 u.2.2.2.2.2.2.2.2.2.2.2.2.2.2.2.2.2.2.1 u.2.2.2.2.2.2.2.2.2.2.2.2.2.2.2.2.2.2.2) (fun (u : Int64 × Int32 × Int32 × Int32 × Int32 × Int32 × Int32 × Int64 × Int32 × Int32 × Int32 × Int32 × Int32 × Int32 × Int32 × (Nat → Int32) × (Nat → Int32) × (Nat → Int32) × (Nat → Int64) × (Nat → Int32)) => wd_M_reckon ad ck u.1 u.2.1 size row u.2.2.1 u.2.2.2.1 u.2.2.2.2.1 u.2.2.2.2.2.1 u.2.2.2.2.2.2.1 u.2.2.2.2.2.2.2.1 u.2.2.2.2.2.2.2.2.1 u.2.2.2.2.2.2.2.2.2.1 u.2.2.2.2.2.2.2.2.2.2.1 u.2.2.2.2.2.2.2.2.2.2.2.1 u.2.2.2.2.2.2.2.2.2.2.2.2.1 u.2.2.2.2.2.2.2.2.2.2.2.2.2.1 u.2.2.2.2.2.2.2.2.2.2.2.2.2.2.1 u.2.2.2.2.2.2.2.2.2.2.2.2.2.2.2.1 u.2.2.2.2.2.2.2.2.2.2.2.2.2.2.2.2.1 u.2.2.2.2.2.2.2.2.2.2.2.2.2.2.2.2.2.1 u.2.2.2.2.2.2.2.2.2.2.2.2.2.2.2.2.2.2.1 u.2.2.2.2.2.2.2.2.2.2.2.2.2.2.2.2.2.2.2) := by
  intro sz
  refine Met.ofW (cc := c_M_reckon) (maxL := 3) (ret := (some .int)) (by decide) rfl ?_
  intro p e s m args below meth c s₁ B hml hv
  obtain ⟨rfl, hsz, hP, hK, hD0, hX⟩ := hv
  have hx := B.exec
  have hb := B.bytes
  have hr := B.returns
  have hts : ∀ w ∈ TB, w.before _ s = true := fun w h => atoms_spec (ws := ws_M_reckon) B.pre w (List.mem_cons_of_mem _ h)
  have hown : s.vm.findClass R_M = some m.cls := findClass_of_methodNamed B.named
  have hlocks := B.notSynchronized
  subst hsz
  have hD := hD0.self (sz := s.heap.size)
  generalize hAe : va_A (wd_M_reckon ad ck lAmt lPl size row start fin kind oT oC amt pln wait held nest skp fmd dvd signs strs skips amts plns) s.heap.size = A at hD hX ⊢
  have hA : ∀ q : Nat, s.heap.size ≤ q → A q := fun q h => by rw [← hAe]; exact Or.inr h
  have hS : va_S A s.heap s.heap [] := va_S.rf
  have hP : va_P (dC, dI) vwCl (wd_M_reckon ad ck lAmt lPl size row start fin kind oT oC amt pln wait held nest skp fmd dvd signs strs skips amts plns) s.heap := hP
  have hl := lv_entry ([.ref (ad 0)]) (n := 3) (Nat.le_of_ble_eq_true rfl)
  rw [lg_entry_eq]
  generalize (lg_sl ([.ref (ad 0)]) ++ List.replicate (3 - (lg_sl ([.ref (ad 0)])).length) Slot.unset).toArray = ls at hl ⊢
  have hl : lv_has ls 3 [(0, .ref (ad 0))] := hl
  have L_36 : ∀ (x1 : Int32) (x2 : Int32) (z0 : Int64) (lAmt : Int64) (lPl : Int32) (size : Int32) (row : Nat → Int32) (start : Int32) (fin : Int32) (kind : Int32) (oT : Int32) (oC : Int32) (amt : Int64) (pln : Int32) (wait : Int32) (held : Int32) (nest : Int32) (skp : Int32) (fmd : Int32) (dvd : Int32) (signs : Nat → Int32) (strs : Nat → Int32) (skips : Nat → Int32) (amts : Nat → Int64) (plns : Nat → Int32) (H : Heap) (locs : List Loc) (ls : Array Slot), w_M_reckon_36 post x1 x2 z0 lAmt lPl size row start fin kind oT oC amt pln wait held nest skp fmd dvd signs strs skips amts plns → va_P (dC, dI) vwCl (wd_M_reckon ad ck lAmt lPl size row start fin kind oT oC amt pln wait held nest skp fmd dvd signs strs skips amts plns) H → va_D A (wd_M_reckon ad ck lAmt lPl size row start fin kind oT oC amt pln wait held nest skp fmd dvd signs strs skips amts plns) → va_S A s.heap H locs → lv_has ls 3 [(0, .ref (ad 0)), (1, .int x1), (2, .int x2)] → W p l e (headSpec ws_M_reckon ({ frames := 7, cells := 0, slots := 0, locals := 157 } : Room)).room s m ([.ref (ad 0)] : List Value).toArray below meth c H locs 0 0 (k_Qi below (dC, dI) vwCl (TYm ck) A (fun (r : Int32) (u : Int64 × Int32 × Int32 × Int32 × Int32 × Int32 × Int32 × Int64 × Int32 × Int32 × Int32 × Int32 × Int32 × Int32 × Int32 × (Nat → Int32) × (Nat → Int32) × (Nat → Int32) × (Nat → Int64) × (Nat → Int32)) => post r u.1 u.2.1 u.2.2.1 u.2.2.2.1 u.2.2.2.2.1 u.2.2.2.2.2.1 u.2.2.2.2.2.2.1 u.2.2.2.2.2.2.2.1 u.2.2.2.2.2.2.2.2.1 u.2.2.2.2.2.2.2.2.2.1 u.2.2.2.2.2.2.2.2.2.2.1 u.2.2.2.2.2.2.2.2.2.2.2.1 u.2.2.2.2.2.2.2.2.2.2.2.2.1 u.2.2.2.2.2.2.2.2.2.2.2.2.2.1 u.2.2.2.2.2.2.2.2.2.2.2.2.2.2.1 u.2.2.2.2.2.2.2.2.2.2.2.2.2.2.2.1 u.2.2.2.2.2.2.2.2.2.2.2.2.2.2.2.2.1 u.2.2.2.2.2.2.2.2.2.2.2.2.2.2.2.2.2.1 u.2.2.2.2.2.2.2.2.2.2.2.2.2.2.2.2.2.2.1 u.2.2.2.2.2.2.2.2.2.2.2.2.2.2.2.2.2.2.2) (fun (u : Int64 × Int32 × Int32 × Int32 × Int32 × Int32 × Int32 × Int64 × Int32 × Int32 × Int32 × Int32 × Int32 × Int32 × Int32 × (Nat → Int32) × (Nat → Int32) × (Nat → Int32) × (Nat → Int64) × (Nat → Int32)) => wd_M_reckon ad ck u.1 u.2.1 size row u.2.2.1 u.2.2.2.1 u.2.2.2.2.1 u.2.2.2.2.2.1 u.2.2.2.2.2.2.1 u.2.2.2.2.2.2.2.1 u.2.2.2.2.2.2.2.2.1 u.2.2.2.2.2.2.2.2.2.1 u.2.2.2.2.2.2.2.2.2.2.1 u.2.2.2.2.2.2.2.2.2.2.2.1 u.2.2.2.2.2.2.2.2.2.2.2.2.1 u.2.2.2.2.2.2.2.2.2.2.2.2.2.1 u.2.2.2.2.2.2.2.2.2.2.2.2.2.2.1 u.2.2.2.2.2.2.2.2.2.2.2.2.2.2.2.1 u.2.2.2.2.2.2.2.2.2.2.2.2.2.2.2.2.1 u.2.2.2.2.2.2.2.2.2.2.2.2.2.2.2.2.2.1 u.2.2.2.2.2.2.2.2.2.2.2.2.2.2.2.2.2.2.1 u.2.2.2.2.2.2.2.2.2.2.2.2.2.2.2.2.2.2.2) ([.ref (ad 0)] : List Value).toArray s) (F0 m 36 ls [.long z0, .ref (ad 0)]) := by
    intro x1 x2 z0 lAmt lPl size row start fin kind oT oC amt pln wait held nest skp fmd dvd signs strs skips amts plns H locs ls hw hP hD hS hl
    refine va_put (D := (dC, dI)) (ci := 4) (v := .long z0) (ty := .long) (C := R_M) (T := T_M) (N := 5) hx hb hts in_M ty_M ty_M_ok nm_M hown hK hP hD hS 0 rfl rfl 3 (by decide) (hts _ tw_261) (fun _ h9 => h9) rfl (by decide +kernel) rfl rfl (Nat.le_of_ble_eq_true rfl) d_M_reckon_36 (fun H locs hP hD hS => ?_)
    have hP : va_P (dC, dI) vwCl (wd_M_reckon ad ck z0 lPl size row start fin kind oT oC amt pln wait held nest skp fmd dvd signs strs skips amts plns) H := hP
    have hD : va_D A (wd_M_reckon ad ck z0 lPl size row start fin kind oT oC amt pln wait held nest skp fmd dvd signs strs skips amts plns) := hD
    refine lv_aload_n hx hb d_M_reckon_39 rfl (lv_at hl 0 rfl) ?_
    refine lv_iload_n hx hb d_M_reckon_40 rfl (lv_at hl 2 rfl) ?_
    obtain ⟨hwt, hwf⟩ := hw
    refine lv_if_eq (tgt := 60) hx hb d_M_reckon_41 (by decide) (fun c_22 => ?_) (fun c_22 => ?_)
    · have hw := hwt c_22
      refine lv_iconst (v := 0) hx hb d_M_reckon_60 (by decide) ?_
      refine va_put (D := (dC, dI)) (ci := 4) (v := .int 0) (ty := .boolean) (C := R_M) (T := T_M) (N := 5) hx hb hts in_M ty_M ty_M_ok nm_M hown hK hP hD hS 0 rfl rfl 4 (by decide) (hts _ tw_262) (fun _ h9 => h9) rfl (by decide +kernel) (by decide) (by decide) (Nat.le_of_ble_eq_true rfl) d_M_reckon_61 (fun H locs hP hD hS => ?_)
      have hP : va_P (dC, dI) vwCl (wd_M_reckon ad ck z0 0 size row start fin kind oT oC amt pln wait held nest skp fmd dvd signs strs skips amts plns) H := hP
      have hD : va_D A (wd_M_reckon ad ck z0 0 size row start fin kind oT oC amt pln wait held nest skp fmd dvd signs strs skips amts plns) := hD
      refine lv_iload_n hx hb d_M_reckon_64 rfl (lv_at hl 1 rfl) ?_
      exact W.iret (v := x1) hx hb hr (fun t ht hW => ⟨⟨x1, (z0, 0, start, fin, kind, oT, oC, amt, pln, wait, held, nest, skp, fmd, dvd, signs, strs, skips, amts, plns), rfl, hw, by rw [ht]; exact hP, va_K.moved hW.alike hK, hD⟩, hS.F ht⟩) hS.2.2 d_M_reckon_65
    · have hw := hwf c_22
      refine lv_aload_n hx hb d_M_reckon_44 rfl (lv_at hl 0 rfl) ?_
      refine va_get (D := (dC, dI)) (ci := 4) (v := .ref (ad 5)) (C := R_M) (T := T_M) (N := 5) hx hb hts in_M hown hK hP 0 rfl rfl 2 (by decide) (hts _ tw_256) (fun _ h9 => h9) rfl d_M_reckon_45 ?_
      refine va_getN (D := (dC, dI)) (ci := 1) (v := .ref (ad 10)) (C := R_K) (T := T_K) (N := 13) hx hb hts in_K hown hK hP 5 rfl rfl 6 (by decide) (va_Nw.use rfl (hX.2.2.2 _ nw_7)) (fun _ h9 => h9) rfl d_M_reckon_48 ?_
      refine lv_iconst (v := 0) hx hb d_M_reckon_51 (by decide) ?_
      obtain ⟨hi_23, hw⟩ := hw
      refine va_zald hx hb hK hP 10 5 rfl rfl hi_23 d_M_reckon_52 ?_
      obtain ⟨hwt, hwf⟩ := hw
      refine lv_if_eq (tgt := 60) hx hb d_M_reckon_53 (by decide) (fun c_24 => ?_) (fun c_24 => ?_)
      · have hw := hwt c_24
        refine lv_iconst (v := 0) hx hb d_M_reckon_60 (by decide) ?_
        refine va_put (D := (dC, dI)) (ci := 4) (v := .int 0) (ty := .boolean) (C := R_M) (T := T_M) (N := 5) hx hb hts in_M ty_M ty_M_ok nm_M hown hK hP hD hS 0 rfl rfl 4 (by decide) (hts _ tw_262) (fun _ h9 => h9) rfl (by decide +kernel) (by decide) (by decide) (Nat.le_of_ble_eq_true rfl) d_M_reckon_61 (fun H locs hP hD hS => ?_)
        have hP : va_P (dC, dI) vwCl (wd_M_reckon ad ck z0 0 size row start fin kind oT oC amt pln wait held nest skp fmd dvd signs strs skips amts plns) H := hP
        have hD : va_D A (wd_M_reckon ad ck z0 0 size row start fin kind oT oC amt pln wait held nest skp fmd dvd signs strs skips amts plns) := hD
        refine lv_iload_n hx hb d_M_reckon_64 rfl (lv_at hl 1 rfl) ?_
        exact W.iret (v := x1) hx hb hr (fun t ht hW => ⟨⟨x1, (z0, 0, start, fin, kind, oT, oC, amt, pln, wait, held, nest, skp, fmd, dvd, signs, strs, skips, amts, plns), rfl, hw, by rw [ht]; exact hP, va_K.moved hW.alike hK, hD⟩, hS.F ht⟩) hS.2.2 d_M_reckon_65
      · have hw := hwf c_24
        refine lv_iconst (v := 1) hx hb d_M_reckon_56 (by decide) ?_
        refine lv_goto (tgt := 61) hx hb d_M_reckon_57 (by decide) ?_
        refine va_put (D := (dC, dI)) (ci := 4) (v := .int 1) (ty := .boolean) (C := R_M) (T := T_M) (N := 5) hx hb hts in_M ty_M ty_M_ok nm_M hown hK hP hD hS 0 rfl rfl 4 (by decide) (hts _ tw_262) (fun _ h9 => h9) rfl (by decide +kernel) (by decide) (by decide) (Nat.le_of_ble_eq_true rfl) d_M_reckon_61 (fun H locs hP hD hS => ?_)
        have hP : va_P (dC, dI) vwCl (wd_M_reckon ad ck z0 1 size row start fin kind oT oC amt pln wait held nest skp fmd dvd signs strs skips amts plns) H := hP
        have hD : va_D A (wd_M_reckon ad ck z0 1 size row start fin kind oT oC amt pln wait held nest skp fmd dvd signs strs skips amts plns) := hD
        refine lv_iload_n hx hb d_M_reckon_64 rfl (lv_at hl 1 rfl) ?_
        exact W.iret (v := x1) hx hb hr (fun t ht hW => ⟨⟨x1, (z0, 1, start, fin, kind, oT, oC, amt, pln, wait, held, nest, skp, fmd, dvd, signs, strs, skips, amts, plns), rfl, hw, by rw [ht]; exact hP, va_K.moved hW.alike hK, hD⟩, hS.F ht⟩) hS.2.2 d_M_reckon_65
  refine lv_aload_n hx hb d_M_reckon_0 rfl (lv_at hl 0 rfl) ?_
  refine va_get (D := (dC, dI)) (ci := 4) (v := .ref (ad 5)) (C := R_M) (T := T_M) (N := 5) hx hb hts in_M hown hK hP 0 rfl rfl 2 (by decide) (hts _ tw_256) (fun _ h9 => h9) rfl d_M_reckon_1 ?_
  refine k_callVi (As := []) (rest := []) (fun (u : Int32 × Int32 × Int32 × Int32 × Int32 × Int64 × Int32 × Int32 × Int32 × Int32 × Int32 × Int32 × Int32 × (Nat → Int32) × (Nat → Int32) × (Nat → Int32) × (Nat → Int64) × (Nat → Int32)) => wd_M_reckon ad ck lAmt lPl size row u.1 u.2.1 u.2.2.1 u.2.2.2.1 u.2.2.2.2.1 u.2.2.2.2.2.1 u.2.2.2.2.2.2.1 u.2.2.2.2.2.2.2.1 u.2.2.2.2.2.2.2.2.1 u.2.2.2.2.2.2.2.2.2.1 u.2.2.2.2.2.2.2.2.2.2.1 u.2.2.2.2.2.2.2.2.2.2.2.1 u.2.2.2.2.2.2.2.2.2.2.2.2.1 u.2.2.2.2.2.2.2.2.2.2.2.2.2.1 u.2.2.2.2.2.2.2.2.2.2.2.2.2.2.1 u.2.2.2.2.2.2.2.2.2.2.2.2.2.2.2.1 u.2.2.2.2.2.2.2.2.2.2.2.2.2.2.2.2.1 u.2.2.2.2.2.2.2.2.2.2.2.2.2.2.2.2.2) ⟨hx, hb, hml, hown, hts⟩ (kc_K_run l dC dI ad ck sk wait held nest skp fmd dvd size row start fin kind oT oC amt pln signs strs skips amts plns (hw := hw)) (cwV 0 hts (gV tw_257 tw_259 tw_260 tw_161 tw_258) rfl rfl rfl hd_K_run ⟨Nat.le_of_ble_eq_true rfl, Nat.le_of_ble_eq_true rfl⟩) hK hP hD hS hA (XM_c sk) hX [5, 1, 2, 3, 4, 6, 7, 8, 9, 10] [0] [0, 2, 3, 4, 5, 1, 6, 7, 8, 9, 10] rfl rfl (by decide) (by decide) (fun _ => rfl) (va_recv hK hP (ci := 1) (q0 := 5) rfl rfl) rfl hl.1 rfl (lv_room (Nat.le_of_ble_eq_true rfl)) d_M_reckon_4 ⟨Nat.zero_le _, Nat.zero_le _⟩ ?_
  intro r_1 u H locs hw hP hD hS
  obtain ⟨start_2, fin_3, kind_4, oT_5, oC_6, amt_7, pln_8, wait_9, held_10, nest_11, skp_12, fmd_13, dvd_14, signs_15, strs_16, skips_17, amts_18, plns_19⟩ := u
  have hP : va_P (dC, dI) vwCl (wd_M_reckon ad ck lAmt lPl size row start_2 fin_3 kind_4 oT_5 oC_6 amt_7 pln_8 wait_9 held_10 nest_11 skp_12 fmd_13 dvd_14 signs_15 strs_16 skips_17 amts_18 plns_19) H := hP
  have hD : va_D A (wd_M_reckon ad ck lAmt lPl size row start_2 fin_3 kind_4 oT_5 oC_6 amt_7 pln_8 wait_9 held_10 nest_11 skp_12 fmd_13 dvd_14 signs_15 strs_16 skips_17 amts_18 plns_19) := hD
  try dsimp only at hw
  refine lv_istore_n (lv' := [(1, .int r_1), (0, .ref (ad 0))]) hx hb d_M_reckon_7 rfl hl (by decide) rfl (fun ls hl => ?_)
  refine lv_iload_n hx hb d_M_reckon_8 rfl (lv_at hl 0 rfl) ?_
  obtain ⟨hwt, hwf⟩ := hw
  refine lv_if_ne (tgt := 16) hx hb d_M_reckon_9 (by decide) (fun c_20 => ?_) (fun c_20 => ?_)
  · have hw := hwf c_20
    refine lv_iconst (v := 0) hx hb d_M_reckon_16 (by decide) ?_
    refine lv_istore_n (lv' := [(2, .int 0), (1, .int r_1), (0, .ref (ad 0))]) hx hb d_M_reckon_17 rfl hl (by decide) rfl (fun ls hl => ?_)
    refine lv_aload_n hx hb d_M_reckon_18 rfl (lv_at hl 2 rfl) ?_
    refine lv_iload_n hx hb d_M_reckon_19 rfl (lv_at hl 0 rfl) ?_
    obtain ⟨hwt, hwf⟩ := hw
    refine lv_if_eq (tgt := 35) hx hb d_M_reckon_20 (by decide) (fun c_21 => ?_) (fun c_21 => ?_)
    · have hw := hwt c_21
      refine lv_lconst (v := 0) hx hb d_M_reckon_35 (by decide) ?_
      exact L_36 r_1 0 0 lAmt lPl size row start_2 fin_3 kind_4 oT_5 oC_6 amt_7 pln_8 wait_9 held_10 nest_11 skp_12 fmd_13 dvd_14 signs_15 strs_16 skips_17 amts_18 plns_19 _ _ _ hw hP hD hS (lv_sub hl [2, 1, 0] rfl)
    · have hw := hwf c_21
      refine lv_aload_n hx hb d_M_reckon_23 rfl (lv_at hl 2 rfl) ?_
      refine va_get (D := (dC, dI)) (ci := 4) (v := .ref (ad 5)) (C := R_M) (T := T_M) (N := 5) hx hb hts in_M hown hK hP 0 rfl rfl 2 (by decide) (hts _ tw_256) (fun _ h9 => h9) rfl d_M_reckon_24 ?_
      refine va_getN (D := (dC, dI)) (ci := 1) (v := .ref (ad 9)) (C := R_K) (T := T_K) (N := 13) hx hb hts in_K hown hK hP 5 rfl rfl 5 (by decide) (va_Nw.use rfl (hX.2.2.2 _ nw_8)) (fun _ h9 => h9) rfl d_M_reckon_27 ?_
      refine lv_iconst (v := 0) hx hb d_M_reckon_30 (by decide) ?_
      obtain ⟨hi_25, hw⟩ := hw
      refine va_lald hx hb hK hP 9 4 rfl rfl hi_25 d_M_reckon_31 ?_
      refine lv_goto (tgt := 36) hx hb d_M_reckon_32 (by decide) ?_
      exact L_36 r_1 0 (amts_18 (0 : Int32).toNatClampNeg) lAmt lPl size row start_2 fin_3 kind_4 oT_5 oC_6 amt_7 pln_8 wait_9 held_10 nest_11 skp_12 fmd_13 dvd_14 signs_15 strs_16 skips_17 amts_18 plns_19 _ _ _ hw hP hD hS (lv_sub hl [2, 1, 0] rfl)
  · have hw := hwt c_20
    refine lv_iconst (v := 1) hx hb d_M_reckon_12 (by decide) ?_
    refine lv_goto (tgt := 17) hx hb d_M_reckon_13 (by decide) ?_
    refine lv_istore_n (lv' := [(2, .int 1), (1, .int r_1), (0, .ref (ad 0))]) hx hb d_M_reckon_17 rfl hl (by decide) rfl (fun ls hl => ?_)
    refine lv_aload_n hx hb d_M_reckon_18 rfl (lv_at hl 2 rfl) ?_
    refine lv_iload_n hx hb d_M_reckon_19 rfl (lv_at hl 0 rfl) ?_
    obtain ⟨hwt, hwf⟩ := hw
    refine lv_if_eq (tgt := 35) hx hb d_M_reckon_20 (by decide) (fun c_26 => ?_) (fun c_26 => ?_)
    · have hw := hwt c_26
      refine lv_lconst (v := 0) hx hb d_M_reckon_35 (by decide) ?_
      exact L_36 r_1 1 0 lAmt lPl size row start_2 fin_3 kind_4 oT_5 oC_6 amt_7 pln_8 wait_9 held_10 nest_11 skp_12 fmd_13 dvd_14 signs_15 strs_16 skips_17 amts_18 plns_19 _ _ _ hw hP hD hS (lv_sub hl [2, 1, 0] rfl)
    · have hw := hwf c_26
      refine lv_aload_n hx hb d_M_reckon_23 rfl (lv_at hl 2 rfl) ?_
      refine va_get (D := (dC, dI)) (ci := 4) (v := .ref (ad 5)) (C := R_M) (T := T_M) (N := 5) hx hb hts in_M hown hK hP 0 rfl rfl 2 (by decide) (hts _ tw_256) (fun _ h9 => h9) rfl d_M_reckon_24 ?_
      refine va_getN (D := (dC, dI)) (ci := 1) (v := .ref (ad 9)) (C := R_K) (T := T_K) (N := 13) hx hb hts in_K hown hK hP 5 rfl rfl 5 (by decide) (va_Nw.use rfl (hX.2.2.2 _ nw_8)) (fun _ h9 => h9) rfl d_M_reckon_27 ?_
      refine lv_iconst (v := 0) hx hb d_M_reckon_30 (by decide) ?_
      obtain ⟨hi_27, hw⟩ := hw
      refine va_lald hx hb hK hP 9 4 rfl rfl hi_27 d_M_reckon_31 ?_
      refine lv_goto (tgt := 36) hx hb d_M_reckon_32 (by decide) ?_
      exact L_36 r_1 1 (amts_18 (0 : Int32).toNatClampNeg) lAmt lPl size row start_2 fin_3 kind_4 oT_5 oC_6 amt_7 pln_8 wait_9 held_10 nest_11 skp_12 fmd_13 dvd_14 signs_15 strs_16 skips_17 amts_18 plns_19 _ _ _ hw hP hD hS (lv_sub hl [2, 1, 0] rfl)

abbrev wd_M_value (ad : Nat → Nat) (ck : Nat → ClassId) (lAmt : Int64) (lPl : Int32) : va_W := [(ad 0, .inr (4, [.ref (ad 1), .ref (ad 3), .ref (ad 5), .long lAmt, .int lPl]))]
def wp_M_value (post : Int64 → Prop) (lAmt : Int64) (lPl : Int32)  : Prop := post lAmt
set_option maxHeartbeats 4000000 in
set_option maxRecDepth 100000 in
theorem kc_M_value (l : Launch) (dC : Nat → ClassId) (dI : Nat → Nat → Nat) (ad : Nat → Nat) (ck : Nat → ClassId) (lAmt : Int64) (lPl : Int32)  {post : Int64 → Prop} (hw : wp_M_value post lAmt lPl ) : k_Cl l y_M_value ws_M_value ({ frames := 0, cells := 0, slots := 0, locals := 0 } : Room) (dC, dI) vwCl (TYm ck) k_x0 [.ref (ad 0)] (wd_M_value ad ck lAmt lPl) (fun (r : Int64) (u : Unit) => post r ) (fun (u : Unit) => wd_M_value ad ck lAmt lPl) := by
  intro sz
  refine Met.ofW (cc := c_M_value) (maxL := 1) (ret := (some .long)) (by decide) rfl ?_
  intro p e s m args below meth c s₁ B hml hv
  obtain ⟨rfl, hsz, hP, hK, hD0, hX⟩ := hv
  have hx := B.exec
  have hb := B.bytes
  have hr := B.returns
  have hts : ∀ w ∈ TB, w.before _ s = true := fun w h => atoms_spec (ws := ws_M_value) B.pre w (List.mem_cons_of_mem _ h)
  have hown : s.vm.findClass R_M = some m.cls := findClass_of_methodNamed B.named
  have hlocks := B.notSynchronized
  subst hsz
  have hD := hD0.self (sz := s.heap.size)
  generalize hAe : va_A (wd_M_value ad ck lAmt lPl) s.heap.size = A at hD hX ⊢
  have hA : ∀ q : Nat, s.heap.size ≤ q → A q := fun q h => by rw [← hAe]; exact Or.inr h
  have hS : va_S A s.heap s.heap [] := va_S.rf
  have hP : va_P (dC, dI) vwCl (wd_M_value ad ck lAmt lPl) s.heap := hP
  have hl := lv_entry ([.ref (ad 0)]) (n := 1) (Nat.le_of_ble_eq_true rfl)
  rw [lg_entry_eq]
  generalize (lg_sl ([.ref (ad 0)]) ++ List.replicate (1 - (lg_sl ([.ref (ad 0)])).length) Slot.unset).toArray = ls at hl ⊢
  have hl : lv_has ls 1 [(0, .ref (ad 0))] := hl
  refine lv_aload_n hx hb d_M_value_0 rfl (lv_at hl 0 rfl) ?_
  refine va_get (D := (dC, dI)) (ci := 4) (v := .long lAmt) (C := R_M) (T := T_M) (N := 5) hx hb hts in_M hown hK hP 0 rfl rfl 3 (by decide) (hts _ tw_261) (fun _ h9 => h9) rfl d_M_value_1 ?_
  exact W.lret (v := lAmt) hx hb hr (fun t ht hW => ⟨⟨lAmt, (), rfl, hw, by rw [ht]; exact hP, va_K.moved hW.alike hK, hD⟩, hS.F ht⟩) hS.2.2 d_M_value_4

abbrev wd_M_isPlain (ad : Nat → Nat) (ck : Nat → ClassId) (lAmt : Int64) (lPl : Int32) : va_W := [(ad 0, .inr (4, [.ref (ad 1), .ref (ad 3), .ref (ad 5), .long lAmt, .int lPl]))]
def wp_M_isPlain (post : Int32 → Prop) (lAmt : Int64) (lPl : Int32)  : Prop := vz lPl ∧ (post lPl)
set_option maxHeartbeats 4000000 in
set_option maxRecDepth 100000 in
theorem kc_M_isPlain (l : Launch) (dC : Nat → ClassId) (dI : Nat → Nat → Nat) (ad : Nat → Nat) (ck : Nat → ClassId) (lAmt : Int64) (lPl : Int32)  {post : Int32 → Prop} (hw : wp_M_isPlain post lAmt lPl ) : k_Ci l y_M_isPlain ws_M_isPlain ({ frames := 0, cells := 0, slots := 0, locals := 0 } : Room) (dC, dI) vwCl (TYm ck) k_x0 [.ref (ad 0)] (wd_M_isPlain ad ck lAmt lPl) (fun (r : Int32) (u : Unit) => post r ) (fun (u : Unit) => wd_M_isPlain ad ck lAmt lPl) := by
  intro sz
  refine Met.ofW (cc := c_M_isPlain) (maxL := 1) (ret := (some .boolean)) (by decide) rfl ?_
  intro p e s m args below meth c s₁ B hml hv
  obtain ⟨rfl, hsz, hP, hK, hD0, hX⟩ := hv
  have hx := B.exec
  have hb := B.bytes
  have hr := B.returns
  have hts : ∀ w ∈ TB, w.before _ s = true := fun w h => atoms_spec (ws := ws_M_isPlain) B.pre w (List.mem_cons_of_mem _ h)
  have hown : s.vm.findClass R_M = some m.cls := findClass_of_methodNamed B.named
  have hlocks := B.notSynchronized
  subst hsz
  have hD := hD0.self (sz := s.heap.size)
  generalize hAe : va_A (wd_M_isPlain ad ck lAmt lPl) s.heap.size = A at hD hX ⊢
  have hA : ∀ q : Nat, s.heap.size ≤ q → A q := fun q h => by rw [← hAe]; exact Or.inr h
  have hS : va_S A s.heap s.heap [] := va_S.rf
  have hP : va_P (dC, dI) vwCl (wd_M_isPlain ad ck lAmt lPl) s.heap := hP
  have hl := lv_entry ([.ref (ad 0)]) (n := 1) (Nat.le_of_ble_eq_true rfl)
  rw [lg_entry_eq]
  generalize (lg_sl ([.ref (ad 0)]) ++ List.replicate (1 - (lg_sl ([.ref (ad 0)])).length) Slot.unset).toArray = ls at hl ⊢
  have hl : lv_has ls 1 [(0, .ref (ad 0))] := hl
  refine lv_aload_n hx hb d_M_isPlain_0 rfl (lv_at hl 0 rfl) ?_
  refine va_get (D := (dC, dI)) (ci := 4) (v := .int lPl) (C := R_M) (T := T_M) (N := 5) hx hb hts in_M hown hK hP 0 rfl rfl 4 (by decide) (hts _ tw_262) (fun _ h9 => h9) rfl d_M_isPlain_1 ?_
  obtain ⟨hz_1, hw⟩ := hw
  exact W.zret (v := lPl) hx hb hr (vz_n hz_1) (fun t ht hW => ⟨⟨lPl, (), rfl, hw, by rw [ht]; exact hP, va_K.moved hW.alike hK, hD⟩, hS.F ht⟩) hS.2.2 d_M_isPlain_4

abbrev wd_M_tokens (ad : Nat → Nat) (ck : Nat → ClassId) (lAmt : Int64) (lPl : Int32) (size : Int32) (row : Nat → Int32) (start : Int32) (fin : Int32) (kind : Int32) (oT : Int32) (oC : Int32) : va_W := [(ad 0, .inr (4, [.ref (ad 1), .ref (ad 3), .ref (ad 5), .long lAmt, .int lPl])), (ad 1, .inr (2, [.ref (ad 2), .int size])), (ad 2, .inl (ck 0, 4096, .inl row)), (ad 3, .inr (3, [.ref (ad 1), .int start, .int fin, .int kind, .int oT, .int oC]))]
def w_M_tokens_9 (post : Int32 → Int32 → Int32 → Int32 → Int32 → Int32 → Prop) (lAmt : Int64) (lPl : Int32) (size : Int32) (row : Nat → Int32) : Nat → Int32 → Int32 → Int32 → Int32 → Int32 → Int32 → Prop
  | 0 => fun _ _ _ _ _ _ => False
  | n + 1 => fun x1 start fin kind oT oC => (4096 ≤ x1 → (post x1 start fin kind oT oC)) ∧ (¬ 4096 ≤ x1 → (wp_W_step (fun (r_7 : Int32) (start_8 : Int32) (fin_9 : Int32) (kind_10 : Int32) (oT_11 : Int32) (oC_12 : Int32) => (r_7 = 0 → (post x1 start_8 fin_9 kind_10 oT_11 oC_12)) ∧ (¬ r_7 = 0 → (∀ x1_14 : Int32, x1_14 = x1 + 1 → (w_M_tokens_9 post lAmt lPl size row n x1_14 start_8 fin_9 kind_10 oT_11 oC_12)))) start fin kind oT oC size row))
def wp_M_tokens (post : Int32 → Int32 → Int32 → Int32 → Int32 → Int32 → Prop) (lAmt : Int64) (lPl : Int32) (size : Int32) (row : Nat → Int32) (start : Int32) (fin : Int32) (kind : Int32) (oT : Int32) (oC : Int32)  : Prop := wp_W_restart (fun (start_1 : Int32) (fin_2 : Int32) (kind_3 : Int32) (oT_4 : Int32) (oC_5 : Int32) => ∃ fu9 : Nat, w_M_tokens_9 post lAmt lPl size row fu9 0 start_1 fin_2 kind_3 oT_4 oC_5) start fin kind oT oC
set_option maxHeartbeats 4000000 in
set_option maxRecDepth 100000 in
theorem kc_M_tokens (l : Launch) (dC : Nat → ClassId) (dI : Nat → Nat → Nat) (ad : Nat → Nat) (ck : Nat → ClassId) (sk : Nat → Nat) (lAmt : Int64) (lPl : Int32) (size : Int32) (row : Nat → Int32) (start : Int32) (fin : Int32) (kind : Int32) (oT : Int32) (oC : Int32)  {post : Int32 → Int32 → Int32 → Int32 → Int32 → Int32 → Prop} (hw : wp_M_tokens post lAmt lPl size row start fin kind oT oC ) : k_Ci l y_M_tokens ws_M_tokens ({ frames := 6, cells := 0, slots := 0, locals := 135 } : Room) (dC, dI) vwCl (TYm ck) (XM sk) [.ref (ad 0)] (wd_M_tokens ad ck lAmt lPl size row start fin kind oT oC) (fun (r : Int32) (u : Int32 × Int32 × Int32 × Int32 × Int32) => post r u.1 u.2.1 u.2.2.1 u.2.2.2.1 u.2.2.2.2) (fun (u : Int32 × Int32 × Int32 × Int32 × Int32) => wd_M_tokens ad ck lAmt lPl size row u.1 u.2.1 u.2.2.1 u.2.2.2.1 u.2.2.2.2) := by
  intro sz
  refine Met.ofW (cc := c_M_tokens) (maxL := 2) (ret := (some .int)) (by decide) rfl ?_
  intro p e s m args below meth c s₁ B hml hv
  obtain ⟨rfl, hsz, hP, hK, hD0, hX⟩ := hv
  have hx := B.exec
  have hb := B.bytes
  have hr := B.returns
  have hts : ∀ w ∈ TB, w.before _ s = true := fun w h => atoms_spec (ws := ws_M_tokens) B.pre w (List.mem_cons_of_mem _ h)
  have hown : s.vm.findClass R_M = some m.cls := findClass_of_methodNamed B.named
  have hlocks := B.notSynchronized
  subst hsz
  have hD := hD0.self (sz := s.heap.size)
  generalize hAe : va_A (wd_M_tokens ad ck lAmt lPl size row start fin kind oT oC) s.heap.size = A at hD hX ⊢
  have hA : ∀ q : Nat, s.heap.size ≤ q → A q := fun q h => by rw [← hAe]; exact Or.inr h
  have hS : va_S A s.heap s.heap [] := va_S.rf
  have hP : va_P (dC, dI) vwCl (wd_M_tokens ad ck lAmt lPl size row start fin kind oT oC) s.heap := hP
  have hl := lv_entry ([.ref (ad 0)]) (n := 2) (Nat.le_of_ble_eq_true rfl)
  rw [lg_entry_eq]
  generalize (lg_sl ([.ref (ad 0)]) ++ List.replicate (2 - (lg_sl ([.ref (ad 0)])).length) Slot.unset).toArray = ls at hl ⊢
  have hl : lv_has ls 2 [(0, .ref (ad 0))] := hl
  have L_9 : ∀ (lAmt : Int64) (lPl : Int32) (size : Int32) (row : Nat → Int32) (n : Nat) (x1 : Int32) (start : Int32) (fin : Int32) (kind : Int32) (oT : Int32) (oC : Int32) (H : Heap) (locs : List Loc) (ls : Array Slot), w_M_tokens_9 post lAmt lPl size row n x1 start fin kind oT oC → va_P (dC, dI) vwCl (wd_M_tokens ad ck lAmt lPl size row start fin kind oT oC) H → va_D A (wd_M_tokens ad ck lAmt lPl size row start fin kind oT oC) → va_S A s.heap H locs → lv_has ls 2 [(0, .ref (ad 0)), (1, .int x1)] → W p l e (headSpec ws_M_tokens ({ frames := 6, cells := 0, slots := 0, locals := 135 } : Room)).room s m ([.ref (ad 0)] : List Value).toArray below meth c H locs 0 0 (k_Qi below (dC, dI) vwCl (TYm ck) A (fun (r : Int32) (u : Int32 × Int32 × Int32 × Int32 × Int32) => post r u.1 u.2.1 u.2.2.1 u.2.2.2.1 u.2.2.2.2) (fun (u : Int32 × Int32 × Int32 × Int32 × Int32) => wd_M_tokens ad ck lAmt lPl size row u.1 u.2.1 u.2.2.1 u.2.2.2.1 u.2.2.2.2) ([.ref (ad 0)] : List Value).toArray s) (F0 m 9 ls []) := by
    intro lAmt lPl size row n
    induction n with
    | zero =>
      intro x1 start fin kind oT oC H locs ls hw
      exact False.elim hw
    | succ n ih =>
      intro x1 start fin kind oT oC H locs ls hw hP hD hS hl
      refine lv_iload_n hx hb d_M_tokens_9 rfl (lv_at hl 1 rfl) ?_
      refine lv_sipush (v := 4096) hx hb d_M_tokens_10 (by decide) ?_
      obtain ⟨hwt, hwf⟩ := hw
      refine lv_icmp_ge (tgt := 32) hx hb d_M_tokens_13 (by decide) (fun c_6 => ?_) (fun c_6 => ?_)
      · have hw := hwt c_6
        refine lv_iload_n hx hb d_M_tokens_32 rfl (lv_at hl 1 rfl) ?_
        exact W.iret (v := x1) hx hb hr (fun t ht hW => ⟨⟨x1, (start, fin, kind, oT, oC), rfl, hw, by rw [ht]; exact hP, va_K.moved hW.alike hK, hD⟩, hS.F ht⟩) hS.2.2 d_M_tokens_33
      · have hw := hwf c_6
        refine lv_aload_n hx hb d_M_tokens_16 rfl (lv_at hl 0 rfl) ?_
        refine va_get (D := (dC, dI)) (ci := 4) (v := .ref (ad 3)) (C := R_M) (T := T_M) (N := 5) hx hb hts in_M hown hK hP 0 rfl rfl 1 (by decide) (hts _ tw_263) (fun _ h9 => h9) rfl d_M_tokens_17 ?_
        refine k_callVi (As := []) (rest := []) (fun (u : Int32 × Int32 × Int32 × Int32 × Int32) => wd_M_tokens ad ck lAmt lPl size row u.1 u.2.1 u.2.2.1 u.2.2.2.1 u.2.2.2.2) ⟨hx, hb, hml, hown, hts⟩ (kc_W_step l dC dI ad ck sk start fin kind oT oC size row (hw := hw)) (cwV 0 hts (gV tw_265 tw_241 tw_242 tw_6 tw_240) rfl rfl rfl hd_W_step ⟨Nat.le_of_ble_eq_true rfl, Nat.le_of_ble_eq_true rfl⟩) hK hP hD hS hA (XM_c sk) hX [3, 1, 2] [0] [0, 2, 3, 1] rfl rfl (by decide) (by decide) (fun _ => rfl) (va_recv hK hP (ci := 3) (q0 := 3) rfl rfl) rfl hl.1 rfl (lv_room (Nat.le_of_ble_eq_true rfl)) d_M_tokens_20 ⟨Nat.zero_le _, Nat.zero_le _⟩ ?_
        intro r_7 u H locs hw hP hD hS
        obtain ⟨start_8, fin_9, kind_10, oT_11, oC_12⟩ := u
        have hP : va_P (dC, dI) vwCl (wd_M_tokens ad ck lAmt lPl size row start_8 fin_9 kind_10 oT_11 oC_12) H := hP
        have hD : va_D A (wd_M_tokens ad ck lAmt lPl size row start_8 fin_9 kind_10 oT_11 oC_12) := hD
        try dsimp only at hw
        obtain ⟨hwt, hwf⟩ := hw
        refine lv_if_eq (tgt := 32) hx hb d_M_tokens_23 (by decide) (fun c_13 => ?_) (fun c_13 => ?_)
        · have hw := hwt c_13
          refine lv_iload_n hx hb d_M_tokens_32 rfl (lv_at hl 1 rfl) ?_
          exact W.iret (v := x1) hx hb hr (fun t ht hW => ⟨⟨x1, (start_8, fin_9, kind_10, oT_11, oC_12), rfl, hw, by rw [ht]; exact hP, va_K.moved hW.alike hK, hD⟩, hS.F ht⟩) hS.2.2 d_M_tokens_33
        · have hw := hwf c_13
          obtain ⟨x1_14, ex1_14⟩ : ∃ y : Int32, y = x1 + 1 := ⟨_, rfl⟩
          have hw := hw x1_14 ex1_14
          refine lv_iinc (v := x1_14) (lv' := [(1, .int x1_14), (0, .ref (ad 0))]) hx hb d_M_tokens_26 hl (k := 1) rfl (by rw [ex1_14]; rfl) (by decide) rfl (fun ls hl => ?_)
          refine lv_goto (tgt := 9) hx hb d_M_tokens_29 (by decide) ?_
          exact ih x1_14 start_8 fin_9 kind_10 oT_11 oC_12 _ _ _ hw hP hD hS (lv_sub hl [1, 0] rfl)
  refine lv_aload_n hx hb d_M_tokens_0 rfl (lv_at hl 0 rfl) ?_
  refine va_get (D := (dC, dI)) (ci := 4) (v := .ref (ad 3)) (C := R_M) (T := T_M) (N := 5) hx hb hts in_M hown hK hP 0 rfl rfl 1 (by decide) (hts _ tw_263) (fun _ h9 => h9) rfl d_M_tokens_1 ?_
  refine k_callVv (As := []) (rest := []) (fun (u : Int32 × Int32 × Int32 × Int32 × Int32) => wd_M_tokens ad ck lAmt lPl size row u.1 u.2.1 u.2.2.1 u.2.2.2.1 u.2.2.2.2) ⟨hx, hb, hml, hown, hts⟩ (kc_W_restart l dC dI ad ck start fin kind oT oC (hw := hw)) (cwV 0 hts (gV tw_264 tw_156 tw_157 tw_6 tw_155) rfl rfl rfl hd_W_restart ⟨Nat.le_of_ble_eq_true rfl, Nat.le_of_ble_eq_true rfl⟩) hK hP hD hS hA k_x0c trivial [3] [0, 1, 2] [0, 1, 2, 3] rfl rfl (by decide) (by decide) (fun _ => rfl) (va_recv hK hP (ci := 3) (q0 := 3) rfl rfl) rfl hl.1 rfl (lv_room (Nat.le_of_ble_eq_true rfl)) d_M_tokens_4 ⟨Nat.zero_le _, Nat.zero_le _⟩ ?_
  intro u H locs hw hP hD hS
  obtain ⟨start_1, fin_2, kind_3, oT_4, oC_5⟩ := u
  have hP : va_P (dC, dI) vwCl (wd_M_tokens ad ck lAmt lPl size row start_1 fin_2 kind_3 oT_4 oC_5) H := hP
  have hD : va_D A (wd_M_tokens ad ck lAmt lPl size row start_1 fin_2 kind_3 oT_4 oC_5) := hD
  try dsimp only at hw
  refine lv_iconst (v := 0) hx hb d_M_tokens_7 (by decide) ?_
  refine lv_istore_n (lv' := [(1, .int 0), (0, .ref (ad 0))]) hx hb d_M_tokens_8 rfl hl (by decide) rfl (fun ls hl => ?_)
  obtain ⟨fu9, hw⟩ := hw
  exact L_9 lAmt lPl size row fu9 0 start_1 fin_2 kind_3 oT_4 oC_5 _ _ _ hw hP hD hS (lv_sub hl [1, 0] rfl)

abbrev wd_M_token (ad : Nat → Nat) (ck : Nat → ClassId) (lAmt : Int64) (lPl : Int32) (size : Int32) (row : Nat → Int32) (start : Int32) (fin : Int32) (kind : Int32) (oT : Int32) (oC : Int32) : va_W := [(ad 0, .inr (4, [.ref (ad 1), .ref (ad 3), .ref (ad 5), .long lAmt, .int lPl])), (ad 1, .inr (2, [.ref (ad 2), .int size])), (ad 2, .inl (ck 0, 4096, .inl row)), (ad 3, .inr (3, [.ref (ad 1), .int start, .int fin, .int kind, .int oT, .int oC]))]
def w_M_token_31 (post : Int32 → Int32 → Int32 → Int32 → Int32 → Int32 → Prop) (x1 : Int32) (x2 : Int32) (lAmt : Int64) (lPl : Int32) (size : Int32) (row : Nat → Int32) : Nat → Int32 → Int32 → Int32 → Int32 → Int32 → Int32 → Prop
  | 0 => fun _ _ _ _ _ _ => False
  | n + 1 => fun x3 start fin kind oT oC => (x1 < x3 → ((x2 = 0 → (post start start fin kind oT oC)) ∧ (¬ x2 = 0 → ((x2 = 1 → (post (fin - start) start fin kind oT oC)) ∧ (¬ x2 = 1 → (post kind start fin kind oT oC)))))) ∧ (¬ x1 < x3 → (wp_W_step (fun (r_13 : Int32) (start_14 : Int32) (fin_15 : Int32) (kind_16 : Int32) (oT_17 : Int32) (oC_18 : Int32) => (r_13 = 0 → (post (-1) start_14 fin_15 kind_16 oT_17 oC_18)) ∧ (¬ r_13 = 0 → (∀ x3_20 : Int32, x3_20 = x3 + 1 → (w_M_token_31 post x1 x2 lAmt lPl size row n x3_20 start_14 fin_15 kind_16 oT_17 oC_18)))) start fin kind oT oC size row))
def wp_M_token (post : Int32 → Int32 → Int32 → Int32 → Int32 → Int32 → Prop) (lAmt : Int64) (lPl : Int32) (size : Int32) (row : Nat → Int32) (start : Int32) (fin : Int32) (kind : Int32) (oT : Int32) (oC : Int32) (p0 : Int32) (p1 : Int32) : Prop := (p1 < 0 → (post (-1) start fin kind oT oC)) ∧ (¬ p1 < 0 → ((2 < p1 → (post (-1) start fin kind oT oC)) ∧ (¬ 2 < p1 → ((p0 < 0 → (post (-1) start fin kind oT oC)) ∧ (¬ p0 < 0 → ((p0 < 4096 → (wp_W_restart (fun (start_5 : Int32) (fin_6 : Int32) (kind_7 : Int32) (oT_8 : Int32) (oC_9 : Int32) => ∃ fu31 : Nat, w_M_token_31 post p0 p1 lAmt lPl size row fu31 0 start_5 fin_6 kind_7 oT_8 oC_9) start fin kind oT oC)) ∧ (¬ p0 < 4096 → (post (-1) start fin kind oT oC))))))))
set_option maxHeartbeats 4000000 in
set_option maxRecDepth 100000 in
theorem kc_M_token (l : Launch) (dC : Nat → ClassId) (dI : Nat → Nat → Nat) (ad : Nat → Nat) (ck : Nat → ClassId) (sk : Nat → Nat) (lAmt : Int64) (lPl : Int32) (size : Int32) (row : Nat → Int32) (start : Int32) (fin : Int32) (kind : Int32) (oT : Int32) (oC : Int32) (p0 : Int32) (p1 : Int32) {post : Int32 → Int32 → Int32 → Int32 → Int32 → Int32 → Prop} (hw : wp_M_token post lAmt lPl size row start fin kind oT oC p0 p1) : k_Ci l y_M_token ws_M_token ({ frames := 6, cells := 0, slots := 0, locals := 135 } : Room) (dC, dI) vwCl (TYm ck) (XM sk) [.ref (ad 0), .int p0, .int p1] (wd_M_token ad ck lAmt lPl size row start fin kind oT oC) (fun (r : Int32) (u : Int32 × Int32 × Int32 × Int32 × Int32) => post r u.1 u.2.1 u.2.2.1 u.2.2.2.1 u.2.2.2.2) (fun (u : Int32 × Int32 × Int32 × Int32 × Int32) => wd_M_token ad ck lAmt lPl size row u.1 u.2.1 u.2.2.1 u.2.2.2.1 u.2.2.2.2) := by
  intro sz
  refine Met.ofW (cc := c_M_token) (maxL := 4) (ret := (some .int)) (by decide) rfl ?_
  intro p e s m args below meth c s₁ B hml hv
  obtain ⟨rfl, hsz, hP, hK, hD0, hX⟩ := hv
  have hx := B.exec
  have hb := B.bytes
  have hr := B.returns
  have hts : ∀ w ∈ TB, w.before _ s = true := fun w h => atoms_spec (ws := ws_M_token) B.pre w (List.mem_cons_of_mem _ h)
  have hown : s.vm.findClass R_M = some m.cls := findClass_of_methodNamed B.named
  have hlocks := B.notSynchronized
  subst hsz
  have hD := hD0.self (sz := s.heap.size)
  generalize hAe : va_A (wd_M_token ad ck lAmt lPl size row start fin kind oT oC) s.heap.size = A at hD hX ⊢
  have hA : ∀ q : Nat, s.heap.size ≤ q → A q := fun q h => by rw [← hAe]; exact Or.inr h
  have hS : va_S A s.heap s.heap [] := va_S.rf
  have hP : va_P (dC, dI) vwCl (wd_M_token ad ck lAmt lPl size row start fin kind oT oC) s.heap := hP
  have hl := lv_entry ([.ref (ad 0), .int p0, .int p1]) (n := 4) (Nat.le_of_ble_eq_true rfl)
  rw [lg_entry_eq]
  generalize (lg_sl ([.ref (ad 0), .int p0, .int p1]) ++ List.replicate (4 - (lg_sl ([.ref (ad 0), .int p0, .int p1])).length) Slot.unset).toArray = ls at hl ⊢
  have hl : lv_has ls 4 [(0, .ref (ad 0)), (1, .int p0), (2, .int p1)] := hl
  have L_31 : ∀ (x1 : Int32) (x2 : Int32) (lAmt : Int64) (lPl : Int32) (size : Int32) (row : Nat → Int32) (n : Nat) (x3 : Int32) (start : Int32) (fin : Int32) (kind : Int32) (oT : Int32) (oC : Int32) (H : Heap) (locs : List Loc) (ls : Array Slot), w_M_token_31 post x1 x2 lAmt lPl size row n x3 start fin kind oT oC → va_P (dC, dI) vwCl (wd_M_token ad ck lAmt lPl size row start fin kind oT oC) H → va_D A (wd_M_token ad ck lAmt lPl size row start fin kind oT oC) → va_S A s.heap H locs → lv_has ls 4 [(0, .ref (ad 0)), (1, .int x1), (2, .int x2), (3, .int x3)] → W p l e (headSpec ws_M_token ({ frames := 6, cells := 0, slots := 0, locals := 135 } : Room)).room s m ([.ref (ad 0), .int p0, .int p1] : List Value).toArray below meth c H locs 0 0 (k_Qi below (dC, dI) vwCl (TYm ck) A (fun (r : Int32) (u : Int32 × Int32 × Int32 × Int32 × Int32) => post r u.1 u.2.1 u.2.2.1 u.2.2.2.1 u.2.2.2.2) (fun (u : Int32 × Int32 × Int32 × Int32 × Int32) => wd_M_token ad ck lAmt lPl size row u.1 u.2.1 u.2.2.1 u.2.2.2.1 u.2.2.2.2) ([.ref (ad 0), .int p0, .int p1] : List Value).toArray s) (F0 m 31 ls []) := by
    intro x1 x2 lAmt lPl size row n
    induction n with
    | zero =>
      intro x3 start fin kind oT oC H locs ls hw
      exact False.elim hw
    | succ n ih =>
      intro x3 start fin kind oT oC H locs ls hw hP hD hS hl
      refine lv_iload_n hx hb d_M_token_31 rfl (lv_at hl 3 rfl) ?_
      refine lv_iload_n hx hb d_M_token_32 rfl (lv_at hl 1 rfl) ?_
      obtain ⟨hwt, hwf⟩ := hw
      refine lv_icmp_gt (tgt := 54) hx hb d_M_token_33 (by decide) (fun c_10 => ?_) (fun c_10 => ?_)
      · have hw := hwt c_10
        refine lv_iload_n hx hb d_M_token_54 rfl (lv_at hl 2 rfl) ?_
        obtain ⟨hwt, hwf⟩ := hw
        refine lv_if_ne (tgt := 66) hx hb d_M_token_55 (by decide) (fun c_11 => ?_) (fun c_11 => ?_)
        · have hw := hwf c_11
          refine lv_iload_n hx hb d_M_token_66 rfl (lv_at hl 2 rfl) ?_
          refine lv_iconst (v := 1) hx hb d_M_token_67 (by decide) ?_
          obtain ⟨hwt, hwf⟩ := hw
          refine lv_icmp_ne (tgt := 89) hx hb d_M_token_68 (by decide) (fun c_12 => ?_) (fun c_12 => ?_)
          · have hw := hwf c_12
            refine lv_aload_n hx hb d_M_token_89 rfl (lv_at hl 0 rfl) ?_
            refine va_get (D := (dC, dI)) (ci := 4) (v := .ref (ad 3)) (C := R_M) (T := T_M) (N := 5) hx hb hts in_M hown hK hP 0 rfl rfl 1 (by decide) (hts _ tw_263) (fun _ h9 => h9) rfl d_M_token_90 ?_
            refine va_getN (D := (dC, dI)) (ci := 3) (v := .int kind) (C := R_W) (T := T_W) (N := 6) hx hb hts in_W hown hK hP 3 rfl rfl 3 (by decide) (va_Nw.use rfl (hX.2.2.2 _ nw_9)) (fun _ h9 => h9) rfl d_M_token_93 ?_
            exact W.iret (v := kind) hx hb hr (fun t ht hW => ⟨⟨kind, (start, fin, kind, oT, oC), rfl, hw, by rw [ht]; exact hP, va_K.moved hW.alike hK, hD⟩, hS.F ht⟩) hS.2.2 d_M_token_96
          · have hw := hwt c_12
            refine lv_aload_n hx hb d_M_token_71 rfl (lv_at hl 0 rfl) ?_
            refine va_get (D := (dC, dI)) (ci := 4) (v := .ref (ad 3)) (C := R_M) (T := T_M) (N := 5) hx hb hts in_M hown hK hP 0 rfl rfl 1 (by decide) (hts _ tw_263) (fun _ h9 => h9) rfl d_M_token_72 ?_
            refine va_getN (D := (dC, dI)) (ci := 3) (v := .int fin) (C := R_W) (T := T_W) (N := 6) hx hb hts in_W hown hK hP 3 rfl rfl 2 (by decide) (va_Nw.use rfl (hX.2.2.2 _ nw_10)) (fun _ h9 => h9) rfl d_M_token_75 ?_
            refine lv_aload_n hx hb d_M_token_78 rfl (lv_at hl 0 rfl) ?_
            refine va_get (D := (dC, dI)) (ci := 4) (v := .ref (ad 3)) (C := R_M) (T := T_M) (N := 5) hx hb hts in_M hown hK hP 0 rfl rfl 1 (by decide) (hts _ tw_263) (fun _ h9 => h9) rfl d_M_token_79 ?_
            refine va_getN (D := (dC, dI)) (ci := 3) (v := .int start) (C := R_W) (T := T_W) (N := 6) hx hb hts in_W hown hK hP 3 rfl rfl 1 (by decide) (va_Nw.use rfl (hX.2.2.2 _ nw_11)) (fun _ h9 => h9) rfl d_M_token_82 ?_
            refine lv_isub hx hb d_M_token_85 ?_
            refine lv_goto (tgt := 96) hx hb d_M_token_86 (by decide) ?_
            exact W.iret (v := (fin - start)) hx hb hr (fun t ht hW => ⟨⟨(fin - start), (start, fin, kind, oT, oC), rfl, hw, by rw [ht]; exact hP, va_K.moved hW.alike hK, hD⟩, hS.F ht⟩) hS.2.2 d_M_token_96
        · have hw := hwt c_11
          refine lv_aload_n hx hb d_M_token_58 rfl (lv_at hl 0 rfl) ?_
          refine va_get (D := (dC, dI)) (ci := 4) (v := .ref (ad 3)) (C := R_M) (T := T_M) (N := 5) hx hb hts in_M hown hK hP 0 rfl rfl 1 (by decide) (hts _ tw_263) (fun _ h9 => h9) rfl d_M_token_59 ?_
          refine va_getN (D := (dC, dI)) (ci := 3) (v := .int start) (C := R_W) (T := T_W) (N := 6) hx hb hts in_W hown hK hP 3 rfl rfl 1 (by decide) (va_Nw.use rfl (hX.2.2.2 _ nw_11)) (fun _ h9 => h9) rfl d_M_token_62 ?_
          exact W.iret (v := start) hx hb hr (fun t ht hW => ⟨⟨start, (start, fin, kind, oT, oC), rfl, hw, by rw [ht]; exact hP, va_K.moved hW.alike hK, hD⟩, hS.F ht⟩) hS.2.2 d_M_token_65
      · have hw := hwf c_10
        refine lv_aload_n hx hb d_M_token_36 rfl (lv_at hl 0 rfl) ?_
        refine va_get (D := (dC, dI)) (ci := 4) (v := .ref (ad 3)) (C := R_M) (T := T_M) (N := 5) hx hb hts in_M hown hK hP 0 rfl rfl 1 (by decide) (hts _ tw_263) (fun _ h9 => h9) rfl d_M_token_37 ?_
        refine k_callVi (As := []) (rest := []) (fun (u : Int32 × Int32 × Int32 × Int32 × Int32) => wd_M_token ad ck lAmt lPl size row u.1 u.2.1 u.2.2.1 u.2.2.2.1 u.2.2.2.2) ⟨hx, hb, hml, hown, hts⟩ (kc_W_step l dC dI ad ck sk start fin kind oT oC size row (hw := hw)) (cwV 0 hts (gV tw_265 tw_241 tw_242 tw_6 tw_240) rfl rfl rfl hd_W_step ⟨Nat.le_of_ble_eq_true rfl, Nat.le_of_ble_eq_true rfl⟩) hK hP hD hS hA (XM_c sk) hX [3, 1, 2] [0] [0, 2, 3, 1] rfl rfl (by decide) (by decide) (fun _ => rfl) (va_recv hK hP (ci := 3) (q0 := 3) rfl rfl) rfl hl.1 rfl (lv_room (Nat.le_of_ble_eq_true rfl)) d_M_token_40 ⟨Nat.zero_le _, Nat.zero_le _⟩ ?_
        intro r_13 u H locs hw hP hD hS
        obtain ⟨start_14, fin_15, kind_16, oT_17, oC_18⟩ := u
        have hP : va_P (dC, dI) vwCl (wd_M_token ad ck lAmt lPl size row start_14 fin_15 kind_16 oT_17 oC_18) H := hP
        have hD : va_D A (wd_M_token ad ck lAmt lPl size row start_14 fin_15 kind_16 oT_17 oC_18) := hD
        try dsimp only at hw
        obtain ⟨hwt, hwf⟩ := hw
        refine lv_if_ne (tgt := 48) hx hb d_M_token_43 (by decide) (fun c_19 => ?_) (fun c_19 => ?_)
        · have hw := hwf c_19
          obtain ⟨x3_20, ex3_20⟩ : ∃ y : Int32, y = x3 + 1 := ⟨_, rfl⟩
          have hw := hw x3_20 ex3_20
          refine lv_iinc (v := x3_20) (lv' := [(3, .int x3_20), (0, .ref (ad 0)), (1, .int x1), (2, .int x2)]) hx hb d_M_token_48 hl (k := 3) rfl (by rw [ex3_20]; rfl) (by decide) rfl (fun ls hl => ?_)
          refine lv_goto (tgt := 31) hx hb d_M_token_51 (by decide) ?_
          exact ih x3_20 start_14 fin_15 kind_16 oT_17 oC_18 _ _ _ hw hP hD hS (lv_sub hl [1, 2, 3, 0] rfl)
        · have hw := hwt c_19
          refine lv_iconst (v := (-1)) hx hb d_M_token_46 (by decide) ?_
          exact W.iret (v := (-1)) hx hb hr (fun t ht hW => ⟨⟨(-1), (start_14, fin_15, kind_16, oT_17, oC_18), rfl, hw, by rw [ht]; exact hP, va_K.moved hW.alike hK, hD⟩, hS.F ht⟩) hS.2.2 d_M_token_47
  refine lv_iload_n hx hb d_M_token_0 rfl (lv_at hl 2 rfl) ?_
  obtain ⟨hwt, hwf⟩ := hw
  refine lv_if_lt (tgt := 20) hx hb d_M_token_1 (by decide) (fun c_1 => ?_) (fun c_1 => ?_)
  · have hw := hwt c_1
    refine lv_iconst (v := (-1)) hx hb d_M_token_20 (by decide) ?_
    exact W.iret (v := (-1)) hx hb hr (fun t ht hW => ⟨⟨(-1), (start, fin, kind, oT, oC), rfl, hw, by rw [ht]; exact hP, va_K.moved hW.alike hK, hD⟩, hS.F ht⟩) hS.2.2 d_M_token_21
  · have hw := hwf c_1
    refine lv_iload_n hx hb d_M_token_4 rfl (lv_at hl 2 rfl) ?_
    refine lv_iconst (v := 2) hx hb d_M_token_5 (by decide) ?_
    obtain ⟨hwt, hwf⟩ := hw
    refine lv_icmp_gt (tgt := 20) hx hb d_M_token_6 (by decide) (fun c_2 => ?_) (fun c_2 => ?_)
    · have hw := hwt c_2
      refine lv_iconst (v := (-1)) hx hb d_M_token_20 (by decide) ?_
      exact W.iret (v := (-1)) hx hb hr (fun t ht hW => ⟨⟨(-1), (start, fin, kind, oT, oC), rfl, hw, by rw [ht]; exact hP, va_K.moved hW.alike hK, hD⟩, hS.F ht⟩) hS.2.2 d_M_token_21
    · have hw := hwf c_2
      refine lv_iload_n hx hb d_M_token_9 rfl (lv_at hl 1 rfl) ?_
      obtain ⟨hwt, hwf⟩ := hw
      refine lv_if_lt (tgt := 20) hx hb d_M_token_10 (by decide) (fun c_3 => ?_) (fun c_3 => ?_)
      · have hw := hwt c_3
        refine lv_iconst (v := (-1)) hx hb d_M_token_20 (by decide) ?_
        exact W.iret (v := (-1)) hx hb hr (fun t ht hW => ⟨⟨(-1), (start, fin, kind, oT, oC), rfl, hw, by rw [ht]; exact hP, va_K.moved hW.alike hK, hD⟩, hS.F ht⟩) hS.2.2 d_M_token_21
      · have hw := hwf c_3
        refine lv_iload_n hx hb d_M_token_13 rfl (lv_at hl 1 rfl) ?_
        refine lv_sipush (v := 4096) hx hb d_M_token_14 (by decide) ?_
        obtain ⟨hwt, hwf⟩ := hw
        refine lv_icmp_lt (tgt := 22) hx hb d_M_token_17 (by decide) (fun c_4 => ?_) (fun c_4 => ?_)
        · have hw := hwt c_4
          refine lv_aload_n hx hb d_M_token_22 rfl (lv_at hl 0 rfl) ?_
          refine va_get (D := (dC, dI)) (ci := 4) (v := .ref (ad 3)) (C := R_M) (T := T_M) (N := 5) hx hb hts in_M hown hK hP 0 rfl rfl 1 (by decide) (hts _ tw_263) (fun _ h9 => h9) rfl d_M_token_23 ?_
          refine k_callVv (As := []) (rest := []) (fun (u : Int32 × Int32 × Int32 × Int32 × Int32) => wd_M_token ad ck lAmt lPl size row u.1 u.2.1 u.2.2.1 u.2.2.2.1 u.2.2.2.2) ⟨hx, hb, hml, hown, hts⟩ (kc_W_restart l dC dI ad ck start fin kind oT oC (hw := hw)) (cwV 0 hts (gV tw_264 tw_156 tw_157 tw_6 tw_155) rfl rfl rfl hd_W_restart ⟨Nat.le_of_ble_eq_true rfl, Nat.le_of_ble_eq_true rfl⟩) hK hP hD hS hA k_x0c trivial [3] [0, 1, 2] [0, 1, 2, 3] rfl rfl (by decide) (by decide) (fun _ => rfl) (va_recv hK hP (ci := 3) (q0 := 3) rfl rfl) rfl hl.1 rfl (lv_room (Nat.le_of_ble_eq_true rfl)) d_M_token_26 ⟨Nat.zero_le _, Nat.zero_le _⟩ ?_
          intro u H locs hw hP hD hS
          obtain ⟨start_5, fin_6, kind_7, oT_8, oC_9⟩ := u
          have hP : va_P (dC, dI) vwCl (wd_M_token ad ck lAmt lPl size row start_5 fin_6 kind_7 oT_8 oC_9) H := hP
          have hD : va_D A (wd_M_token ad ck lAmt lPl size row start_5 fin_6 kind_7 oT_8 oC_9) := hD
          try dsimp only at hw
          refine lv_iconst (v := 0) hx hb d_M_token_29 (by decide) ?_
          refine lv_istore_n (lv' := [(3, .int 0), (0, .ref (ad 0)), (1, .int p0), (2, .int p1)]) hx hb d_M_token_30 rfl hl (by decide) rfl (fun ls hl => ?_)
          obtain ⟨fu31, hw⟩ := hw
          exact L_31 p0 p1 lAmt lPl size row fu31 0 start_5 fin_6 kind_7 oT_8 oC_9 _ _ _ hw hP hD hS (lv_sub hl [1, 2, 3, 0] rfl)
        · have hw := hwf c_4
          refine lv_iconst (v := (-1)) hx hb d_M_token_20 (by decide) ?_
          exact W.iret (v := (-1)) hx hb hr (fun t ht hW => ⟨⟨(-1), (start, fin, kind, oT, oC), rfl, hw, by rw [ht]; exact hP, va_K.moved hW.alike hK, hD⟩, hS.F ht⟩) hS.2.2 d_M_token_21
