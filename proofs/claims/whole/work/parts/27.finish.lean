abbrev wd_K_finishFront (ad : Nat → Nat) (ck : Nat → ClassId) (wait : Int32) (held : Int32) (nest : Int32) (skp : Int32) (fmd : Int32) (dvd : Int32) (amts : Nat → Int64) (plns : Nat → Int32) : va_W := [(ad 5, .inr (1, [.ref (ad 3), .ref (ad 4), .ref (ad 6), .ref (ad 7), .ref (ad 8), .ref (ad 9), .ref (ad 10), .int wait, .int held, .int nest, .int skp, .int fmd, .int dvd])), (ad 9, .inl (ck 4, 671, .inr (.inl amts))), (ad 10, .inl (ck 5, 671, .inl plns))]
def wp_K_finishFront (post : Int32 → Int32 → (Nat → Int64) → (Nat → Int32) → Prop) (wait : Int32) (held : Int32) (nest : Int32) (skp : Int32) (fmd : Int32) (dvd : Int32) (amts : Nat → Int64) (plns : Nat → Int32) (p0 : Int32) : Prop := ∀ nest_1 : Int32, nest_1 = (nest - 1) → ((1 ≤ held → (∀ x2_3 : Int32, x2_3 = (held - 1) → (vp_in x2_3 671 ∧ (wp_S_front (fun (r_5 : Int64) => vp_in x2_3 671 ∧ (∀ amts_7 : Nat → Int64, amts_7 = vp_updL amts x2_3.toNatClampNeg r_5 → (vp_in x2_3 671 ∧ (((plns x2_3.toNatClampNeg) = 0 → (vp_in x2_3 671 ∧ (∀ plns_11 : Nat → Int32, plns_11 = upd plns x2_3.toNatClampNeg (vp_nar .boolean 0) → (post nest_1 fmd amts_7 plns_11)))) ∧ (¬ (plns x2_3.toNatClampNeg) = 0 → ((p0 = 33 → (vp_in x2_3 671 ∧ (∀ plns_14 : Nat → Int32, plns_14 = upd plns x2_3.toNatClampNeg (vp_nar .boolean 0) → (post nest_1 fmd amts_7 plns_14)))) ∧ (¬ p0 = 33 → (vp_in x2_3 671 ∧ (∀ plns_16 : Nat → Int32, plns_16 = upd plns x2_3.toNatClampNeg (vp_nar .boolean 1) → (post nest_1 fmd amts_7 plns_16)))))))))) p0 (amts x2_3.toNatClampNeg))))) ∧ (¬ 1 ≤ held → (post nest_1 0 amts plns)))
set_option maxHeartbeats 4000000 in
set_option maxRecDepth 100000 in
theorem kc_K_finishFront (l : Launch) (dC : Nat → ClassId) (dI : Nat → Nat → Nat) (ad : Nat → Nat) (ck : Nat → ClassId) (wait : Int32) (held : Int32) (nest : Int32) (skp : Int32) (fmd : Int32) (dvd : Int32) (amts : Nat → Int64) (plns : Nat → Int32) (p0 : Int32) {post : Int32 → Int32 → (Nat → Int64) → (Nat → Int32) → Prop} (hw : wp_K_finishFront post wait held nest skp fmd dvd amts plns p0) : k_Cv l y_K_finishFront ws_K_finishFront ({ frames := 1, cells := 0, slots := 0, locals := 22 } : Room) (dC, dI) vwCl (TYm ck) k_x0 [.ref (ad 5), .int p0] (wd_K_finishFront ad ck wait held nest skp fmd dvd amts plns) (fun (u : Int32 × Int32 × (Nat → Int64) × (Nat → Int32)) => post u.1 u.2.1 u.2.2.1 u.2.2.2) (fun (u : Int32 × Int32 × (Nat → Int64) × (Nat → Int32)) => wd_K_finishFront ad ck wait held u.1 skp u.2.1 dvd u.2.2.1 u.2.2.2) := by
  intro sz
  refine Met.ofW (cc := c_K_finishFront) (maxL := 3) (ret := none) (by decide) rfl ?_
  intro p e s m args below meth c s₁ B hml hv
  obtain ⟨rfl, hsz, hP, hK, hD0, hX⟩ := hv
  have hx := B.exec
  have hb := B.bytes
  have hr := B.returns
  have hts : ∀ w ∈ TB, w.before _ s = true := fun w h => atoms_spec (ws := ws_K_finishFront) B.pre w (List.mem_cons_of_mem _ h)
  have hown : s.vm.findClass R_K = some m.cls := findClass_of_methodNamed B.named
  have hlocks := B.notSynchronized
  subst hsz
  have hD := hD0.self (sz := s.heap.size)
  generalize hAe : va_A (wd_K_finishFront ad ck wait held nest skp fmd dvd amts plns) s.heap.size = A at hD hX ⊢
  have hA : ∀ q : Nat, s.heap.size ≤ q → A q := fun q h => by rw [← hAe]; exact Or.inr h
  have hS : va_S A s.heap s.heap [] := va_S.rf
  have hP : va_P (dC, dI) vwCl (wd_K_finishFront ad ck wait held nest skp fmd dvd amts plns) s.heap := hP
  have hl := lv_entry ([.ref (ad 5), .int p0]) (n := 3) (Nat.le_of_ble_eq_true rfl)
  rw [lg_entry_eq]
  generalize (lg_sl ([.ref (ad 5), .int p0]) ++ List.replicate (3 - (lg_sl ([.ref (ad 5), .int p0])).length) Slot.unset).toArray = ls at hl ⊢
  have hl : lv_has ls 3 [(0, .ref (ad 5)), (1, .int p0)] := hl
  refine lv_aload_n hx hb d_K_finishFront_0 rfl (lv_at hl 0 rfl) ?_
  refine lv_dup hx hb d_K_finishFront_1 rfl ?_
  refine va_get (D := (dC, dI)) (ci := 1) (v := .int nest) (C := R_K) (T := T_K) (N := 13) hx hb hts in_K hown hK hP 0 rfl rfl 9 (by decide) (hts _ tw_143) (fun _ h9 => h9) rfl d_K_finishFront_2 ?_
  refine lv_iconst (v := 1) hx hb d_K_finishFront_5 (by decide) ?_
  refine lv_isub hx hb d_K_finishFront_6 ?_
  refine lv_topi (fun nest_1 enest_1 => ?_)
  have hw := hw nest_1 enest_1
  refine va_put (D := (dC, dI)) (ci := 1) (v := .int nest_1) (ty := .int) (C := R_K) (T := T_K) (N := 13) hx hb hts in_K ty_K ty_K_ok nm_K hown hK hP hD hS 0 rfl rfl 9 (by decide) (hts _ tw_143) (fun _ h9 => h9) rfl (by decide +kernel) rfl rfl (Nat.le_of_ble_eq_true rfl) d_K_finishFront_7 (fun H locs hP hD hS => ?_)
  have hP : va_P (dC, dI) vwCl (wd_K_finishFront ad ck wait held nest_1 skp fmd dvd amts plns) H := hP
  have hD : va_D A (wd_K_finishFront ad ck wait held nest_1 skp fmd dvd amts plns) := hD
  refine lv_aload_n hx hb d_K_finishFront_10 rfl (lv_at hl 0 rfl) ?_
  refine va_get (D := (dC, dI)) (ci := 1) (v := .int held) (C := R_K) (T := T_K) (N := 13) hx hb hts in_K hown hK hP 0 rfl rfl 8 (by decide) (hts _ tw_145) (fun _ h9 => h9) rfl d_K_finishFront_11 ?_
  refine lv_iconst (v := 1) hx hb d_K_finishFront_14 (by decide) ?_
  obtain ⟨hwt, hwf⟩ := hw
  refine lv_icmp_ge (tgt := 24) hx hb d_K_finishFront_15 (by decide) (fun c_2 => ?_) (fun c_2 => ?_)
  · have hw := hwt c_2
    refine lv_aload_n hx hb d_K_finishFront_24 rfl (lv_at hl 0 rfl) ?_
    refine va_get (D := (dC, dI)) (ci := 1) (v := .int held) (C := R_K) (T := T_K) (N := 13) hx hb hts in_K hown hK hP 0 rfl rfl 8 (by decide) (hts _ tw_145) (fun _ h9 => h9) rfl d_K_finishFront_25 ?_
    refine lv_iconst (v := 1) hx hb d_K_finishFront_28 (by decide) ?_
    refine lv_isub hx hb d_K_finishFront_29 ?_
    refine lv_topi (fun x2_3 ex2_3 => ?_)
    have hw := hw x2_3 ex2_3
    refine lv_istore_n (lv' := [(2, .int x2_3), (0, .ref (ad 5)), (1, .int p0)]) hx hb d_K_finishFront_30 rfl hl (by decide) rfl (fun ls hl => ?_)
    refine lv_aload_n hx hb d_K_finishFront_31 rfl (lv_at hl 1 rfl) ?_
    refine va_get (D := (dC, dI)) (ci := 1) (v := .ref (ad 9)) (C := R_K) (T := T_K) (N := 13) hx hb hts in_K hown hK hP 0 rfl rfl 5 (by decide) (hts _ tw_146) (fun _ h9 => h9) rfl d_K_finishFront_32 ?_
    refine lv_iload_n hx hb d_K_finishFront_35 rfl (lv_at hl 0 rfl) ?_
    refine lv_iload_n hx hb d_K_finishFront_36 rfl (lv_at hl 2 rfl) ?_
    refine lv_aload_n hx hb d_K_finishFront_37 rfl (lv_at hl 1 rfl) ?_
    refine va_get (D := (dC, dI)) (ci := 1) (v := .ref (ad 9)) (C := R_K) (T := T_K) (N := 13) hx hb hts in_K hown hK hP 0 rfl rfl 5 (by decide) (hts _ tw_146) (fun _ h9 => h9) rfl d_K_finishFront_38 ?_
    refine lv_iload_n hx hb d_K_finishFront_41 rfl (lv_at hl 0 rfl) ?_
    obtain ⟨hi_4, hw⟩ := hw
    refine va_lald hx hb hK hP 1 4 rfl rfl hi_4 d_K_finishFront_42 ?_
    refine k_callSl (As := [.int p0, .long (amts x2_3.toNatClampNeg)]) (rest := [.int x2_3, .ref (ad 9)]) (fun (u : Unit) => wd_K_finishFront ad ck wait held nest_1 skp fmd dvd amts plns) ⟨hx, hb, hml, hown, hts⟩ (kc_S_front l dC dI ad ck p0 (amts x2_3.toNatClampNeg) (hw := hw)) (va_cwS 2 hts (gS tw_176 tw_178 tw_134 tw_177) rfl rfl rfl hd_S_front ⟨Nat.le_of_ble_eq_true rfl, Nat.le_of_ble_eq_true rfl⟩) hK hP hD hS hA k_x0c trivial [] [0, 1, 2] [0, 1, 2] rfl rfl (by decide) (by decide) (fun _ => rfl) rfl hl.1 rfl (lv_room (Nat.le_of_ble_eq_true rfl)) d_K_finishFront_43 ⟨Nat.zero_le _, Nat.zero_le _⟩ ?_
    intro r_5 u H locs hw hP hD hS
    have hP : va_P (dC, dI) vwCl (wd_K_finishFront ad ck wait held nest_1 skp fmd dvd amts plns) H := hP
    have hD : va_D A (wd_K_finishFront ad ck wait held nest_1 skp fmd dvd amts plns) := hD
    try dsimp only at hw
    obtain ⟨hi_6, hw⟩ := hw
    refine va_last hx hb hK hP hD hS 1 4 rfl rfl hi_6 d_K_finishFront_46 (fun H locs hP hD hS => ?_)
    obtain ⟨amts_7, eamts_7⟩ : ∃ z : Nat → Int64, z = vp_updL amts x2_3.toNatClampNeg r_5 := ⟨_, rfl⟩
    have hw := hw amts_7 eamts_7
    have hP : va_P (dC, dI) vwCl (wd_K_finishFront ad ck wait held nest_1 skp fmd dvd amts_7 plns) H := by rw [eamts_7]; exact hP
    have hD : va_D A (wd_K_finishFront ad ck wait held nest_1 skp fmd dvd amts_7 plns) := by rw [eamts_7]; exact hD
    refine lv_aload_n hx hb d_K_finishFront_47 rfl (lv_at hl 1 rfl) ?_
    refine va_get (D := (dC, dI)) (ci := 1) (v := .ref (ad 10)) (C := R_K) (T := T_K) (N := 13) hx hb hts in_K hown hK hP 0 rfl rfl 6 (by decide) (hts _ tw_147) (fun _ h9 => h9) rfl d_K_finishFront_48 ?_
    refine lv_iload_n hx hb d_K_finishFront_51 rfl (lv_at hl 0 rfl) ?_
    refine lv_aload_n hx hb d_K_finishFront_52 rfl (lv_at hl 1 rfl) ?_
    refine va_get (D := (dC, dI)) (ci := 1) (v := .ref (ad 10)) (C := R_K) (T := T_K) (N := 13) hx hb hts in_K hown hK hP 0 rfl rfl 6 (by decide) (hts _ tw_147) (fun _ h9 => h9) rfl d_K_finishFront_53 ?_
    refine lv_iload_n hx hb d_K_finishFront_56 rfl (lv_at hl 0 rfl) ?_
    obtain ⟨hi_8, hw⟩ := hw
    refine va_zald hx hb hK hP 2 5 rfl rfl hi_8 d_K_finishFront_57 ?_
    obtain ⟨hwt, hwf⟩ := hw
    refine lv_if_eq (tgt := 71) hx hb d_K_finishFront_58 (by decide) (fun c_9 => ?_) (fun c_9 => ?_)
    · have hw := hwt c_9
      refine lv_iconst (v := 0) hx hb d_K_finishFront_71 (by decide) ?_
      obtain ⟨hi_10, hw⟩ := hw
      refine va_zast hx hb hK hP hD hS 2 5 rfl rfl hi_10 d_K_finishFront_72 (fun H locs hP hD hS => ?_)
      obtain ⟨plns_11, eplns_11⟩ : ∃ z : Nat → Int32, z = upd plns x2_3.toNatClampNeg (vp_nar .boolean 0) := ⟨_, rfl⟩
      have hw := hw plns_11 eplns_11
      have hP : va_P (dC, dI) vwCl (wd_K_finishFront ad ck wait held nest_1 skp fmd dvd amts_7 plns_11) H := by rw [eplns_11]; exact hP
      have hD : va_D A (wd_K_finishFront ad ck wait held nest_1 skp fmd dvd amts_7 plns_11) := by rw [eplns_11]; exact hD
      exact W.vret hx hb hr (fun t ht hW => ⟨⟨(nest_1, fmd, amts_7, plns_11), rfl, hw, by rw [ht]; exact hP, va_K.moved hW.alike hK, hD⟩, hS.F ht⟩) hS.2.2 d_K_finishFront_73
    · have hw := hwf c_9
      refine lv_iload_n hx hb d_K_finishFront_61 rfl (lv_at hl 2 rfl) ?_
      refine lv_bipush (v := 33) hx hb d_K_finishFront_62 (by decide) ?_
      obtain ⟨hwt, hwf⟩ := hw
      refine lv_icmp_eq (tgt := 71) hx hb d_K_finishFront_64 (by decide) (fun c_12 => ?_) (fun c_12 => ?_)
      · have hw := hwt c_12
        refine lv_iconst (v := 0) hx hb d_K_finishFront_71 (by decide) ?_
        obtain ⟨hi_13, hw⟩ := hw
        refine va_zast hx hb hK hP hD hS 2 5 rfl rfl hi_13 d_K_finishFront_72 (fun H locs hP hD hS => ?_)
        obtain ⟨plns_14, eplns_14⟩ : ∃ z : Nat → Int32, z = upd plns x2_3.toNatClampNeg (vp_nar .boolean 0) := ⟨_, rfl⟩
        have hw := hw plns_14 eplns_14
        have hP : va_P (dC, dI) vwCl (wd_K_finishFront ad ck wait held nest_1 skp fmd dvd amts_7 plns_14) H := by rw [eplns_14]; exact hP
        have hD : va_D A (wd_K_finishFront ad ck wait held nest_1 skp fmd dvd amts_7 plns_14) := by rw [eplns_14]; exact hD
        exact W.vret hx hb hr (fun t ht hW => ⟨⟨(nest_1, fmd, amts_7, plns_14), rfl, hw, by rw [ht]; exact hP, va_K.moved hW.alike hK, hD⟩, hS.F ht⟩) hS.2.2 d_K_finishFront_73
      · have hw := hwf c_12
        refine lv_iconst (v := 1) hx hb d_K_finishFront_67 (by decide) ?_
        refine lv_goto (tgt := 72) hx hb d_K_finishFront_68 (by decide) ?_
        obtain ⟨hi_15, hw⟩ := hw
        refine va_zast hx hb hK hP hD hS 2 5 rfl rfl hi_15 d_K_finishFront_72 (fun H locs hP hD hS => ?_)
        obtain ⟨plns_16, eplns_16⟩ : ∃ z : Nat → Int32, z = upd plns x2_3.toNatClampNeg (vp_nar .boolean 1) := ⟨_, rfl⟩
        have hw := hw plns_16 eplns_16
        have hP : va_P (dC, dI) vwCl (wd_K_finishFront ad ck wait held nest_1 skp fmd dvd amts_7 plns_16) H := by rw [eplns_16]; exact hP
        have hD : va_D A (wd_K_finishFront ad ck wait held nest_1 skp fmd dvd amts_7 plns_16) := by rw [eplns_16]; exact hD
        exact W.vret hx hb hr (fun t ht hW => ⟨⟨(nest_1, fmd, amts_7, plns_16), rfl, hw, by rw [ht]; exact hP, va_K.moved hW.alike hK, hD⟩, hS.F ht⟩) hS.2.2 d_K_finishFront_73
  · have hw := hwf c_2
    refine lv_aload_n hx hb d_K_finishFront_18 rfl (lv_at hl 0 rfl) ?_
    refine lv_iconst (v := 0) hx hb d_K_finishFront_19 (by decide) ?_
    refine va_put (D := (dC, dI)) (ci := 1) (v := .int 0) (ty := .boolean) (C := R_K) (T := T_K) (N := 13) hx hb hts in_K ty_K ty_K_ok nm_K hown hK hP hD hS 0 rfl rfl 11 (by decide) (hts _ tw_144) (fun _ h9 => h9) rfl (by decide +kernel) (by decide) (by decide) (Nat.le_of_ble_eq_true rfl) d_K_finishFront_20 (fun H locs hP hD hS => ?_)
    have hP : va_P (dC, dI) vwCl (wd_K_finishFront ad ck wait held nest_1 skp 0 dvd amts plns) H := hP
    have hD : va_D A (wd_K_finishFront ad ck wait held nest_1 skp 0 dvd amts plns) := hD
    exact W.vret hx hb hr (fun t ht hW => ⟨⟨(nest_1, 0, amts, plns), rfl, hw, by rw [ht]; exact hP, va_K.moved hW.alike hK, hD⟩, hS.F ht⟩) hS.2.2 d_K_finishFront_23

abbrev wd_K_finishChoice (ad : Nat → Nat) (ck : Nat → ClassId) (wait : Int32) (held : Int32) (nest : Int32) (skp : Int32) (fmd : Int32) (dvd : Int32) (amts : Nat → Int64) (plns : Nat → Int32) : va_W := [(ad 5, .inr (1, [.ref (ad 3), .ref (ad 4), .ref (ad 6), .ref (ad 7), .ref (ad 8), .ref (ad 9), .ref (ad 10), .int wait, .int held, .int nest, .int skp, .int fmd, .int dvd])), (ad 9, .inl (ck 4, 671, .inr (.inl amts))), (ad 10, .inl (ck 5, 671, .inl plns))]
def w_K_finishChoice_60 (post : Int32 → Int32 → Int32 → (Nat → Int64) → (Nat → Int32) → Prop) (x2 : Int32) (wait : Int32) (held : Int32) (nest : Int32) (skp : Int32) (fmd : Int32) (dvd : Int32) (amts : Nat → Int64) (plns : Nat → Int32) : Prop := vp_in x2 671 ∧ (((plns x2.toNatClampNeg) = 0 → (vp_in held 671 ∧ (((plns held.toNatClampNeg) = 0 → (vp_in x2 671 ∧ (∀ plns_13 : Nat → Int32, plns_13 = upd plns x2.toNatClampNeg (vp_nar .boolean 0) → (post held nest fmd amts plns_13)))) ∧ (¬ (plns held.toNatClampNeg) = 0 → (vp_in x2 671 ∧ (∀ plns_15 : Nat → Int32, plns_15 = upd plns x2.toNatClampNeg (vp_nar .boolean 1) → (post held nest fmd amts plns_15))))))) ∧ (¬ (plns x2.toNatClampNeg) = 0 → (vp_in x2 671 ∧ (∀ plns_9 : Nat → Int32, plns_9 = upd plns x2.toNatClampNeg (vp_nar .boolean 1) → (post held nest fmd amts plns_9)))))
def wp_K_finishChoice (post : Int32 → Int32 → Int32 → (Nat → Int64) → (Nat → Int32) → Prop) (wait : Int32) (held : Int32) (nest : Int32) (skp : Int32) (fmd : Int32) (dvd : Int32) (amts : Nat → Int64) (plns : Nat → Int32) (p0 : Int32) : Prop := ∀ nest_1 : Int32, nest_1 = (nest - 1) → ((2 ≤ held → (∀ held_3 : Int32, held_3 = (held - 1) → (∀ x2_4 : Int32, x2_4 = (held_3 - 1) → ((p0 = 0 → (vp_in held_3 671 ∧ (vp_in x2_4 671 ∧ (∀ amts_18 : Nat → Int64, amts_18 = vp_updL amts x2_4.toNatClampNeg (amts held_3.toNatClampNeg) → (w_K_finishChoice_60 post x2_4 wait held_3 nest_1 skp fmd dvd amts_18 plns))))) ∧ (¬ p0 = 0 → (w_K_finishChoice_60 post x2_4 wait held_3 nest_1 skp fmd dvd amts plns)))))) ∧ (¬ 2 ≤ held → (post held nest_1 0 amts plns)))
set_option maxHeartbeats 4000000 in
set_option maxRecDepth 100000 in
theorem kc_K_finishChoice (l : Launch) (dC : Nat → ClassId) (dI : Nat → Nat → Nat) (ad : Nat → Nat) (ck : Nat → ClassId) (wait : Int32) (held : Int32) (nest : Int32) (skp : Int32) (fmd : Int32) (dvd : Int32) (amts : Nat → Int64) (plns : Nat → Int32) (p0 : Int32) {post : Int32 → Int32 → Int32 → (Nat → Int64) → (Nat → Int32) → Prop} (hw : wp_K_finishChoice post wait held nest skp fmd dvd amts plns p0) : k_Cv l y_K_finishChoice ws_K_finishChoice ({ frames := 0, cells := 0, slots := 0, locals := 0 } : Room) (dC, dI) vwCl (TYm ck) k_x0 [.ref (ad 5), .int p0] (wd_K_finishChoice ad ck wait held nest skp fmd dvd amts plns) (fun (u : Int32 × Int32 × Int32 × (Nat → Int64) × (Nat → Int32)) => post u.1 u.2.1 u.2.2.1 u.2.2.2.1 u.2.2.2.2) (fun (u : Int32 × Int32 × Int32 × (Nat → Int64) × (Nat → Int32)) => wd_K_finishChoice ad ck wait u.1 u.2.1 skp u.2.2.1 dvd u.2.2.2.1 u.2.2.2.2) := by
  intro sz
  refine Met.ofW (cc := c_K_finishChoice) (maxL := 3) (ret := none) (by decide) rfl ?_
  intro p e s m args below meth c s₁ B hml hv
  obtain ⟨rfl, hsz, hP, hK, hD0, hX⟩ := hv
  have hx := B.exec
  have hb := B.bytes
  have hr := B.returns
  have hts : ∀ w ∈ TB, w.before _ s = true := fun w h => atoms_spec (ws := ws_K_finishChoice) B.pre w (List.mem_cons_of_mem _ h)
  have hown : s.vm.findClass R_K = some m.cls := findClass_of_methodNamed B.named
  have hlocks := B.notSynchronized
  subst hsz
  have hD := hD0.self (sz := s.heap.size)
  generalize hAe : va_A (wd_K_finishChoice ad ck wait held nest skp fmd dvd amts plns) s.heap.size = A at hD hX ⊢
  have hA : ∀ q : Nat, s.heap.size ≤ q → A q := fun q h => by rw [← hAe]; exact Or.inr h
  have hS : va_S A s.heap s.heap [] := va_S.rf
  have hP : va_P (dC, dI) vwCl (wd_K_finishChoice ad ck wait held nest skp fmd dvd amts plns) s.heap := hP
  have hl := lv_entry ([.ref (ad 5), .int p0]) (n := 3) (Nat.le_of_ble_eq_true rfl)
  rw [lg_entry_eq]
  generalize (lg_sl ([.ref (ad 5), .int p0]) ++ List.replicate (3 - (lg_sl ([.ref (ad 5), .int p0])).length) Slot.unset).toArray = ls at hl ⊢
  have hl : lv_has ls 3 [(0, .ref (ad 5)), (1, .int p0)] := hl
  have L_60 : ∀ (x2 : Int32) (wait : Int32) (held : Int32) (nest : Int32) (skp : Int32) (fmd : Int32) (dvd : Int32) (amts : Nat → Int64) (plns : Nat → Int32) (H : Heap) (locs : List Loc) (ls : Array Slot), w_K_finishChoice_60 post x2 wait held nest skp fmd dvd amts plns → va_P (dC, dI) vwCl (wd_K_finishChoice ad ck wait held nest skp fmd dvd amts plns) H → va_D A (wd_K_finishChoice ad ck wait held nest skp fmd dvd amts plns) → va_S A s.heap H locs → lv_has ls 3 [(0, .ref (ad 5)), (2, .int x2)] → W p l e (headSpec ws_K_finishChoice ({ frames := 0, cells := 0, slots := 0, locals := 0 } : Room)).room s m ([.ref (ad 5), .int p0] : List Value).toArray below meth c H locs 0 0 (k_Qv below (dC, dI) vwCl (TYm ck) A (fun (u : Int32 × Int32 × Int32 × (Nat → Int64) × (Nat → Int32)) => post u.1 u.2.1 u.2.2.1 u.2.2.2.1 u.2.2.2.2) (fun (u : Int32 × Int32 × Int32 × (Nat → Int64) × (Nat → Int32)) => wd_K_finishChoice ad ck wait u.1 u.2.1 skp u.2.2.1 dvd u.2.2.2.1 u.2.2.2.2) ([.ref (ad 5), .int p0] : List Value).toArray s) (F0 m 60 ls []) := by
    intro x2 wait held nest skp fmd dvd amts plns H locs ls hw hP hD hS hl
    refine lv_aload_n hx hb d_K_finishChoice_60 rfl (lv_at hl 0 rfl) ?_
    refine va_get (D := (dC, dI)) (ci := 1) (v := .ref (ad 10)) (C := R_K) (T := T_K) (N := 13) hx hb hts in_K hown hK hP 0 rfl rfl 6 (by decide) (hts _ tw_147) (fun _ h9 => h9) rfl d_K_finishChoice_61 ?_
    refine lv_iload_n hx hb d_K_finishChoice_64 rfl (lv_at hl 1 rfl) ?_
    refine lv_aload_n hx hb d_K_finishChoice_65 rfl (lv_at hl 0 rfl) ?_
    refine va_get (D := (dC, dI)) (ci := 1) (v := .ref (ad 10)) (C := R_K) (T := T_K) (N := 13) hx hb hts in_K hown hK hP 0 rfl rfl 6 (by decide) (hts _ tw_147) (fun _ h9 => h9) rfl d_K_finishChoice_66 ?_
    refine lv_iload_n hx hb d_K_finishChoice_69 rfl (lv_at hl 1 rfl) ?_
    obtain ⟨hi_6, hw⟩ := hw
    refine va_zald hx hb hK hP 2 5 rfl rfl hi_6 d_K_finishChoice_70 ?_
    obtain ⟨hwt, hwf⟩ := hw
    refine lv_if_ne (tgt := 86) hx hb d_K_finishChoice_71 (by decide) (fun c_7 => ?_) (fun c_7 => ?_)
    · have hw := hwf c_7
      refine lv_iconst (v := 1) hx hb d_K_finishChoice_86 (by decide) ?_
      refine lv_goto (tgt := 91) hx hb d_K_finishChoice_87 (by decide) ?_
      obtain ⟨hi_8, hw⟩ := hw
      refine va_zast hx hb hK hP hD hS 2 5 rfl rfl hi_8 d_K_finishChoice_91 (fun H locs hP hD hS => ?_)
      obtain ⟨plns_9, eplns_9⟩ : ∃ z : Nat → Int32, z = upd plns x2.toNatClampNeg (vp_nar .boolean 1) := ⟨_, rfl⟩
      have hw := hw plns_9 eplns_9
      have hP : va_P (dC, dI) vwCl (wd_K_finishChoice ad ck wait held nest skp fmd dvd amts plns_9) H := by rw [eplns_9]; exact hP
      have hD : va_D A (wd_K_finishChoice ad ck wait held nest skp fmd dvd amts plns_9) := by rw [eplns_9]; exact hD
      exact W.vret hx hb hr (fun t ht hW => ⟨⟨(held, nest, fmd, amts, plns_9), rfl, hw, by rw [ht]; exact hP, va_K.moved hW.alike hK, hD⟩, hS.F ht⟩) hS.2.2 d_K_finishChoice_92
    · have hw := hwt c_7
      refine lv_aload_n hx hb d_K_finishChoice_74 rfl (lv_at hl 0 rfl) ?_
      refine va_get (D := (dC, dI)) (ci := 1) (v := .ref (ad 10)) (C := R_K) (T := T_K) (N := 13) hx hb hts in_K hown hK hP 0 rfl rfl 6 (by decide) (hts _ tw_147) (fun _ h9 => h9) rfl d_K_finishChoice_75 ?_
      refine lv_aload_n hx hb d_K_finishChoice_78 rfl (lv_at hl 0 rfl) ?_
      refine va_get (D := (dC, dI)) (ci := 1) (v := .int held) (C := R_K) (T := T_K) (N := 13) hx hb hts in_K hown hK hP 0 rfl rfl 8 (by decide) (hts _ tw_145) (fun _ h9 => h9) rfl d_K_finishChoice_79 ?_
      obtain ⟨hi_10, hw⟩ := hw
      refine va_zald hx hb hK hP 2 5 rfl rfl hi_10 d_K_finishChoice_82 ?_
      obtain ⟨hwt, hwf⟩ := hw
      refine lv_if_eq (tgt := 90) hx hb d_K_finishChoice_83 (by decide) (fun c_11 => ?_) (fun c_11 => ?_)
      · have hw := hwt c_11
        refine lv_iconst (v := 0) hx hb d_K_finishChoice_90 (by decide) ?_
        obtain ⟨hi_12, hw⟩ := hw
        refine va_zast hx hb hK hP hD hS 2 5 rfl rfl hi_12 d_K_finishChoice_91 (fun H locs hP hD hS => ?_)
        obtain ⟨plns_13, eplns_13⟩ : ∃ z : Nat → Int32, z = upd plns x2.toNatClampNeg (vp_nar .boolean 0) := ⟨_, rfl⟩
        have hw := hw plns_13 eplns_13
        have hP : va_P (dC, dI) vwCl (wd_K_finishChoice ad ck wait held nest skp fmd dvd amts plns_13) H := by rw [eplns_13]; exact hP
        have hD : va_D A (wd_K_finishChoice ad ck wait held nest skp fmd dvd amts plns_13) := by rw [eplns_13]; exact hD
        exact W.vret hx hb hr (fun t ht hW => ⟨⟨(held, nest, fmd, amts, plns_13), rfl, hw, by rw [ht]; exact hP, va_K.moved hW.alike hK, hD⟩, hS.F ht⟩) hS.2.2 d_K_finishChoice_92
      · have hw := hwf c_11
        refine lv_iconst (v := 1) hx hb d_K_finishChoice_86 (by decide) ?_
        refine lv_goto (tgt := 91) hx hb d_K_finishChoice_87 (by decide) ?_
        obtain ⟨hi_14, hw⟩ := hw
        refine va_zast hx hb hK hP hD hS 2 5 rfl rfl hi_14 d_K_finishChoice_91 (fun H locs hP hD hS => ?_)
        obtain ⟨plns_15, eplns_15⟩ : ∃ z : Nat → Int32, z = upd plns x2.toNatClampNeg (vp_nar .boolean 1) := ⟨_, rfl⟩
        have hw := hw plns_15 eplns_15
        have hP : va_P (dC, dI) vwCl (wd_K_finishChoice ad ck wait held nest skp fmd dvd amts plns_15) H := by rw [eplns_15]; exact hP
        have hD : va_D A (wd_K_finishChoice ad ck wait held nest skp fmd dvd amts plns_15) := by rw [eplns_15]; exact hD
        exact W.vret hx hb hr (fun t ht hW => ⟨⟨(held, nest, fmd, amts, plns_15), rfl, hw, by rw [ht]; exact hP, va_K.moved hW.alike hK, hD⟩, hS.F ht⟩) hS.2.2 d_K_finishChoice_92
  refine lv_aload_n hx hb d_K_finishChoice_0 rfl (lv_at hl 0 rfl) ?_
  refine lv_dup hx hb d_K_finishChoice_1 rfl ?_
  refine va_get (D := (dC, dI)) (ci := 1) (v := .int nest) (C := R_K) (T := T_K) (N := 13) hx hb hts in_K hown hK hP 0 rfl rfl 9 (by decide) (hts _ tw_143) (fun _ h9 => h9) rfl d_K_finishChoice_2 ?_
  refine lv_iconst (v := 1) hx hb d_K_finishChoice_5 (by decide) ?_
  refine lv_isub hx hb d_K_finishChoice_6 ?_
  refine lv_topi (fun nest_1 enest_1 => ?_)
  have hw := hw nest_1 enest_1
  refine va_put (D := (dC, dI)) (ci := 1) (v := .int nest_1) (ty := .int) (C := R_K) (T := T_K) (N := 13) hx hb hts in_K ty_K ty_K_ok nm_K hown hK hP hD hS 0 rfl rfl 9 (by decide) (hts _ tw_143) (fun _ h9 => h9) rfl (by decide +kernel) rfl rfl (Nat.le_of_ble_eq_true rfl) d_K_finishChoice_7 (fun H locs hP hD hS => ?_)
  have hP : va_P (dC, dI) vwCl (wd_K_finishChoice ad ck wait held nest_1 skp fmd dvd amts plns) H := hP
  have hD : va_D A (wd_K_finishChoice ad ck wait held nest_1 skp fmd dvd amts plns) := hD
  refine lv_aload_n hx hb d_K_finishChoice_10 rfl (lv_at hl 0 rfl) ?_
  refine va_get (D := (dC, dI)) (ci := 1) (v := .int held) (C := R_K) (T := T_K) (N := 13) hx hb hts in_K hown hK hP 0 rfl rfl 8 (by decide) (hts _ tw_145) (fun _ h9 => h9) rfl d_K_finishChoice_11 ?_
  refine lv_iconst (v := 2) hx hb d_K_finishChoice_14 (by decide) ?_
  obtain ⟨hwt, hwf⟩ := hw
  refine lv_icmp_ge (tgt := 24) hx hb d_K_finishChoice_15 (by decide) (fun c_2 => ?_) (fun c_2 => ?_)
  · have hw := hwt c_2
    refine lv_aload_n hx hb d_K_finishChoice_24 rfl (lv_at hl 0 rfl) ?_
    refine lv_dup hx hb d_K_finishChoice_25 rfl ?_
    refine va_get (D := (dC, dI)) (ci := 1) (v := .int held) (C := R_K) (T := T_K) (N := 13) hx hb hts in_K hown hK hP 0 rfl rfl 8 (by decide) (hts _ tw_145) (fun _ h9 => h9) rfl d_K_finishChoice_26 ?_
    refine lv_iconst (v := 1) hx hb d_K_finishChoice_29 (by decide) ?_
    refine lv_isub hx hb d_K_finishChoice_30 ?_
    refine lv_topi (fun held_3 eheld_3 => ?_)
    have hw := hw held_3 eheld_3
    refine va_put (D := (dC, dI)) (ci := 1) (v := .int held_3) (ty := .int) (C := R_K) (T := T_K) (N := 13) hx hb hts in_K ty_K ty_K_ok nm_K hown hK hP hD hS 0 rfl rfl 8 (by decide) (hts _ tw_145) (fun _ h9 => h9) rfl (by decide +kernel) rfl rfl (Nat.le_of_ble_eq_true rfl) d_K_finishChoice_31 (fun H locs hP hD hS => ?_)
    have hP : va_P (dC, dI) vwCl (wd_K_finishChoice ad ck wait held_3 nest_1 skp fmd dvd amts plns) H := hP
    have hD : va_D A (wd_K_finishChoice ad ck wait held_3 nest_1 skp fmd dvd amts plns) := hD
    refine lv_aload_n hx hb d_K_finishChoice_34 rfl (lv_at hl 0 rfl) ?_
    refine va_get (D := (dC, dI)) (ci := 1) (v := .int held_3) (C := R_K) (T := T_K) (N := 13) hx hb hts in_K hown hK hP 0 rfl rfl 8 (by decide) (hts _ tw_145) (fun _ h9 => h9) rfl d_K_finishChoice_35 ?_
    refine lv_iconst (v := 1) hx hb d_K_finishChoice_38 (by decide) ?_
    refine lv_isub hx hb d_K_finishChoice_39 ?_
    refine lv_topi (fun x2_4 ex2_4 => ?_)
    have hw := hw x2_4 ex2_4
    refine lv_istore_n (lv' := [(2, .int x2_4), (0, .ref (ad 5)), (1, .int p0)]) hx hb d_K_finishChoice_40 rfl hl (by decide) rfl (fun ls hl => ?_)
    refine lv_iload_n hx hb d_K_finishChoice_41 rfl (lv_at hl 2 rfl) ?_
    obtain ⟨hwt, hwf⟩ := hw
    refine lv_if_ne (tgt := 60) hx hb d_K_finishChoice_42 (by decide) (fun c_5 => ?_) (fun c_5 => ?_)
    · have hw := hwf c_5
      exact L_60 x2_4 wait held_3 nest_1 skp fmd dvd amts plns _ _ _ hw hP hD hS (lv_sub hl [1, 0] rfl)
    · have hw := hwt c_5
      refine lv_aload_n hx hb d_K_finishChoice_45 rfl (lv_at hl 1 rfl) ?_
      refine va_get (D := (dC, dI)) (ci := 1) (v := .ref (ad 9)) (C := R_K) (T := T_K) (N := 13) hx hb hts in_K hown hK hP 0 rfl rfl 5 (by decide) (hts _ tw_146) (fun _ h9 => h9) rfl d_K_finishChoice_46 ?_
      refine lv_iload_n hx hb d_K_finishChoice_49 rfl (lv_at hl 0 rfl) ?_
      refine lv_aload_n hx hb d_K_finishChoice_50 rfl (lv_at hl 1 rfl) ?_
      refine va_get (D := (dC, dI)) (ci := 1) (v := .ref (ad 9)) (C := R_K) (T := T_K) (N := 13) hx hb hts in_K hown hK hP 0 rfl rfl 5 (by decide) (hts _ tw_146) (fun _ h9 => h9) rfl d_K_finishChoice_51 ?_
      refine lv_aload_n hx hb d_K_finishChoice_54 rfl (lv_at hl 1 rfl) ?_
      refine va_get (D := (dC, dI)) (ci := 1) (v := .int held_3) (C := R_K) (T := T_K) (N := 13) hx hb hts in_K hown hK hP 0 rfl rfl 8 (by decide) (hts _ tw_145) (fun _ h9 => h9) rfl d_K_finishChoice_55 ?_
      obtain ⟨hi_16, hw⟩ := hw
      refine va_lald hx hb hK hP 1 4 rfl rfl hi_16 d_K_finishChoice_58 ?_
      obtain ⟨hi_17, hw⟩ := hw
      refine va_last hx hb hK hP hD hS 1 4 rfl rfl hi_17 d_K_finishChoice_59 (fun H locs hP hD hS => ?_)
      obtain ⟨amts_18, eamts_18⟩ : ∃ z : Nat → Int64, z = vp_updL amts x2_4.toNatClampNeg (amts held_3.toNatClampNeg) := ⟨_, rfl⟩
      have hw := hw amts_18 eamts_18
      have hP : va_P (dC, dI) vwCl (wd_K_finishChoice ad ck wait held_3 nest_1 skp fmd dvd amts_18 plns) H := by rw [eamts_18]; exact hP
      have hD : va_D A (wd_K_finishChoice ad ck wait held_3 nest_1 skp fmd dvd amts_18 plns) := by rw [eamts_18]; exact hD
      exact L_60 x2_4 wait held_3 nest_1 skp fmd dvd amts_18 plns _ _ _ hw hP hD hS (lv_sub hl [1, 0] rfl)
  · have hw := hwf c_2
    refine lv_aload_n hx hb d_K_finishChoice_18 rfl (lv_at hl 0 rfl) ?_
    refine lv_iconst (v := 0) hx hb d_K_finishChoice_19 (by decide) ?_
    refine va_put (D := (dC, dI)) (ci := 1) (v := .int 0) (ty := .boolean) (C := R_K) (T := T_K) (N := 13) hx hb hts in_K ty_K ty_K_ok nm_K hown hK hP hD hS 0 rfl rfl 11 (by decide) (hts _ tw_144) (fun _ h9 => h9) rfl (by decide +kernel) (by decide) (by decide) (Nat.le_of_ble_eq_true rfl) d_K_finishChoice_20 (fun H locs hP hD hS => ?_)
    have hP : va_P (dC, dI) vwCl (wd_K_finishChoice ad ck wait held nest_1 skp 0 dvd amts plns) H := hP
    have hD : va_D A (wd_K_finishChoice ad ck wait held nest_1 skp 0 dvd amts plns) := hD
    exact W.vret hx hb hr (fun t ht hW => ⟨⟨(held, nest_1, 0, amts, plns), rfl, hw, by rw [ht]; exact hP, va_K.moved hW.alike hK, hD⟩, hS.F ht⟩) hS.2.2 d_K_finishChoice_23

abbrev wd_K_finishPair (ad : Nat → Nat) (ck : Nat → ClassId) (wait : Int32) (held : Int32) (nest : Int32) (skp : Int32) (fmd : Int32) (dvd : Int32) (amts : Nat → Int64) (plns : Nat → Int32) : va_W := [(ad 5, .inr (1, [.ref (ad 3), .ref (ad 4), .ref (ad 6), .ref (ad 7), .ref (ad 8), .ref (ad 9), .ref (ad 10), .int wait, .int held, .int nest, .int skp, .int fmd, .int dvd])), (ad 9, .inl (ck 4, 671, .inr (.inl amts))), (ad 10, .inl (ck 5, 671, .inl plns))]
def w_K_finishPair_121 (post : Int32 → Int32 → Int32 → (Nat → Int64) → (Nat → Int32) → Prop) (x1 : Int32) (x2 : Int32) (x4 : Int32) (wait : Int32) (held : Int32) (nest : Int32) (skp : Int32) (fmd : Int32) (dvd : Int32) (amts : Nat → Int64) (plns : Nat → Int32) : Prop := vp_in x2 671 ∧ (vp_in held 671 ∧ (wp_S_pair (fun (r_12 : Int64) => vp_in x2 671 ∧ (∀ amts_14 : Nat → Int64, amts_14 = vp_updL amts x2.toNatClampNeg r_12 → ((x4 = 0 → (vp_in x2 671 ∧ (∀ plns_17 : Nat → Int32, plns_17 = upd plns x2.toNatClampNeg (vp_nar .boolean 0) → (post held fmd dvd amts_14 plns_17)))) ∧ (¬ x4 = 0 → (wp_S_isTruth (fun (r_18 : Int32) => (r_18 = 0 → (vp_in x2 671 ∧ (∀ plns_23 : Nat → Int32, plns_23 = upd plns x2.toNatClampNeg (vp_nar .boolean 1) → (post held fmd dvd amts_14 plns_23)))) ∧ (¬ r_18 = 0 → (vp_in x2 671 ∧ (∀ plns_21 : Nat → Int32, plns_21 = upd plns x2.toNatClampNeg (vp_nar .boolean 0) → (post held fmd dvd amts_14 plns_21))))) x1))))) x1 (amts x2.toNatClampNeg) (amts held.toNatClampNeg) x4))
def w_K_finishPair_95 (post : Int32 → Int32 → Int32 → (Nat → Int64) → (Nat → Int32) → Prop) (x1 : Int32) (x2 : Int32) (x4 : Int32) (wait : Int32) (held : Int32) (nest : Int32) (skp : Int32) (fmd : Int32) (dvd : Int32) (amts : Nat → Int64) (plns : Nat → Int32) : Prop := vp_in held 671 ∧ (((lg_cmp (amts held.toNatClampNeg) 0) = 0 → ((skp = 0 → (w_K_finishPair_121 post x1 x2 x4 wait held nest skp fmd 1 amts plns)) ∧ (¬ skp = 0 → (w_K_finishPair_121 post x1 x2 x4 wait held nest skp fmd dvd amts plns)))) ∧ (¬ (lg_cmp (amts held.toNatClampNeg) 0) = 0 → (w_K_finishPair_121 post x1 x2 x4 wait held nest skp fmd dvd amts plns)))
def w_K_finishPair_50 (post : Int32 → Int32 → Int32 → (Nat → Int64) → (Nat → Int32) → Prop) (x1 : Int32) (x2 : Int32) (z0 : Int32) (wait : Int32) (held : Int32) (nest : Int32) (skp : Int32) (fmd : Int32) (dvd : Int32) (amts : Nat → Int64) (plns : Nat → Int32) : Prop := vp_in x2 671 ∧ (((plns x2.toNatClampNeg) = 0 → (vp_in held 671 ∧ (((plns held.toNatClampNeg) = 0 → ((x1 = 47 → (w_K_finishPair_95 post x1 x2 0 wait held nest skp fmd dvd amts plns)) ∧ (¬ x1 = 47 → ((x1 = 37 → (w_K_finishPair_95 post x1 x2 0 wait held nest skp fmd dvd amts plns)) ∧ (¬ x1 = 37 → (w_K_finishPair_121 post x1 x2 0 wait held nest skp fmd dvd amts plns)))))) ∧ (¬ (plns held.toNatClampNeg) = 0 → ((z0 = 0 → ((x1 = 47 → (w_K_finishPair_95 post x1 x2 1 wait held nest skp fmd dvd amts plns)) ∧ (¬ x1 = 47 → ((x1 = 37 → (w_K_finishPair_95 post x1 x2 1 wait held nest skp fmd dvd amts plns)) ∧ (¬ x1 = 37 → (w_K_finishPair_121 post x1 x2 1 wait held nest skp fmd dvd amts plns)))))) ∧ (¬ z0 = 0 → ((x1 = 47 → (w_K_finishPair_95 post x1 x2 0 wait held nest skp fmd dvd amts plns)) ∧ (¬ x1 = 47 → ((x1 = 37 → (w_K_finishPair_95 post x1 x2 0 wait held nest skp fmd dvd amts plns)) ∧ (¬ x1 = 37 → (w_K_finishPair_121 post x1 x2 0 wait held nest skp fmd dvd amts plns))))))))))) ∧ (¬ (plns x2.toNatClampNeg) = 0 → ((x1 = 47 → (w_K_finishPair_95 post x1 x2 1 wait held nest skp fmd dvd amts plns)) ∧ (¬ x1 = 47 → ((x1 = 37 → (w_K_finishPair_95 post x1 x2 1 wait held nest skp fmd dvd amts plns)) ∧ (¬ x1 = 37 → (w_K_finishPair_121 post x1 x2 1 wait held nest skp fmd dvd amts plns)))))))
def wp_K_finishPair (post : Int32 → Int32 → Int32 → (Nat → Int64) → (Nat → Int32) → Prop) (wait : Int32) (held : Int32) (nest : Int32) (skp : Int32) (fmd : Int32) (dvd : Int32) (amts : Nat → Int64) (plns : Nat → Int32) (p0 : Int32) : Prop := (2 ≤ held → (∀ held_2 : Int32, held_2 = (held - 1) → (∀ x2_3 : Int32, x2_3 = (held_2 - 1) → ((p0 = 15420 → (w_K_finishPair_50 post p0 x2_3 1 wait held_2 nest skp fmd dvd amts plns)) ∧ (¬ p0 = 15420 → ((p0 = 15934 → (w_K_finishPair_50 post p0 x2_3 1 wait held_2 nest skp fmd dvd amts plns)) ∧ (¬ p0 = 15934 → (w_K_finishPair_50 post p0 x2_3 0 wait held_2 nest skp fmd dvd amts plns)))))))) ∧ (¬ 2 ≤ held → (post held 0 dvd amts plns))
set_option maxHeartbeats 4000000 in
set_option maxRecDepth 100000 in
theorem kc_K_finishPair (l : Launch) (dC : Nat → ClassId) (dI : Nat → Nat → Nat) (ad : Nat → Nat) (ck : Nat → ClassId) (wait : Int32) (held : Int32) (nest : Int32) (skp : Int32) (fmd : Int32) (dvd : Int32) (amts : Nat → Int64) (plns : Nat → Int32) (p0 : Int32) {post : Int32 → Int32 → Int32 → (Nat → Int64) → (Nat → Int32) → Prop} (hw : wp_K_finishPair post wait held nest skp fmd dvd amts plns p0) : k_Cv l y_K_finishPair ws_K_finishPair ({ frames := 2, cells := 0, slots := 0, locals := 53 } : Room) (dC, dI) vwCl (TYm ck) k_x0 [.ref (ad 5), .int p0] (wd_K_finishPair ad ck wait held nest skp fmd dvd amts plns) (fun (u : Int32 × Int32 × Int32 × (Nat → Int64) × (Nat → Int32)) => post u.1 u.2.1 u.2.2.1 u.2.2.2.1 u.2.2.2.2) (fun (u : Int32 × Int32 × Int32 × (Nat → Int64) × (Nat → Int32)) => wd_K_finishPair ad ck wait u.1 nest skp u.2.1 u.2.2.1 u.2.2.2.1 u.2.2.2.2) := by
  intro sz
  refine Met.ofW (cc := c_K_finishPair) (maxL := 5) (ret := none) (by decide) rfl ?_
  intro p e s m args below meth c s₁ B hml hv
  obtain ⟨rfl, hsz, hP, hK, hD0, hX⟩ := hv
  have hx := B.exec
  have hb := B.bytes
  have hr := B.returns
  have hts : ∀ w ∈ TB, w.before _ s = true := fun w h => atoms_spec (ws := ws_K_finishPair) B.pre w (List.mem_cons_of_mem _ h)
  have hown : s.vm.findClass R_K = some m.cls := findClass_of_methodNamed B.named
  have hlocks := B.notSynchronized
  subst hsz
  have hD := hD0.self (sz := s.heap.size)
  generalize hAe : va_A (wd_K_finishPair ad ck wait held nest skp fmd dvd amts plns) s.heap.size = A at hD hX ⊢
  have hA : ∀ q : Nat, s.heap.size ≤ q → A q := fun q h => by rw [← hAe]; exact Or.inr h
  have hS : va_S A s.heap s.heap [] := va_S.rf
  have hP : va_P (dC, dI) vwCl (wd_K_finishPair ad ck wait held nest skp fmd dvd amts plns) s.heap := hP
  have hl := lv_entry ([.ref (ad 5), .int p0]) (n := 5) (Nat.le_of_ble_eq_true rfl)
  rw [lg_entry_eq]
  generalize (lg_sl ([.ref (ad 5), .int p0]) ++ List.replicate (5 - (lg_sl ([.ref (ad 5), .int p0])).length) Slot.unset).toArray = ls at hl ⊢
  have hl : lv_has ls 5 [(0, .ref (ad 5)), (1, .int p0)] := hl
  have L_121 : ∀ (x1 : Int32) (x2 : Int32) (x4 : Int32) (wait : Int32) (held : Int32) (nest : Int32) (skp : Int32) (fmd : Int32) (dvd : Int32) (amts : Nat → Int64) (plns : Nat → Int32) (H : Heap) (locs : List Loc) (ls : Array Slot), w_K_finishPair_121 post x1 x2 x4 wait held nest skp fmd dvd amts plns → va_P (dC, dI) vwCl (wd_K_finishPair ad ck wait held nest skp fmd dvd amts plns) H → va_D A (wd_K_finishPair ad ck wait held nest skp fmd dvd amts plns) → va_S A s.heap H locs → lv_has ls 5 [(0, .ref (ad 5)), (1, .int x1), (2, .int x2), (4, .int x4)] → W p l e (headSpec ws_K_finishPair ({ frames := 2, cells := 0, slots := 0, locals := 53 } : Room)).room s m ([.ref (ad 5), .int p0] : List Value).toArray below meth c H locs 0 0 (k_Qv below (dC, dI) vwCl (TYm ck) A (fun (u : Int32 × Int32 × Int32 × (Nat → Int64) × (Nat → Int32)) => post u.1 u.2.1 u.2.2.1 u.2.2.2.1 u.2.2.2.2) (fun (u : Int32 × Int32 × Int32 × (Nat → Int64) × (Nat → Int32)) => wd_K_finishPair ad ck wait u.1 nest skp u.2.1 u.2.2.1 u.2.2.2.1 u.2.2.2.2) ([.ref (ad 5), .int p0] : List Value).toArray s) (F0 m 121 ls []) := by
    intro x1 x2 x4 wait held nest skp fmd dvd amts plns H locs ls hw hP hD hS hl
    refine lv_aload_n hx hb d_K_finishPair_121 rfl (lv_at hl 0 rfl) ?_
    refine va_get (D := (dC, dI)) (ci := 1) (v := .ref (ad 9)) (C := R_K) (T := T_K) (N := 13) hx hb hts in_K hown hK hP 0 rfl rfl 5 (by decide) (hts _ tw_146) (fun _ h9 => h9) rfl d_K_finishPair_122 ?_
    refine lv_iload_n hx hb d_K_finishPair_125 rfl (lv_at hl 2 rfl) ?_
    refine lv_iload_n hx hb d_K_finishPair_126 rfl (lv_at hl 1 rfl) ?_
    refine lv_aload_n hx hb d_K_finishPair_127 rfl (lv_at hl 0 rfl) ?_
    refine va_get (D := (dC, dI)) (ci := 1) (v := .ref (ad 9)) (C := R_K) (T := T_K) (N := 13) hx hb hts in_K hown hK hP 0 rfl rfl 5 (by decide) (hts _ tw_146) (fun _ h9 => h9) rfl d_K_finishPair_128 ?_
    refine lv_iload_n hx hb d_K_finishPair_131 rfl (lv_at hl 2 rfl) ?_
    obtain ⟨hi_10, hw⟩ := hw
    refine va_lald hx hb hK hP 1 4 rfl rfl hi_10 d_K_finishPair_132 ?_
    refine lv_aload_n hx hb d_K_finishPair_133 rfl (lv_at hl 0 rfl) ?_
    refine va_get (D := (dC, dI)) (ci := 1) (v := .ref (ad 9)) (C := R_K) (T := T_K) (N := 13) hx hb hts in_K hown hK hP 0 rfl rfl 5 (by decide) (hts _ tw_146) (fun _ h9 => h9) rfl d_K_finishPair_134 ?_
    refine lv_aload_n hx hb d_K_finishPair_137 rfl (lv_at hl 0 rfl) ?_
    refine va_get (D := (dC, dI)) (ci := 1) (v := .int held) (C := R_K) (T := T_K) (N := 13) hx hb hts in_K hown hK hP 0 rfl rfl 8 (by decide) (hts _ tw_145) (fun _ h9 => h9) rfl d_K_finishPair_138 ?_
    obtain ⟨hi_11, hw⟩ := hw
    refine va_lald hx hb hK hP 1 4 rfl rfl hi_11 d_K_finishPair_141 ?_
    refine lv_iload hx hb d_K_finishPair_142 (lv_at hl 3 rfl) ?_
    refine k_callSl (As := [.int x1, .long (amts x2.toNatClampNeg), .long (amts held.toNatClampNeg), .int x4]) (rest := [.int x2, .ref (ad 9)]) (fun (u : Unit) => wd_K_finishPair ad ck wait held nest skp fmd dvd amts plns) ⟨hx, hb, hml, hown, hts⟩ (kc_S_pair l dC dI ad ck x1 (amts x2.toNatClampNeg) (amts held.toNatClampNeg) x4 (hw := hw)) (va_cwS 4 hts (gS tw_179 tw_181 tw_134 tw_180) rfl rfl rfl hd_S_pair ⟨Nat.le_of_ble_eq_true rfl, Nat.le_of_ble_eq_true rfl⟩) hK hP hD hS hA k_x0c trivial [] [0, 1, 2] [0, 1, 2] rfl rfl (by decide) (by decide) (fun _ => rfl) rfl hl.1 rfl (lv_room (Nat.le_of_ble_eq_true rfl)) d_K_finishPair_144 ⟨Nat.zero_le _, Nat.zero_le _⟩ ?_
    intro r_12 u H locs hw hP hD hS
    have hP : va_P (dC, dI) vwCl (wd_K_finishPair ad ck wait held nest skp fmd dvd amts plns) H := hP
    have hD : va_D A (wd_K_finishPair ad ck wait held nest skp fmd dvd amts plns) := hD
    try dsimp only at hw
    obtain ⟨hi_13, hw⟩ := hw
    refine va_last hx hb hK hP hD hS 1 4 rfl rfl hi_13 d_K_finishPair_147 (fun H locs hP hD hS => ?_)
    obtain ⟨amts_14, eamts_14⟩ : ∃ z : Nat → Int64, z = vp_updL amts x2.toNatClampNeg r_12 := ⟨_, rfl⟩
    have hw := hw amts_14 eamts_14
    have hP : va_P (dC, dI) vwCl (wd_K_finishPair ad ck wait held nest skp fmd dvd amts_14 plns) H := by rw [eamts_14]; exact hP
    have hD : va_D A (wd_K_finishPair ad ck wait held nest skp fmd dvd amts_14 plns) := by rw [eamts_14]; exact hD
    refine lv_aload_n hx hb d_K_finishPair_148 rfl (lv_at hl 0 rfl) ?_
    refine va_get (D := (dC, dI)) (ci := 1) (v := .ref (ad 10)) (C := R_K) (T := T_K) (N := 13) hx hb hts in_K hown hK hP 0 rfl rfl 6 (by decide) (hts _ tw_147) (fun _ h9 => h9) rfl d_K_finishPair_149 ?_
    refine lv_iload_n hx hb d_K_finishPair_152 rfl (lv_at hl 2 rfl) ?_
    refine lv_iload hx hb d_K_finishPair_153 (lv_at hl 3 rfl) ?_
    obtain ⟨hwt, hwf⟩ := hw
    refine lv_if_eq (tgt := 169) hx hb d_K_finishPair_155 (by decide) (fun c_15 => ?_) (fun c_15 => ?_)
    · have hw := hwt c_15
      refine lv_iconst (v := 0) hx hb d_K_finishPair_169 (by decide) ?_
      obtain ⟨hi_16, hw⟩ := hw
      refine va_zast hx hb hK hP hD hS 2 5 rfl rfl hi_16 d_K_finishPair_170 (fun H locs hP hD hS => ?_)
      obtain ⟨plns_17, eplns_17⟩ : ∃ z : Nat → Int32, z = upd plns x2.toNatClampNeg (vp_nar .boolean 0) := ⟨_, rfl⟩
      have hw := hw plns_17 eplns_17
      have hP : va_P (dC, dI) vwCl (wd_K_finishPair ad ck wait held nest skp fmd dvd amts_14 plns_17) H := by rw [eplns_17]; exact hP
      have hD : va_D A (wd_K_finishPair ad ck wait held nest skp fmd dvd amts_14 plns_17) := by rw [eplns_17]; exact hD
      exact W.vret hx hb hr (fun t ht hW => ⟨⟨(held, fmd, dvd, amts_14, plns_17), rfl, hw, by rw [ht]; exact hP, va_K.moved hW.alike hK, hD⟩, hS.F ht⟩) hS.2.2 d_K_finishPair_171
    · have hw := hwf c_15
      refine lv_iload_n hx hb d_K_finishPair_158 rfl (lv_at hl 1 rfl) ?_
      refine k_callSi (As := [.int x1]) (rest := [.int x2, .ref (ad 10)]) (fun (u : Unit) => wd_K_finishPair ad ck wait held nest skp fmd dvd amts_14 plns) ⟨hx, hb, hml, hown, hts⟩ (kc_S_isTruth l dC dI ad ck x1 (hw := hw)) (va_cwS 1 hts (gS tw_182 tw_135 tw_134 tw_133) rfl rfl rfl hd_S_isTruth ⟨Nat.le_of_ble_eq_true rfl, Nat.le_of_ble_eq_true rfl⟩) hK hP hD hS hA k_x0c trivial [] [0, 1, 2] [0, 1, 2] rfl rfl (by decide) (by decide) (fun _ => rfl) rfl hl.1 rfl (lv_room (Nat.le_of_ble_eq_true rfl)) d_K_finishPair_159 ⟨Nat.zero_le _, Nat.zero_le _⟩ ?_
      intro r_18 u H locs hw hP hD hS
      have hP : va_P (dC, dI) vwCl (wd_K_finishPair ad ck wait held nest skp fmd dvd amts_14 plns) H := hP
      have hD : va_D A (wd_K_finishPair ad ck wait held nest skp fmd dvd amts_14 plns) := hD
      try dsimp only at hw
      obtain ⟨hwt, hwf⟩ := hw
      refine lv_if_ne (tgt := 169) hx hb d_K_finishPair_162 (by decide) (fun c_19 => ?_) (fun c_19 => ?_)
      · have hw := hwf c_19
        refine lv_iconst (v := 0) hx hb d_K_finishPair_169 (by decide) ?_
        obtain ⟨hi_20, hw⟩ := hw
        refine va_zast hx hb hK hP hD hS 2 5 rfl rfl hi_20 d_K_finishPair_170 (fun H locs hP hD hS => ?_)
        obtain ⟨plns_21, eplns_21⟩ : ∃ z : Nat → Int32, z = upd plns x2.toNatClampNeg (vp_nar .boolean 0) := ⟨_, rfl⟩
        have hw := hw plns_21 eplns_21
        have hP : va_P (dC, dI) vwCl (wd_K_finishPair ad ck wait held nest skp fmd dvd amts_14 plns_21) H := by rw [eplns_21]; exact hP
        have hD : va_D A (wd_K_finishPair ad ck wait held nest skp fmd dvd amts_14 plns_21) := by rw [eplns_21]; exact hD
        exact W.vret hx hb hr (fun t ht hW => ⟨⟨(held, fmd, dvd, amts_14, plns_21), rfl, hw, by rw [ht]; exact hP, va_K.moved hW.alike hK, hD⟩, hS.F ht⟩) hS.2.2 d_K_finishPair_171
      · have hw := hwt c_19
        refine lv_iconst (v := 1) hx hb d_K_finishPair_165 (by decide) ?_
        refine lv_goto (tgt := 170) hx hb d_K_finishPair_166 (by decide) ?_
        obtain ⟨hi_22, hw⟩ := hw
        refine va_zast hx hb hK hP hD hS 2 5 rfl rfl hi_22 d_K_finishPair_170 (fun H locs hP hD hS => ?_)
        obtain ⟨plns_23, eplns_23⟩ : ∃ z : Nat → Int32, z = upd plns x2.toNatClampNeg (vp_nar .boolean 1) := ⟨_, rfl⟩
        have hw := hw plns_23 eplns_23
        have hP : va_P (dC, dI) vwCl (wd_K_finishPair ad ck wait held nest skp fmd dvd amts_14 plns_23) H := by rw [eplns_23]; exact hP
        have hD : va_D A (wd_K_finishPair ad ck wait held nest skp fmd dvd amts_14 plns_23) := by rw [eplns_23]; exact hD
        exact W.vret hx hb hr (fun t ht hW => ⟨⟨(held, fmd, dvd, amts_14, plns_23), rfl, hw, by rw [ht]; exact hP, va_K.moved hW.alike hK, hD⟩, hS.F ht⟩) hS.2.2 d_K_finishPair_171
  have L_95 : ∀ (x1 : Int32) (x2 : Int32) (x4 : Int32) (wait : Int32) (held : Int32) (nest : Int32) (skp : Int32) (fmd : Int32) (dvd : Int32) (amts : Nat → Int64) (plns : Nat → Int32) (H : Heap) (locs : List Loc) (ls : Array Slot), w_K_finishPair_95 post x1 x2 x4 wait held nest skp fmd dvd amts plns → va_P (dC, dI) vwCl (wd_K_finishPair ad ck wait held nest skp fmd dvd amts plns) H → va_D A (wd_K_finishPair ad ck wait held nest skp fmd dvd amts plns) → va_S A s.heap H locs → lv_has ls 5 [(0, .ref (ad 5)), (1, .int x1), (2, .int x2), (4, .int x4)] → W p l e (headSpec ws_K_finishPair ({ frames := 2, cells := 0, slots := 0, locals := 53 } : Room)).room s m ([.ref (ad 5), .int p0] : List Value).toArray below meth c H locs 0 0 (k_Qv below (dC, dI) vwCl (TYm ck) A (fun (u : Int32 × Int32 × Int32 × (Nat → Int64) × (Nat → Int32)) => post u.1 u.2.1 u.2.2.1 u.2.2.2.1 u.2.2.2.2) (fun (u : Int32 × Int32 × Int32 × (Nat → Int64) × (Nat → Int32)) => wd_K_finishPair ad ck wait u.1 nest skp u.2.1 u.2.2.1 u.2.2.2.1 u.2.2.2.2) ([.ref (ad 5), .int p0] : List Value).toArray s) (F0 m 95 ls []) := by
    intro x1 x2 x4 wait held nest skp fmd dvd amts plns H locs ls hw hP hD hS hl
    refine lv_aload_n hx hb d_K_finishPair_95 rfl (lv_at hl 0 rfl) ?_
    refine va_get (D := (dC, dI)) (ci := 1) (v := .ref (ad 9)) (C := R_K) (T := T_K) (N := 13) hx hb hts in_K hown hK hP 0 rfl rfl 5 (by decide) (hts _ tw_146) (fun _ h9 => h9) rfl d_K_finishPair_96 ?_
    refine lv_aload_n hx hb d_K_finishPair_99 rfl (lv_at hl 0 rfl) ?_
    refine va_get (D := (dC, dI)) (ci := 1) (v := .int held) (C := R_K) (T := T_K) (N := 13) hx hb hts in_K hown hK hP 0 rfl rfl 8 (by decide) (hts _ tw_145) (fun _ h9 => h9) rfl d_K_finishPair_100 ?_
    obtain ⟨hi_8, hw⟩ := hw
    refine va_lald hx hb hK hP 1 4 rfl rfl hi_8 d_K_finishPair_103 ?_
    refine lv_lconst (v := 0) hx hb d_K_finishPair_104 (by decide) ?_
    refine W.lcmp hx hb d_K_finishPair_105 ?_
    obtain ⟨hwt, hwf⟩ := hw
    refine lv_if_ne (tgt := 121) hx hb d_K_finishPair_106 (by decide) (fun c_9 => ?_) (fun c_9 => ?_)
    · have hw := hwf c_9
      exact L_121 x1 x2 x4 wait held nest skp fmd dvd amts plns _ _ _ hw hP hD hS (lv_sub hl [0, 1, 2, 3] rfl)
    · have hw := hwt c_9
      refine lv_aload_n hx hb d_K_finishPair_109 rfl (lv_at hl 0 rfl) ?_
      refine va_get (D := (dC, dI)) (ci := 1) (v := .int skp) (C := R_K) (T := T_K) (N := 13) hx hb hts in_K hown hK hP 0 rfl rfl 10 (by decide) (hts _ tw_152) (fun _ h9 => h9) rfl d_K_finishPair_110 ?_
      obtain ⟨hwt, hwf⟩ := hw
      refine lv_if_ne (tgt := 121) hx hb d_K_finishPair_113 (by decide) (fun c_24 => ?_) (fun c_24 => ?_)
      · have hw := hwf c_24
        exact L_121 x1 x2 x4 wait held nest skp fmd dvd amts plns _ _ _ hw hP hD hS (lv_sub hl [0, 1, 2, 3] rfl)
      · have hw := hwt c_24
        refine lv_aload_n hx hb d_K_finishPair_116 rfl (lv_at hl 0 rfl) ?_
        refine lv_iconst (v := 1) hx hb d_K_finishPair_117 (by decide) ?_
        refine va_put (D := (dC, dI)) (ci := 1) (v := .int 1) (ty := .boolean) (C := R_K) (T := T_K) (N := 13) hx hb hts in_K ty_K ty_K_ok nm_K hown hK hP hD hS 0 rfl rfl 12 (by decide) (hts _ tw_158) (fun _ h9 => h9) rfl (by decide +kernel) (by decide) (by decide) (Nat.le_of_ble_eq_true rfl) d_K_finishPair_118 (fun H locs hP hD hS => ?_)
        have hP : va_P (dC, dI) vwCl (wd_K_finishPair ad ck wait held nest skp fmd 1 amts plns) H := hP
        have hD : va_D A (wd_K_finishPair ad ck wait held nest skp fmd 1 amts plns) := hD
        exact L_121 x1 x2 x4 wait held nest skp fmd 1 amts plns _ _ _ hw hP hD hS (lv_sub hl [0, 1, 2, 3] rfl)
  have L_50 : ∀ (x1 : Int32) (x2 : Int32) (z0 : Int32) (wait : Int32) (held : Int32) (nest : Int32) (skp : Int32) (fmd : Int32) (dvd : Int32) (amts : Nat → Int64) (plns : Nat → Int32) (H : Heap) (locs : List Loc) (ls : Array Slot), w_K_finishPair_50 post x1 x2 z0 wait held nest skp fmd dvd amts plns → va_P (dC, dI) vwCl (wd_K_finishPair ad ck wait held nest skp fmd dvd amts plns) H → va_D A (wd_K_finishPair ad ck wait held nest skp fmd dvd amts plns) → va_S A s.heap H locs → lv_has ls 5 [(0, .ref (ad 5)), (1, .int x1), (2, .int x2)] → W p l e (headSpec ws_K_finishPair ({ frames := 2, cells := 0, slots := 0, locals := 53 } : Room)).room s m ([.ref (ad 5), .int p0] : List Value).toArray below meth c H locs 0 0 (k_Qv below (dC, dI) vwCl (TYm ck) A (fun (u : Int32 × Int32 × Int32 × (Nat → Int64) × (Nat → Int32)) => post u.1 u.2.1 u.2.2.1 u.2.2.2.1 u.2.2.2.2) (fun (u : Int32 × Int32 × Int32 × (Nat → Int64) × (Nat → Int32)) => wd_K_finishPair ad ck wait u.1 nest skp u.2.1 u.2.2.1 u.2.2.2.1 u.2.2.2.2) ([.ref (ad 5), .int p0] : List Value).toArray s) (F0 m 50 ls [.int z0]) := by
    intro x1 x2 z0 wait held nest skp fmd dvd amts plns H locs ls hw hP hD hS hl
    refine lv_istore_n (lv' := [(3, .int z0), (0, .ref (ad 5)), (1, .int x1), (2, .int x2)]) hx hb d_K_finishPair_50 rfl hl (by decide) rfl (fun ls hl => ?_)
    refine lv_aload_n hx hb d_K_finishPair_51 rfl (lv_at hl 1 rfl) ?_
    refine va_get (D := (dC, dI)) (ci := 1) (v := .ref (ad 10)) (C := R_K) (T := T_K) (N := 13) hx hb hts in_K hown hK hP 0 rfl rfl 6 (by decide) (hts _ tw_147) (fun _ h9 => h9) rfl d_K_finishPair_52 ?_
    refine lv_iload_n hx hb d_K_finishPair_55 rfl (lv_at hl 3 rfl) ?_
    obtain ⟨hi_5, hw⟩ := hw
    refine va_zald hx hb hK hP 2 5 rfl rfl hi_5 d_K_finishPair_56 ?_
    obtain ⟨hwt, hwf⟩ := hw
    refine lv_if_ne (tgt := 76) hx hb d_K_finishPair_57 (by decide) (fun c_6 => ?_) (fun c_6 => ?_)
    · have hw := hwf c_6
      refine lv_iconst (v := 1) hx hb d_K_finishPair_76 (by decide) ?_
      refine lv_goto (tgt := 81) hx hb d_K_finishPair_77 (by decide) ?_
      refine lv_istore (lv' := [(4, .int 1), (3, .int z0), (0, .ref (ad 5)), (1, .int x1), (2, .int x2)]) hx hb d_K_finishPair_81 hl (by decide) rfl (fun ls hl => ?_)
      refine lv_iload_n hx hb d_K_finishPair_83 rfl (lv_at hl 3 rfl) ?_
      refine lv_bipush (v := 47) hx hb d_K_finishPair_84 (by decide) ?_
      obtain ⟨hwt, hwf⟩ := hw
      refine lv_icmp_eq (tgt := 95) hx hb d_K_finishPair_86 (by decide) (fun c_7 => ?_) (fun c_7 => ?_)
      · have hw := hwt c_7
        exact L_95 x1 x2 1 wait held nest skp fmd dvd amts plns _ _ _ hw hP hD hS (lv_sub hl [2, 3, 4, 0] rfl)
      · have hw := hwf c_7
        refine lv_iload_n hx hb d_K_finishPair_89 rfl (lv_at hl 3 rfl) ?_
        refine lv_bipush (v := 37) hx hb d_K_finishPair_90 (by decide) ?_
        obtain ⟨hwt, hwf⟩ := hw
        refine lv_icmp_ne (tgt := 121) hx hb d_K_finishPair_92 (by decide) (fun c_25 => ?_) (fun c_25 => ?_)
        · have hw := hwf c_25
          exact L_121 x1 x2 1 wait held nest skp fmd dvd amts plns _ _ _ hw hP hD hS (lv_sub hl [2, 3, 4, 0] rfl)
        · have hw := hwt c_25
          exact L_95 x1 x2 1 wait held nest skp fmd dvd amts plns _ _ _ hw hP hD hS (lv_sub hl [2, 3, 4, 0] rfl)
    · have hw := hwt c_6
      refine lv_aload_n hx hb d_K_finishPair_60 rfl (lv_at hl 1 rfl) ?_
      refine va_get (D := (dC, dI)) (ci := 1) (v := .ref (ad 10)) (C := R_K) (T := T_K) (N := 13) hx hb hts in_K hown hK hP 0 rfl rfl 6 (by decide) (hts _ tw_147) (fun _ h9 => h9) rfl d_K_finishPair_61 ?_
      refine lv_aload_n hx hb d_K_finishPair_64 rfl (lv_at hl 1 rfl) ?_
      refine va_get (D := (dC, dI)) (ci := 1) (v := .int held) (C := R_K) (T := T_K) (N := 13) hx hb hts in_K hown hK hP 0 rfl rfl 8 (by decide) (hts _ tw_145) (fun _ h9 => h9) rfl d_K_finishPair_65 ?_
      obtain ⟨hi_26, hw⟩ := hw
      refine va_zald hx hb hK hP 2 5 rfl rfl hi_26 d_K_finishPair_68 ?_
      obtain ⟨hwt, hwf⟩ := hw
      refine lv_if_eq (tgt := 80) hx hb d_K_finishPair_69 (by decide) (fun c_27 => ?_) (fun c_27 => ?_)
      · have hw := hwt c_27
        refine lv_iconst (v := 0) hx hb d_K_finishPair_80 (by decide) ?_
        refine lv_istore (lv' := [(4, .int 0), (3, .int z0), (0, .ref (ad 5)), (1, .int x1), (2, .int x2)]) hx hb d_K_finishPair_81 hl (by decide) rfl (fun ls hl => ?_)
        refine lv_iload_n hx hb d_K_finishPair_83 rfl (lv_at hl 3 rfl) ?_
        refine lv_bipush (v := 47) hx hb d_K_finishPair_84 (by decide) ?_
        obtain ⟨hwt, hwf⟩ := hw
        refine lv_icmp_eq (tgt := 95) hx hb d_K_finishPair_86 (by decide) (fun c_28 => ?_) (fun c_28 => ?_)
        · have hw := hwt c_28
          exact L_95 x1 x2 0 wait held nest skp fmd dvd amts plns _ _ _ hw hP hD hS (lv_sub hl [2, 3, 4, 0] rfl)
        · have hw := hwf c_28
          refine lv_iload_n hx hb d_K_finishPair_89 rfl (lv_at hl 3 rfl) ?_
          refine lv_bipush (v := 37) hx hb d_K_finishPair_90 (by decide) ?_
          obtain ⟨hwt, hwf⟩ := hw
          refine lv_icmp_ne (tgt := 121) hx hb d_K_finishPair_92 (by decide) (fun c_29 => ?_) (fun c_29 => ?_)
          · have hw := hwf c_29
            exact L_121 x1 x2 0 wait held nest skp fmd dvd amts plns _ _ _ hw hP hD hS (lv_sub hl [2, 3, 4, 0] rfl)
          · have hw := hwt c_29
            exact L_95 x1 x2 0 wait held nest skp fmd dvd amts plns _ _ _ hw hP hD hS (lv_sub hl [2, 3, 4, 0] rfl)
      · have hw := hwf c_27
        refine lv_iload_n hx hb d_K_finishPair_72 rfl (lv_at hl 0 rfl) ?_
        obtain ⟨hwt, hwf⟩ := hw
        refine lv_if_ne (tgt := 80) hx hb d_K_finishPair_73 (by decide) (fun c_30 => ?_) (fun c_30 => ?_)
        · have hw := hwf c_30
          refine lv_iconst (v := 0) hx hb d_K_finishPair_80 (by decide) ?_
          refine lv_istore (lv' := [(4, .int 0), (3, .int z0), (0, .ref (ad 5)), (1, .int x1), (2, .int x2)]) hx hb d_K_finishPair_81 hl (by decide) rfl (fun ls hl => ?_)
          refine lv_iload_n hx hb d_K_finishPair_83 rfl (lv_at hl 3 rfl) ?_
          refine lv_bipush (v := 47) hx hb d_K_finishPair_84 (by decide) ?_
          obtain ⟨hwt, hwf⟩ := hw
          refine lv_icmp_eq (tgt := 95) hx hb d_K_finishPair_86 (by decide) (fun c_31 => ?_) (fun c_31 => ?_)
          · have hw := hwt c_31
            exact L_95 x1 x2 0 wait held nest skp fmd dvd amts plns _ _ _ hw hP hD hS (lv_sub hl [2, 3, 4, 0] rfl)
          · have hw := hwf c_31
            refine lv_iload_n hx hb d_K_finishPair_89 rfl (lv_at hl 3 rfl) ?_
            refine lv_bipush (v := 37) hx hb d_K_finishPair_90 (by decide) ?_
            obtain ⟨hwt, hwf⟩ := hw
            refine lv_icmp_ne (tgt := 121) hx hb d_K_finishPair_92 (by decide) (fun c_32 => ?_) (fun c_32 => ?_)
            · have hw := hwf c_32
              exact L_121 x1 x2 0 wait held nest skp fmd dvd amts plns _ _ _ hw hP hD hS (lv_sub hl [2, 3, 4, 0] rfl)
            · have hw := hwt c_32
              exact L_95 x1 x2 0 wait held nest skp fmd dvd amts plns _ _ _ hw hP hD hS (lv_sub hl [2, 3, 4, 0] rfl)
        · have hw := hwt c_30
          refine lv_iconst (v := 1) hx hb d_K_finishPair_76 (by decide) ?_
          refine lv_goto (tgt := 81) hx hb d_K_finishPair_77 (by decide) ?_
          refine lv_istore (lv' := [(4, .int 1), (3, .int z0), (0, .ref (ad 5)), (1, .int x1), (2, .int x2)]) hx hb d_K_finishPair_81 hl (by decide) rfl (fun ls hl => ?_)
          refine lv_iload_n hx hb d_K_finishPair_83 rfl (lv_at hl 3 rfl) ?_
          refine lv_bipush (v := 47) hx hb d_K_finishPair_84 (by decide) ?_
          obtain ⟨hwt, hwf⟩ := hw
          refine lv_icmp_eq (tgt := 95) hx hb d_K_finishPair_86 (by decide) (fun c_33 => ?_) (fun c_33 => ?_)
          · have hw := hwt c_33
            exact L_95 x1 x2 1 wait held nest skp fmd dvd amts plns _ _ _ hw hP hD hS (lv_sub hl [2, 3, 4, 0] rfl)
          · have hw := hwf c_33
            refine lv_iload_n hx hb d_K_finishPair_89 rfl (lv_at hl 3 rfl) ?_
            refine lv_bipush (v := 37) hx hb d_K_finishPair_90 (by decide) ?_
            obtain ⟨hwt, hwf⟩ := hw
            refine lv_icmp_ne (tgt := 121) hx hb d_K_finishPair_92 (by decide) (fun c_34 => ?_) (fun c_34 => ?_)
            · have hw := hwf c_34
              exact L_121 x1 x2 1 wait held nest skp fmd dvd amts plns _ _ _ hw hP hD hS (lv_sub hl [2, 3, 4, 0] rfl)
            · have hw := hwt c_34
              exact L_95 x1 x2 1 wait held nest skp fmd dvd amts plns _ _ _ hw hP hD hS (lv_sub hl [2, 3, 4, 0] rfl)
  refine lv_aload_n hx hb d_K_finishPair_0 rfl (lv_at hl 0 rfl) ?_
  refine va_get (D := (dC, dI)) (ci := 1) (v := .int held) (C := R_K) (T := T_K) (N := 13) hx hb hts in_K hown hK hP 0 rfl rfl 8 (by decide) (hts _ tw_145) (fun _ h9 => h9) rfl d_K_finishPair_1 ?_
  refine lv_iconst (v := 2) hx hb d_K_finishPair_4 (by decide) ?_
  obtain ⟨hwt, hwf⟩ := hw
  refine lv_icmp_ge (tgt := 14) hx hb d_K_finishPair_5 (by decide) (fun c_1 => ?_) (fun c_1 => ?_)
  · have hw := hwt c_1
    refine lv_aload_n hx hb d_K_finishPair_14 rfl (lv_at hl 0 rfl) ?_
    refine lv_dup hx hb d_K_finishPair_15 rfl ?_
    refine va_get (D := (dC, dI)) (ci := 1) (v := .int held) (C := R_K) (T := T_K) (N := 13) hx hb hts in_K hown hK hP 0 rfl rfl 8 (by decide) (hts _ tw_145) (fun _ h9 => h9) rfl d_K_finishPair_16 ?_
    refine lv_iconst (v := 1) hx hb d_K_finishPair_19 (by decide) ?_
    refine lv_isub hx hb d_K_finishPair_20 ?_
    refine lv_topi (fun held_2 eheld_2 => ?_)
    have hw := hw held_2 eheld_2
    refine va_put (D := (dC, dI)) (ci := 1) (v := .int held_2) (ty := .int) (C := R_K) (T := T_K) (N := 13) hx hb hts in_K ty_K ty_K_ok nm_K hown hK hP hD hS 0 rfl rfl 8 (by decide) (hts _ tw_145) (fun _ h9 => h9) rfl (by decide +kernel) rfl rfl (Nat.le_of_ble_eq_true rfl) d_K_finishPair_21 (fun H locs hP hD hS => ?_)
    have hP : va_P (dC, dI) vwCl (wd_K_finishPair ad ck wait held_2 nest skp fmd dvd amts plns) H := hP
    have hD : va_D A (wd_K_finishPair ad ck wait held_2 nest skp fmd dvd amts plns) := hD
    refine lv_aload_n hx hb d_K_finishPair_24 rfl (lv_at hl 0 rfl) ?_
    refine va_get (D := (dC, dI)) (ci := 1) (v := .int held_2) (C := R_K) (T := T_K) (N := 13) hx hb hts in_K hown hK hP 0 rfl rfl 8 (by decide) (hts _ tw_145) (fun _ h9 => h9) rfl d_K_finishPair_25 ?_
    refine lv_iconst (v := 1) hx hb d_K_finishPair_28 (by decide) ?_
    refine lv_isub hx hb d_K_finishPair_29 ?_
    refine lv_topi (fun x2_3 ex2_3 => ?_)
    have hw := hw x2_3 ex2_3
    refine lv_istore_n (lv' := [(2, .int x2_3), (0, .ref (ad 5)), (1, .int p0)]) hx hb d_K_finishPair_30 rfl hl (by decide) rfl (fun ls hl => ?_)
    refine lv_iload_n hx hb d_K_finishPair_31 rfl (lv_at hl 2 rfl) ?_
    refine lv_sipush (v := 15420) hx hb d_K_finishPair_32 (by decide) ?_
    obtain ⟨hwt, hwf⟩ := hw
    refine lv_icmp_eq (tgt := 45) hx hb d_K_finishPair_35 (by decide) (fun c_4 => ?_) (fun c_4 => ?_)
    · have hw := hwt c_4
      refine lv_iconst (v := 1) hx hb d_K_finishPair_45 (by decide) ?_
      refine lv_goto (tgt := 50) hx hb d_K_finishPair_46 (by decide) ?_
      exact L_50 p0 x2_3 1 wait held_2 nest skp fmd dvd amts plns _ _ _ hw hP hD hS (lv_sub hl [1, 2, 0] rfl)
    · have hw := hwf c_4
      refine lv_iload_n hx hb d_K_finishPair_38 rfl (lv_at hl 2 rfl) ?_
      refine lv_sipush (v := 15934) hx hb d_K_finishPair_39 (by decide) ?_
      obtain ⟨hwt, hwf⟩ := hw
      refine lv_icmp_ne (tgt := 49) hx hb d_K_finishPair_42 (by decide) (fun c_35 => ?_) (fun c_35 => ?_)
      · have hw := hwf c_35
        refine lv_iconst (v := 0) hx hb d_K_finishPair_49 (by decide) ?_
        exact L_50 p0 x2_3 0 wait held_2 nest skp fmd dvd amts plns _ _ _ hw hP hD hS (lv_sub hl [1, 2, 0] rfl)
      · have hw := hwt c_35
        refine lv_iconst (v := 1) hx hb d_K_finishPair_45 (by decide) ?_
        refine lv_goto (tgt := 50) hx hb d_K_finishPair_46 (by decide) ?_
        exact L_50 p0 x2_3 1 wait held_2 nest skp fmd dvd amts plns _ _ _ hw hP hD hS (lv_sub hl [1, 2, 0] rfl)
  · have hw := hwf c_1
    refine lv_aload_n hx hb d_K_finishPair_8 rfl (lv_at hl 0 rfl) ?_
    refine lv_iconst (v := 0) hx hb d_K_finishPair_9 (by decide) ?_
    refine va_put (D := (dC, dI)) (ci := 1) (v := .int 0) (ty := .boolean) (C := R_K) (T := T_K) (N := 13) hx hb hts in_K ty_K ty_K_ok nm_K hown hK hP hD hS 0 rfl rfl 11 (by decide) (hts _ tw_144) (fun _ h9 => h9) rfl (by decide +kernel) (by decide) (by decide) (Nat.le_of_ble_eq_true rfl) d_K_finishPair_10 (fun H locs hP hD hS => ?_)
    have hP : va_P (dC, dI) vwCl (wd_K_finishPair ad ck wait held nest skp 0 dvd amts plns) H := hP
    have hD : va_D A (wd_K_finishPair ad ck wait held nest skp 0 dvd amts plns) := hD
    exact W.vret hx hb hr (fun t ht hW => ⟨⟨(held, 0, dvd, amts, plns), rfl, hw, by rw [ht]; exact hP, va_K.moved hW.alike hK, hD⟩, hS.F ht⟩) hS.2.2 d_K_finishPair_13

abbrev wd_K_finishDownTo (ad : Nat → Nat) (ck : Nat → ClassId) (wait : Int32) (held : Int32) (nest : Int32) (skp : Int32) (fmd : Int32) (dvd : Int32) (signs : Nat → Int32) (strs : Nat → Int32) (skips : Nat → Int32) (amts : Nat → Int64) (plns : Nat → Int32) : va_W := [(ad 5, .inr (1, [.ref (ad 3), .ref (ad 4), .ref (ad 6), .ref (ad 7), .ref (ad 8), .ref (ad 9), .ref (ad 10), .int wait, .int held, .int nest, .int skp, .int fmd, .int dvd])), (ad 6, .inl (ck 1, 670, .inl signs)), (ad 7, .inl (ck 2, 670, .inl strs)), (ad 8, .inl (ck 3, 670, .inl skips)), (ad 9, .inl (ck 4, 671, .inr (.inl amts))), (ad 10, .inl (ck 5, 671, .inl plns))]
def w_K_finishDownTo_5 (post : Int32 → Int32 → Int32 → Int32 → Int32 → Int32 → (Nat → Int64) → (Nat → Int32) → Prop) (x1 : Int32) (signs : Nat → Int32) (strs : Nat → Int32) (skips : Nat → Int32) : Nat → Int32 → Int32 → Int32 → Int32 → Int32 → Int32 → Int32 → (Nat → Int64) → (Nat → Int32) → Prop
  | 0 => fun _ _ _ _ _ _ _ _ _ => False
  | n + 1 => fun x2 wait held nest skp fmd dvd amts plns => (x2 ≤ 0 → (post wait held nest skp fmd dvd amts plns)) ∧ (¬ x2 ≤ 0 → (vp_in (x2 - 1) 670 ∧ (((strs (x2 - 1).toNatClampNeg) < x1 → (post wait held nest skp fmd dvd amts plns)) ∧ (¬ (strs (x2 - 1).toNatClampNeg) < x1 → (vp_in (x2 - 1) 670 ∧ (∀ x3_5 : Int32, x3_5 = (signs (x2 - 1).toNatClampNeg) → (vp_in (x2 - 1) 670 ∧ (((strs (x2 - 1).toNatClampNeg) = 11 → (wp_K_finishFront (fun (nest_27 : Int32) (fmd_28 : Int32) (amts_29 : Nat → Int64) (plns_30 : Nat → Int32) => wp_K_endWait (fun (wait_31 : Int32) (skp_32 : Int32) => ∀ x2_33 : Int32, x2_33 = x2 + (-1) → (w_K_finishDownTo_5 post x1 signs strs skips n x2_33 wait_31 held nest_27 skp_32 fmd_28 dvd amts_29 plns_30)) wait held nest_27 skp fmd_28 dvd skips) wait held nest skp fmd dvd amts plns x3_5)) ∧ (¬ (strs (x2 - 1).toNatClampNeg) = 11 → (vp_in (x2 - 1) 670 ∧ (((strs (x2 - 1).toNatClampNeg) = 0 → (vp_in (x2 - 1) 670 ∧ (wp_K_finishChoice (fun (held_19 : Int32) (nest_20 : Int32) (fmd_21 : Int32) (amts_22 : Nat → Int64) (plns_23 : Nat → Int32) => wp_K_endWait (fun (wait_24 : Int32) (skp_25 : Int32) => ∀ x2_26 : Int32, x2_26 = x2 + (-1) → (w_K_finishDownTo_5 post x1 signs strs skips n x2_26 wait_24 held_19 nest_20 skp_25 fmd_21 dvd amts_22 plns_23)) wait held_19 nest_20 skp fmd_21 dvd skips) wait held nest skp fmd dvd amts plns (skips (x2 - 1).toNatClampNeg)))) ∧ (¬ (strs (x2 - 1).toNatClampNeg) = 0 → (wp_K_finishPair (fun (held_10 : Int32) (fmd_11 : Int32) (dvd_12 : Int32) (amts_13 : Nat → Int64) (plns_14 : Nat → Int32) => wp_K_endWait (fun (wait_15 : Int32) (skp_16 : Int32) => ∀ x2_17 : Int32, x2_17 = x2 + (-1) → (w_K_finishDownTo_5 post x1 signs strs skips n x2_17 wait_15 held_10 nest skp_16 fmd_11 dvd_12 amts_13 plns_14)) wait held_10 nest skp fmd_11 dvd_12 skips) wait held nest skp fmd dvd amts plns x3_5)))))))))))))
def wp_K_finishDownTo (post : Int32 → Int32 → Int32 → Int32 → Int32 → Int32 → (Nat → Int64) → (Nat → Int32) → Prop) (wait : Int32) (held : Int32) (nest : Int32) (skp : Int32) (fmd : Int32) (dvd : Int32) (signs : Nat → Int32) (strs : Nat → Int32) (skips : Nat → Int32) (amts : Nat → Int64) (plns : Nat → Int32) (p0 : Int32) : Prop := ∃ fu5 : Nat, w_K_finishDownTo_5 post p0 signs strs skips fu5 wait wait held nest skp fmd dvd amts plns
set_option maxHeartbeats 4000000 in
set_option maxRecDepth 100000 in
theorem kc_K_finishDownTo (l : Launch) (dC : Nat → ClassId) (dI : Nat → Nat → Nat) (ad : Nat → Nat) (ck : Nat → ClassId) (wait : Int32) (held : Int32) (nest : Int32) (skp : Int32) (fmd : Int32) (dvd : Int32) (signs : Nat → Int32) (strs : Nat → Int32) (skips : Nat → Int32) (amts : Nat → Int64) (plns : Nat → Int32) (p0 : Int32) {post : Int32 → Int32 → Int32 → Int32 → Int32 → Int32 → (Nat → Int64) → (Nat → Int32) → Prop} (hw : wp_K_finishDownTo post wait held nest skp fmd dvd signs strs skips amts plns p0) : k_Cv l y_K_finishDownTo ws_K_finishDownTo ({ frames := 3, cells := 0, slots := 0, locals := 77 } : Room) (dC, dI) vwCl (TYm ck) k_x0 [.ref (ad 5), .int p0] (wd_K_finishDownTo ad ck wait held nest skp fmd dvd signs strs skips amts plns) (fun (u : Int32 × Int32 × Int32 × Int32 × Int32 × Int32 × (Nat → Int64) × (Nat → Int32)) => post u.1 u.2.1 u.2.2.1 u.2.2.2.1 u.2.2.2.2.1 u.2.2.2.2.2.1 u.2.2.2.2.2.2.1 u.2.2.2.2.2.2.2) (fun (u : Int32 × Int32 × Int32 × Int32 × Int32 × Int32 × (Nat → Int64) × (Nat → Int32)) => wd_K_finishDownTo ad ck u.1 u.2.1 u.2.2.1 u.2.2.2.1 u.2.2.2.2.1 u.2.2.2.2.2.1 signs strs skips u.2.2.2.2.2.2.1 u.2.2.2.2.2.2.2) := by
  intro sz
  refine Met.ofW (cc := c_K_finishDownTo) (maxL := 4) (ret := none) (by decide) rfl ?_
  intro p e s m args below meth c s₁ B hml hv
  obtain ⟨rfl, hsz, hP, hK, hD0, hX⟩ := hv
  have hx := B.exec
  have hb := B.bytes
  have hr := B.returns
  have hts : ∀ w ∈ TB, w.before _ s = true := fun w h => atoms_spec (ws := ws_K_finishDownTo) B.pre w (List.mem_cons_of_mem _ h)
  have hown : s.vm.findClass R_K = some m.cls := findClass_of_methodNamed B.named
  have hlocks := B.notSynchronized
  subst hsz
  have hD := hD0.self (sz := s.heap.size)
  generalize hAe : va_A (wd_K_finishDownTo ad ck wait held nest skp fmd dvd signs strs skips amts plns) s.heap.size = A at hD hX ⊢
  have hA : ∀ q : Nat, s.heap.size ≤ q → A q := fun q h => by rw [← hAe]; exact Or.inr h
  have hS : va_S A s.heap s.heap [] := va_S.rf
  have hP : va_P (dC, dI) vwCl (wd_K_finishDownTo ad ck wait held nest skp fmd dvd signs strs skips amts plns) s.heap := hP
  have hl := lv_entry ([.ref (ad 5), .int p0]) (n := 4) (Nat.le_of_ble_eq_true rfl)
  rw [lg_entry_eq]
  generalize (lg_sl ([.ref (ad 5), .int p0]) ++ List.replicate (4 - (lg_sl ([.ref (ad 5), .int p0])).length) Slot.unset).toArray = ls at hl ⊢
  have hl : lv_has ls 4 [(0, .ref (ad 5)), (1, .int p0)] := hl
  have L_5 : ∀ (x1 : Int32) (signs : Nat → Int32) (strs : Nat → Int32) (skips : Nat → Int32) (n : Nat) (x2 : Int32) (wait : Int32) (held : Int32) (nest : Int32) (skp : Int32) (fmd : Int32) (dvd : Int32) (amts : Nat → Int64) (plns : Nat → Int32) (H : Heap) (locs : List Loc) (ls : Array Slot), w_K_finishDownTo_5 post x1 signs strs skips n x2 wait held nest skp fmd dvd amts plns → va_P (dC, dI) vwCl (wd_K_finishDownTo ad ck wait held nest skp fmd dvd signs strs skips amts plns) H → va_D A (wd_K_finishDownTo ad ck wait held nest skp fmd dvd signs strs skips amts plns) → va_S A s.heap H locs → lv_has ls 4 [(0, .ref (ad 5)), (1, .int x1), (2, .int x2)] → W p l e (headSpec ws_K_finishDownTo ({ frames := 3, cells := 0, slots := 0, locals := 77 } : Room)).room s m ([.ref (ad 5), .int p0] : List Value).toArray below meth c H locs 0 0 (k_Qv below (dC, dI) vwCl (TYm ck) A (fun (u : Int32 × Int32 × Int32 × Int32 × Int32 × Int32 × (Nat → Int64) × (Nat → Int32)) => post u.1 u.2.1 u.2.2.1 u.2.2.2.1 u.2.2.2.2.1 u.2.2.2.2.2.1 u.2.2.2.2.2.2.1 u.2.2.2.2.2.2.2) (fun (u : Int32 × Int32 × Int32 × Int32 × Int32 × Int32 × (Nat → Int64) × (Nat → Int32)) => wd_K_finishDownTo ad ck u.1 u.2.1 u.2.2.1 u.2.2.2.1 u.2.2.2.2.1 u.2.2.2.2.2.1 signs strs skips u.2.2.2.2.2.2.1 u.2.2.2.2.2.2.2) ([.ref (ad 5), .int p0] : List Value).toArray s) (F0 m 5 ls []) := by
    intro x1 signs strs skips n
    induction n with
    | zero =>
      intro x2 wait held nest skp fmd dvd amts plns H locs ls hw
      exact False.elim hw
    | succ n ih =>
      intro x2 wait held nest skp fmd dvd amts plns H locs ls hw hP hD hS hl
      refine lv_iload_n hx hb d_K_finishDownTo_5 rfl (lv_at hl 2 rfl) ?_
      obtain ⟨hwt, hwf⟩ := hw
      refine lv_if_le (tgt := 92) hx hb d_K_finishDownTo_6 (by decide) (fun c_1 => ?_) (fun c_1 => ?_)
      · have hw := hwt c_1
        exact W.vret hx hb hr (fun t ht hW => ⟨⟨(wait, held, nest, skp, fmd, dvd, amts, plns), rfl, hw, by rw [ht]; exact hP, va_K.moved hW.alike hK, hD⟩, hS.F ht⟩) hS.2.2 d_K_finishDownTo_92
      · have hw := hwf c_1
        refine lv_aload_n hx hb d_K_finishDownTo_9 rfl (lv_at hl 0 rfl) ?_
        refine va_get (D := (dC, dI)) (ci := 1) (v := .ref (ad 7)) (C := R_K) (T := T_K) (N := 13) hx hb hts in_K hown hK hP 0 rfl rfl 3 (by decide) (hts _ tw_150) (fun _ h9 => h9) rfl d_K_finishDownTo_10 ?_
        refine lv_iload_n hx hb d_K_finishDownTo_13 rfl (lv_at hl 2 rfl) ?_
        refine lv_iconst (v := 1) hx hb d_K_finishDownTo_14 (by decide) ?_
        refine lv_isub hx hb d_K_finishDownTo_15 ?_
        obtain ⟨hi_2, hw⟩ := hw
        refine va_iald hx hb hK hP 2 2 rfl rfl hi_2 d_K_finishDownTo_16 ?_
        refine lv_iload_n hx hb d_K_finishDownTo_17 rfl (lv_at hl 1 rfl) ?_
        obtain ⟨hwt, hwf⟩ := hw
        refine lv_icmp_lt (tgt := 92) hx hb d_K_finishDownTo_18 (by decide) (fun c_3 => ?_) (fun c_3 => ?_)
        · have hw := hwt c_3
          exact W.vret hx hb hr (fun t ht hW => ⟨⟨(wait, held, nest, skp, fmd, dvd, amts, plns), rfl, hw, by rw [ht]; exact hP, va_K.moved hW.alike hK, hD⟩, hS.F ht⟩) hS.2.2 d_K_finishDownTo_92
        · have hw := hwf c_3
          refine lv_aload_n hx hb d_K_finishDownTo_21 rfl (lv_at hl 0 rfl) ?_
          refine va_get (D := (dC, dI)) (ci := 1) (v := .ref (ad 6)) (C := R_K) (T := T_K) (N := 13) hx hb hts in_K hown hK hP 0 rfl rfl 2 (by decide) (hts _ tw_149) (fun _ h9 => h9) rfl d_K_finishDownTo_22 ?_
          refine lv_iload_n hx hb d_K_finishDownTo_25 rfl (lv_at hl 2 rfl) ?_
          refine lv_iconst (v := 1) hx hb d_K_finishDownTo_26 (by decide) ?_
          refine lv_isub hx hb d_K_finishDownTo_27 ?_
          obtain ⟨hi_4, hw⟩ := hw
          refine va_iald hx hb hK hP 1 1 rfl rfl hi_4 d_K_finishDownTo_28 ?_
          refine lv_topi (fun x3_5 ex3_5 => ?_)
          have hw := hw x3_5 ex3_5
          refine lv_istore_n (lv' := [(3, .int x3_5), (0, .ref (ad 5)), (1, .int x1), (2, .int x2)]) hx hb d_K_finishDownTo_29 rfl hl (by decide) rfl (fun ls hl => ?_)
          refine lv_aload_n hx hb d_K_finishDownTo_30 rfl (lv_at hl 1 rfl) ?_
          refine va_get (D := (dC, dI)) (ci := 1) (v := .ref (ad 7)) (C := R_K) (T := T_K) (N := 13) hx hb hts in_K hown hK hP 0 rfl rfl 3 (by decide) (hts _ tw_150) (fun _ h9 => h9) rfl d_K_finishDownTo_31 ?_
          refine lv_iload_n hx hb d_K_finishDownTo_34 rfl (lv_at hl 3 rfl) ?_
          refine lv_iconst (v := 1) hx hb d_K_finishDownTo_35 (by decide) ?_
          refine lv_isub hx hb d_K_finishDownTo_36 ?_
          obtain ⟨hi_6, hw⟩ := hw
          refine va_iald hx hb hK hP 2 2 rfl rfl hi_6 d_K_finishDownTo_37 ?_
          refine lv_bipush (v := 11) hx hb d_K_finishDownTo_38 (by decide) ?_
          obtain ⟨hwt, hwf⟩ := hw
          refine lv_icmp_ne (tgt := 51) hx hb d_K_finishDownTo_40 (by decide) (fun c_7 => ?_) (fun c_7 => ?_)
          · have hw := hwf c_7
            refine lv_aload_n hx hb d_K_finishDownTo_51 rfl (lv_at hl 1 rfl) ?_
            refine va_get (D := (dC, dI)) (ci := 1) (v := .ref (ad 7)) (C := R_K) (T := T_K) (N := 13) hx hb hts in_K hown hK hP 0 rfl rfl 3 (by decide) (hts _ tw_150) (fun _ h9 => h9) rfl d_K_finishDownTo_52 ?_
            refine lv_iload_n hx hb d_K_finishDownTo_55 rfl (lv_at hl 3 rfl) ?_
            refine lv_iconst (v := 1) hx hb d_K_finishDownTo_56 (by decide) ?_
            refine lv_isub hx hb d_K_finishDownTo_57 ?_
            obtain ⟨hi_8, hw⟩ := hw
            refine va_iald hx hb hK hP 2 2 rfl rfl hi_8 d_K_finishDownTo_58 ?_
            obtain ⟨hwt, hwf⟩ := hw
            refine lv_if_ne (tgt := 77) hx hb d_K_finishDownTo_59 (by decide) (fun c_9 => ?_) (fun c_9 => ?_)
            · have hw := hwf c_9
              refine lv_aload_n hx hb d_K_finishDownTo_77 rfl (lv_at hl 1 rfl) ?_
              refine lv_iload_n hx hb d_K_finishDownTo_78 rfl (lv_at hl 0 rfl) ?_
              refine k_callVv (As := [.int x3_5]) (rest := []) (fun (u : Int32 × Int32 × Int32 × (Nat → Int64) × (Nat → Int32)) => wd_K_finishDownTo ad ck wait u.1 nest skp u.2.1 u.2.2.1 signs strs skips u.2.2.2.1 u.2.2.2.2) ⟨hx, hb, hml, hown, hts⟩ (kc_K_finishPair l dC dI ad ck wait held nest skp fmd dvd amts plns x3_5 (hw := hw)) (cwV 1 hts (gV tw_183 tw_185 tw_186 tw_161 tw_184) rfl rfl rfl hd_K_finishPair ⟨Nat.le_of_ble_eq_true rfl, Nat.le_of_ble_eq_true rfl⟩) hK hP hD hS hA k_x0c trivial [0, 4, 5] [1, 2, 3] [3, 0, 1, 2, 4, 5] rfl rfl (by decide) (by decide) (fun _ => rfl) (va_recv hK hP (ci := 1) (q0 := 0) rfl rfl) rfl hl.1 rfl (lv_room (Nat.le_of_ble_eq_true rfl)) d_K_finishDownTo_79 ⟨Nat.zero_le _, Nat.zero_le _⟩ ?_
              intro u H locs hw hP hD hS
              obtain ⟨held_10, fmd_11, dvd_12, amts_13, plns_14⟩ := u
              have hP : va_P (dC, dI) vwCl (wd_K_finishDownTo ad ck wait held_10 nest skp fmd_11 dvd_12 signs strs skips amts_13 plns_14) H := hP
              have hD : va_D A (wd_K_finishDownTo ad ck wait held_10 nest skp fmd_11 dvd_12 signs strs skips amts_13 plns_14) := hD
              try dsimp only at hw
              refine lv_aload_n hx hb d_K_finishDownTo_82 rfl (lv_at hl 1 rfl) ?_
              refine k_callVv (As := []) (rest := []) (fun (u : Int32 × Int32) => wd_K_finishDownTo ad ck u.1 held_10 nest u.2 fmd_11 dvd_12 signs strs skips amts_13 plns_14) ⟨hx, hb, hml, hown, hts⟩ (kc_K_endWait l dC dI ad ck wait held_10 nest skp fmd_11 dvd_12 skips (hw := hw)) (cwV 0 hts (gV tw_172 tw_174 tw_175 tw_161 tw_173) rfl rfl rfl hd_K_endWait ⟨Nat.le_of_ble_eq_true rfl, Nat.le_of_ble_eq_true rfl⟩) hK hP hD hS hA k_x0c trivial [0, 3] [1, 2, 4, 5] [4, 0, 1, 5, 2, 3] rfl rfl (by decide) (by decide) (fun _ => rfl) (va_recv hK hP (ci := 1) (q0 := 0) rfl rfl) rfl hl.1 rfl (lv_room (Nat.le_of_ble_eq_true rfl)) d_K_finishDownTo_83 ⟨Nat.zero_le _, Nat.zero_le _⟩ ?_
              intro u H locs hw hP hD hS
              obtain ⟨wait_15, skp_16⟩ := u
              have hP : va_P (dC, dI) vwCl (wd_K_finishDownTo ad ck wait_15 held_10 nest skp_16 fmd_11 dvd_12 signs strs skips amts_13 plns_14) H := hP
              have hD : va_D A (wd_K_finishDownTo ad ck wait_15 held_10 nest skp_16 fmd_11 dvd_12 signs strs skips amts_13 plns_14) := hD
              try dsimp only at hw
              obtain ⟨x2_17, ex2_17⟩ : ∃ y : Int32, y = x2 + (-1) := ⟨_, rfl⟩
              have hw := hw x2_17 ex2_17
              refine lv_iinc (v := x2_17) (lv' := [(2, .int x2_17), (3, .int x3_5), (0, .ref (ad 5)), (1, .int x1)]) hx hb d_K_finishDownTo_86 hl (k := 3) rfl (by rw [ex2_17]; rfl) (by decide) rfl (fun ls hl => ?_)
              refine lv_goto (tgt := 5) hx hb d_K_finishDownTo_89 (by decide) ?_
              exact ih x2_17 wait_15 held_10 nest skp_16 fmd_11 dvd_12 amts_13 plns_14 _ _ _ hw hP hD hS (lv_sub hl [2, 3, 0] rfl)
            · have hw := hwt c_9
              refine lv_aload_n hx hb d_K_finishDownTo_62 rfl (lv_at hl 1 rfl) ?_
              refine lv_aload_n hx hb d_K_finishDownTo_63 rfl (lv_at hl 1 rfl) ?_
              refine va_get (D := (dC, dI)) (ci := 1) (v := .ref (ad 8)) (C := R_K) (T := T_K) (N := 13) hx hb hts in_K hown hK hP 0 rfl rfl 4 (by decide) (hts _ tw_151) (fun _ h9 => h9) rfl d_K_finishDownTo_64 ?_
              refine lv_iload_n hx hb d_K_finishDownTo_67 rfl (lv_at hl 3 rfl) ?_
              refine lv_iconst (v := 1) hx hb d_K_finishDownTo_68 (by decide) ?_
              refine lv_isub hx hb d_K_finishDownTo_69 ?_
              obtain ⟨hi_18, hw⟩ := hw
              refine va_zald hx hb hK hP 3 3 rfl rfl hi_18 d_K_finishDownTo_70 ?_
              refine k_callVv (As := [.int (skips (x2 - 1).toNatClampNeg)]) (rest := []) (fun (u : Int32 × Int32 × Int32 × (Nat → Int64) × (Nat → Int32)) => wd_K_finishDownTo ad ck wait u.1 u.2.1 skp u.2.2.1 dvd signs strs skips u.2.2.2.1 u.2.2.2.2) ⟨hx, hb, hml, hown, hts⟩ (kc_K_finishChoice l dC dI ad ck wait held nest skp fmd dvd amts plns (skips (x2 - 1).toNatClampNeg) (hw := hw)) (cwV 1 hts (gV tw_187 tw_189 tw_190 tw_161 tw_188) rfl rfl rfl hd_K_finishChoice ⟨Nat.le_of_ble_eq_true rfl, Nat.le_of_ble_eq_true rfl⟩) hK hP hD hS hA k_x0c trivial [0, 4, 5] [1, 2, 3] [3, 0, 1, 2, 4, 5] rfl rfl (by decide) (by decide) (fun _ => rfl) (va_recv hK hP (ci := 1) (q0 := 0) rfl rfl) rfl hl.1 rfl (lv_room (Nat.le_of_ble_eq_true rfl)) d_K_finishDownTo_71 ⟨Nat.zero_le _, Nat.zero_le _⟩ ?_
              intro u H locs hw hP hD hS
              obtain ⟨held_19, nest_20, fmd_21, amts_22, plns_23⟩ := u
              have hP : va_P (dC, dI) vwCl (wd_K_finishDownTo ad ck wait held_19 nest_20 skp fmd_21 dvd signs strs skips amts_22 plns_23) H := hP
              have hD : va_D A (wd_K_finishDownTo ad ck wait held_19 nest_20 skp fmd_21 dvd signs strs skips amts_22 plns_23) := hD
              try dsimp only at hw
              refine lv_goto (tgt := 82) hx hb d_K_finishDownTo_74 (by decide) ?_
              refine lv_aload_n hx hb d_K_finishDownTo_82 rfl (lv_at hl 1 rfl) ?_
              refine k_callVv (As := []) (rest := []) (fun (u : Int32 × Int32) => wd_K_finishDownTo ad ck u.1 held_19 nest_20 u.2 fmd_21 dvd signs strs skips amts_22 plns_23) ⟨hx, hb, hml, hown, hts⟩ (kc_K_endWait l dC dI ad ck wait held_19 nest_20 skp fmd_21 dvd skips (hw := hw)) (cwV 0 hts (gV tw_172 tw_174 tw_175 tw_161 tw_173) rfl rfl rfl hd_K_endWait ⟨Nat.le_of_ble_eq_true rfl, Nat.le_of_ble_eq_true rfl⟩) hK hP hD hS hA k_x0c trivial [0, 3] [1, 2, 4, 5] [4, 0, 1, 5, 2, 3] rfl rfl (by decide) (by decide) (fun _ => rfl) (va_recv hK hP (ci := 1) (q0 := 0) rfl rfl) rfl hl.1 rfl (lv_room (Nat.le_of_ble_eq_true rfl)) d_K_finishDownTo_83 ⟨Nat.zero_le _, Nat.zero_le _⟩ ?_
              intro u H locs hw hP hD hS
              obtain ⟨wait_24, skp_25⟩ := u
              have hP : va_P (dC, dI) vwCl (wd_K_finishDownTo ad ck wait_24 held_19 nest_20 skp_25 fmd_21 dvd signs strs skips amts_22 plns_23) H := hP
              have hD : va_D A (wd_K_finishDownTo ad ck wait_24 held_19 nest_20 skp_25 fmd_21 dvd signs strs skips amts_22 plns_23) := hD
              try dsimp only at hw
              obtain ⟨x2_26, ex2_26⟩ : ∃ y : Int32, y = x2 + (-1) := ⟨_, rfl⟩
              have hw := hw x2_26 ex2_26
              refine lv_iinc (v := x2_26) (lv' := [(2, .int x2_26), (3, .int x3_5), (0, .ref (ad 5)), (1, .int x1)]) hx hb d_K_finishDownTo_86 hl (k := 3) rfl (by rw [ex2_26]; rfl) (by decide) rfl (fun ls hl => ?_)
              refine lv_goto (tgt := 5) hx hb d_K_finishDownTo_89 (by decide) ?_
              exact ih x2_26 wait_24 held_19 nest_20 skp_25 fmd_21 dvd amts_22 plns_23 _ _ _ hw hP hD hS (lv_sub hl [2, 3, 0] rfl)
          · have hw := hwt c_7
            refine lv_aload_n hx hb d_K_finishDownTo_43 rfl (lv_at hl 1 rfl) ?_
            refine lv_iload_n hx hb d_K_finishDownTo_44 rfl (lv_at hl 0 rfl) ?_
            refine k_callVv (As := [.int x3_5]) (rest := []) (fun (u : Int32 × Int32 × (Nat → Int64) × (Nat → Int32)) => wd_K_finishDownTo ad ck wait held u.1 skp u.2.1 dvd signs strs skips u.2.2.1 u.2.2.2) ⟨hx, hb, hml, hown, hts⟩ (kc_K_finishFront l dC dI ad ck wait held nest skp fmd dvd amts plns x3_5 (hw := hw)) (cwV 1 hts (gV tw_191 tw_193 tw_194 tw_161 tw_192) rfl rfl rfl hd_K_finishFront ⟨Nat.le_of_ble_eq_true rfl, Nat.le_of_ble_eq_true rfl⟩) hK hP hD hS hA k_x0c trivial [0, 4, 5] [1, 2, 3] [3, 0, 1, 2, 4, 5] rfl rfl (by decide) (by decide) (fun _ => rfl) (va_recv hK hP (ci := 1) (q0 := 0) rfl rfl) rfl hl.1 rfl (lv_room (Nat.le_of_ble_eq_true rfl)) d_K_finishDownTo_45 ⟨Nat.zero_le _, Nat.zero_le _⟩ ?_
            intro u H locs hw hP hD hS
            obtain ⟨nest_27, fmd_28, amts_29, plns_30⟩ := u
            have hP : va_P (dC, dI) vwCl (wd_K_finishDownTo ad ck wait held nest_27 skp fmd_28 dvd signs strs skips amts_29 plns_30) H := hP
            have hD : va_D A (wd_K_finishDownTo ad ck wait held nest_27 skp fmd_28 dvd signs strs skips amts_29 plns_30) := hD
            try dsimp only at hw
            refine lv_goto (tgt := 82) hx hb d_K_finishDownTo_48 (by decide) ?_
            refine lv_aload_n hx hb d_K_finishDownTo_82 rfl (lv_at hl 1 rfl) ?_
            refine k_callVv (As := []) (rest := []) (fun (u : Int32 × Int32) => wd_K_finishDownTo ad ck u.1 held nest_27 u.2 fmd_28 dvd signs strs skips amts_29 plns_30) ⟨hx, hb, hml, hown, hts⟩ (kc_K_endWait l dC dI ad ck wait held nest_27 skp fmd_28 dvd skips (hw := hw)) (cwV 0 hts (gV tw_172 tw_174 tw_175 tw_161 tw_173) rfl rfl rfl hd_K_endWait ⟨Nat.le_of_ble_eq_true rfl, Nat.le_of_ble_eq_true rfl⟩) hK hP hD hS hA k_x0c trivial [0, 3] [1, 2, 4, 5] [4, 0, 1, 5, 2, 3] rfl rfl (by decide) (by decide) (fun _ => rfl) (va_recv hK hP (ci := 1) (q0 := 0) rfl rfl) rfl hl.1 rfl (lv_room (Nat.le_of_ble_eq_true rfl)) d_K_finishDownTo_83 ⟨Nat.zero_le _, Nat.zero_le _⟩ ?_
            intro u H locs hw hP hD hS
            obtain ⟨wait_31, skp_32⟩ := u
            have hP : va_P (dC, dI) vwCl (wd_K_finishDownTo ad ck wait_31 held nest_27 skp_32 fmd_28 dvd signs strs skips amts_29 plns_30) H := hP
            have hD : va_D A (wd_K_finishDownTo ad ck wait_31 held nest_27 skp_32 fmd_28 dvd signs strs skips amts_29 plns_30) := hD
            try dsimp only at hw
            obtain ⟨x2_33, ex2_33⟩ : ∃ y : Int32, y = x2 + (-1) := ⟨_, rfl⟩
            have hw := hw x2_33 ex2_33
            refine lv_iinc (v := x2_33) (lv' := [(2, .int x2_33), (3, .int x3_5), (0, .ref (ad 5)), (1, .int x1)]) hx hb d_K_finishDownTo_86 hl (k := 3) rfl (by rw [ex2_33]; rfl) (by decide) rfl (fun ls hl => ?_)
            refine lv_goto (tgt := 5) hx hb d_K_finishDownTo_89 (by decide) ?_
            exact ih x2_33 wait_31 held nest_27 skp_32 fmd_28 dvd amts_29 plns_30 _ _ _ hw hP hD hS (lv_sub hl [2, 3, 0] rfl)
  refine lv_aload_n hx hb d_K_finishDownTo_0 rfl (lv_at hl 0 rfl) ?_
  refine va_get (D := (dC, dI)) (ci := 1) (v := .int wait) (C := R_K) (T := T_K) (N := 13) hx hb hts in_K hown hK hP 0 rfl rfl 7 (by decide) (hts _ tw_148) (fun _ h9 => h9) rfl d_K_finishDownTo_1 ?_
  refine lv_istore_n (lv' := [(2, .int wait), (0, .ref (ad 5)), (1, .int p0)]) hx hb d_K_finishDownTo_4 rfl hl (by decide) rfl (fun ls hl => ?_)
  obtain ⟨fu5, hw⟩ := hw
  exact L_5 p0 signs strs skips fu5 wait wait held nest skp fmd dvd amts plns _ _ _ hw hP hD hS (lv_sub hl [1, 2, 0] rfl)
