abbrev wd_K_takeOperand (ad : Nat → Nat) (ck : Nat → ClassId) (wait : Int32) (held : Int32) (nest : Int32) (skp : Int32) (fmd : Int32) (dvd : Int32) (size : Int32) (row : Nat → Int32) (start : Int32) (fin : Int32) (kind : Int32) (oT : Int32) (oC : Int32) (amt : Int64) (pln : Int32) (signs : Nat → Int32) (strs : Nat → Int32) (skips : Nat → Int32) (amts : Nat → Int64) (plns : Nat → Int32) : va_W := [(ad 5, .inr (1, [.ref (ad 3), .ref (ad 4), .ref (ad 6), .ref (ad 7), .ref (ad 8), .ref (ad 9), .ref (ad 10), .int wait, .int held, .int nest, .int skp, .int fmd, .int dvd])), (ad 1, .inr (2, [.ref (ad 2), .int size])), (ad 2, .inl (ck 0, 4096, .inl row)), (ad 3, .inr (3, [.ref (ad 1), .int start, .int fin, .int kind, .int oT, .int oC])), (ad 4, .inr (0, [.ref (ad 1), .long amt, .int pln])), (ad 6, .inl (ck 1, 670, .inl signs)), (ad 7, .inl (ck 2, 670, .inl strs)), (ad 8, .inl (ck 3, 670, .inl skips)), (ad 9, .inl (ck 4, 671, .inr (.inl amts))), (ad 10, .inl (ck 5, 671, .inl plns))]
def wp_K_takeOperand (post : Int32 → Int64 → Int32 → Int32 → Int32 → Int32 → Int32 → Int32 → (Nat → Int32) → (Nat → Int32) → (Nat → Int32) → (Nat → Int64) → (Nat → Int32) → Prop) (wait : Int32) (held : Int32) (nest : Int32) (skp : Int32) (fmd : Int32) (dvd : Int32) (size : Int32) (row : Nat → Int32) (start : Int32) (fin : Int32) (kind : Int32) (oT : Int32) (oC : Int32) (amt : Int64) (pln : Int32) (signs : Nat → Int32) (strs : Nat → Int32) (skips : Nat → Int32) (amts : Nat → Int64) (plns : Nat → Int32)  : Prop := (kind = 5 → (wp_W_signCode (fun (r_10 : Int32) => wp_K_openNest (fun (wait_11 : Int32) (nest_12 : Int32) (skp_13 : Int32) (fmd_14 : Int32) (signs_15 : Nat → Int32) (strs_16 : Nat → Int32) (skips_17 : Nat → Int32) => post 1 amt pln wait_11 held nest_12 skp_13 fmd_14 signs_15 strs_16 skips_17 amts plns) wait held nest skp fmd dvd signs strs skips r_10) start fin kind oT oC size row)) ∧ (¬ kind = 5 → (wp_L_read (fun (r_2 : Int32) (amt_3 : Int64) (pln_4 : Int32) => (r_2 = 0 → (post 1 amt_3 pln_4 wait held nest skp 0 signs strs skips amts plns)) ∧ (¬ r_2 = 0 → (wp_K_hold (fun (held_6 : Int32) (fmd_7 : Int32) (amts_8 : Nat → Int64) (plns_9 : Nat → Int32) => post 0 amt_3 pln_4 wait held_6 nest skp fmd_7 signs strs skips amts_8 plns_9) wait held nest skp fmd dvd amts plns amt_3 pln_4))) amt pln size row kind start fin))
set_option maxHeartbeats 4000000 in
set_option maxRecDepth 100000 in
theorem kc_K_takeOperand (l : Launch) (dC : Nat → ClassId) (dI : Nat → Nat → Nat) (ad : Nat → Nat) (ck : Nat → ClassId) (sk : Nat → Nat) (wait : Int32) (held : Int32) (nest : Int32) (skp : Int32) (fmd : Int32) (dvd : Int32) (size : Int32) (row : Nat → Int32) (start : Int32) (fin : Int32) (kind : Int32) (oT : Int32) (oC : Int32) (amt : Int64) (pln : Int32) (signs : Nat → Int32) (strs : Nat → Int32) (skips : Nat → Int32) (amts : Nat → Int64) (plns : Nat → Int32)  {post : Int32 → Int64 → Int32 → Int32 → Int32 → Int32 → Int32 → Int32 → (Nat → Int32) → (Nat → Int32) → (Nat → Int32) → (Nat → Int64) → (Nat → Int32) → Prop} (hw : wp_K_takeOperand post wait held nest skp fmd dvd size row start fin kind oT oC amt pln signs strs skips amts plns ) : k_Ci l y_K_takeOperand ws_K_takeOperand ({ frames := 4, cells := 0, slots := 0, locals := 95 } : Room) (dC, dI) vwCl (TYm ck) (XM sk) [.ref (ad 5)] (wd_K_takeOperand ad ck wait held nest skp fmd dvd size row start fin kind oT oC amt pln signs strs skips amts plns) (fun (r : Int32) (u : Int64 × Int32 × Int32 × Int32 × Int32 × Int32 × Int32 × (Nat → Int32) × (Nat → Int32) × (Nat → Int32) × (Nat → Int64) × (Nat → Int32)) => post r u.1 u.2.1 u.2.2.1 u.2.2.2.1 u.2.2.2.2.1 u.2.2.2.2.2.1 u.2.2.2.2.2.2.1 u.2.2.2.2.2.2.2.1 u.2.2.2.2.2.2.2.2.1 u.2.2.2.2.2.2.2.2.2.1 u.2.2.2.2.2.2.2.2.2.2.1 u.2.2.2.2.2.2.2.2.2.2.2) (fun (u : Int64 × Int32 × Int32 × Int32 × Int32 × Int32 × Int32 × (Nat → Int32) × (Nat → Int32) × (Nat → Int32) × (Nat → Int64) × (Nat → Int32)) => wd_K_takeOperand ad ck u.2.2.1 u.2.2.2.1 u.2.2.2.2.1 u.2.2.2.2.2.1 u.2.2.2.2.2.2.1 dvd size row start fin kind oT oC u.1 u.2.1 u.2.2.2.2.2.2.2.1 u.2.2.2.2.2.2.2.2.1 u.2.2.2.2.2.2.2.2.2.1 u.2.2.2.2.2.2.2.2.2.2.1 u.2.2.2.2.2.2.2.2.2.2.2) := by
  intro sz
  refine Met.ofW (cc := c_K_takeOperand) (maxL := 1) (ret := (some .boolean)) (by decide) rfl ?_
  intro p e s m args below meth c s₁ B hml hv
  obtain ⟨rfl, hsz, hP, hK, hD0, hX⟩ := hv
  have hx := B.exec
  have hb := B.bytes
  have hr := B.returns
  have hts : ∀ w ∈ TB, w.before _ s = true := fun w h => atoms_spec (ws := ws_K_takeOperand) B.pre w (List.mem_cons_of_mem _ h)
  have hown : s.vm.findClass R_K = some m.cls := findClass_of_methodNamed B.named
  have hlocks := B.notSynchronized
  subst hsz
  have hD := hD0.self (sz := s.heap.size)
  generalize hAe : va_A (wd_K_takeOperand ad ck wait held nest skp fmd dvd size row start fin kind oT oC amt pln signs strs skips amts plns) s.heap.size = A at hD hX ⊢
  have hA : ∀ q : Nat, s.heap.size ≤ q → A q := fun q h => by rw [← hAe]; exact Or.inr h
  have hS : va_S A s.heap s.heap [] := va_S.rf
  have hP : va_P (dC, dI) vwCl (wd_K_takeOperand ad ck wait held nest skp fmd dvd size row start fin kind oT oC amt pln signs strs skips amts plns) s.heap := hP
  have hl := lv_entry ([.ref (ad 5)]) (n := 1) (Nat.le_of_ble_eq_true rfl)
  rw [lg_entry_eq]
  generalize (lg_sl ([.ref (ad 5)]) ++ List.replicate (1 - (lg_sl ([.ref (ad 5)])).length) Slot.unset).toArray = ls at hl ⊢
  have hl : lv_has ls 1 [(0, .ref (ad 5))] := hl
  refine lv_aload_n hx hb d_K_takeOperand_0 rfl (lv_at hl 0 rfl) ?_
  refine va_get (D := (dC, dI)) (ci := 1) (v := .ref (ad 3)) (C := R_K) (T := T_K) (N := 13) hx hb hts in_K hown hK hP 0 rfl rfl 0 (by decide) (hts _ tw_153) (fun _ h9 => h9) rfl d_K_takeOperand_1 ?_
  refine va_getN (D := (dC, dI)) (ci := 3) (v := .int kind) (C := R_W) (T := T_W) (N := 6) hx hb hts in_W hown hK hP 3 rfl rfl 3 (by decide) (va_Nw.use rfl (hX.2.2.2 _ nw_1)) (fun _ h9 => h9) rfl d_K_takeOperand_4 ?_
  refine lv_iconst (v := 5) hx hb d_K_takeOperand_7 (by decide) ?_
  obtain ⟨hwt, hwf⟩ := hw
  refine lv_icmp_ne (tgt := 24) hx hb d_K_takeOperand_8 (by decide) (fun c_1 => ?_) (fun c_1 => ?_)
  · have hw := hwf c_1
    refine lv_aload_n hx hb d_K_takeOperand_24 rfl (lv_at hl 0 rfl) ?_
    refine va_get (D := (dC, dI)) (ci := 1) (v := .ref (ad 4)) (C := R_K) (T := T_K) (N := 13) hx hb hts in_K hown hK hP 0 rfl rfl 1 (by decide) (hts _ tw_195) (fun _ h9 => h9) rfl d_K_takeOperand_25 ?_
    refine lv_aload_n hx hb d_K_takeOperand_28 rfl (lv_at hl 0 rfl) ?_
    refine va_get (D := (dC, dI)) (ci := 1) (v := .ref (ad 3)) (C := R_K) (T := T_K) (N := 13) hx hb hts in_K hown hK hP 0 rfl rfl 0 (by decide) (hts _ tw_153) (fun _ h9 => h9) rfl d_K_takeOperand_29 ?_
    refine va_getN (D := (dC, dI)) (ci := 3) (v := .int kind) (C := R_W) (T := T_W) (N := 6) hx hb hts in_W hown hK hP 3 rfl rfl 3 (by decide) (va_Nw.use rfl (hX.2.2.2 _ nw_1)) (fun _ h9 => h9) rfl d_K_takeOperand_32 ?_
    refine lv_aload_n hx hb d_K_takeOperand_35 rfl (lv_at hl 0 rfl) ?_
    refine va_get (D := (dC, dI)) (ci := 1) (v := .ref (ad 3)) (C := R_K) (T := T_K) (N := 13) hx hb hts in_K hown hK hP 0 rfl rfl 0 (by decide) (hts _ tw_153) (fun _ h9 => h9) rfl d_K_takeOperand_36 ?_
    refine va_getN (D := (dC, dI)) (ci := 3) (v := .int start) (C := R_W) (T := T_W) (N := 6) hx hb hts in_W hown hK hP 3 rfl rfl 1 (by decide) (va_Nw.use rfl (hX.2.2.2 _ nw_2)) (fun _ h9 => h9) rfl d_K_takeOperand_39 ?_
    refine lv_aload_n hx hb d_K_takeOperand_42 rfl (lv_at hl 0 rfl) ?_
    refine va_get (D := (dC, dI)) (ci := 1) (v := .ref (ad 3)) (C := R_K) (T := T_K) (N := 13) hx hb hts in_K hown hK hP 0 rfl rfl 0 (by decide) (hts _ tw_153) (fun _ h9 => h9) rfl d_K_takeOperand_43 ?_
    refine va_getN (D := (dC, dI)) (ci := 3) (v := .int fin) (C := R_W) (T := T_W) (N := 6) hx hb hts in_W hown hK hP 3 rfl rfl 2 (by decide) (va_Nw.use rfl (hX.2.2.2 _ nw_3)) (fun _ h9 => h9) rfl d_K_takeOperand_46 ?_
    refine k_callVi (As := [.int kind, .int start, .int fin]) (rest := []) (fun (u : Int64 × Int32) => wd_K_takeOperand ad ck wait held nest skp fmd dvd size row start fin kind oT oC u.1 u.2 signs strs skips amts plns) ⟨hx, hb, hml, hown, hts⟩ (kc_L_read l dC dI ad ck amt pln size row kind start fin (hw := hw)) (cwV 3 hts (gV tw_196 tw_198 tw_199 tw_104 tw_197) rfl rfl rfl hd_L_read ⟨Nat.le_of_ble_eq_true rfl, Nat.le_of_ble_eq_true rfl⟩) hK hP hD hS hA k_x0c trivial [4, 1, 2] [0, 3, 5, 6, 7, 8, 9] [0, 8, 9, 1, 7, 2, 3, 4, 5, 6] rfl rfl (by decide) (by decide) (fun _ => rfl) (va_recv hK hP (ci := 0) (q0 := 4) rfl rfl) rfl hl.1 rfl (lv_room (Nat.le_of_ble_eq_true rfl)) d_K_takeOperand_49 ⟨Nat.zero_le _, Nat.zero_le _⟩ ?_
    intro r_2 u H locs hw hP hD hS
    obtain ⟨amt_3, pln_4⟩ := u
    have hP : va_P (dC, dI) vwCl (wd_K_takeOperand ad ck wait held nest skp fmd dvd size row start fin kind oT oC amt_3 pln_4 signs strs skips amts plns) H := hP
    have hD : va_D A (wd_K_takeOperand ad ck wait held nest skp fmd dvd size row start fin kind oT oC amt_3 pln_4 signs strs skips amts plns) := hD
    try dsimp only at hw
    obtain ⟨hwt, hwf⟩ := hw
    refine lv_if_ne (tgt := 62) hx hb d_K_takeOperand_52 (by decide) (fun c_5 => ?_) (fun c_5 => ?_)
    · have hw := hwf c_5
      refine lv_aload_n hx hb d_K_takeOperand_62 rfl (lv_at hl 0 rfl) ?_
      refine lv_aload_n hx hb d_K_takeOperand_63 rfl (lv_at hl 0 rfl) ?_
      refine va_get (D := (dC, dI)) (ci := 1) (v := .ref (ad 4)) (C := R_K) (T := T_K) (N := 13) hx hb hts in_K hown hK hP 0 rfl rfl 1 (by decide) (hts _ tw_195) (fun _ h9 => h9) rfl d_K_takeOperand_64 ?_
      refine va_getN (D := (dC, dI)) (ci := 0) (v := .long amt_3) (C := R_L) (T := T_L) (N := 3) hx hb hts in_L hown hK hP 4 rfl rfl 1 (by decide) (va_Nw.use rfl (hX.2.2.2 _ nw_4)) (fun _ h9 => h9) rfl d_K_takeOperand_67 ?_
      refine lv_aload_n hx hb d_K_takeOperand_70 rfl (lv_at hl 0 rfl) ?_
      refine va_get (D := (dC, dI)) (ci := 1) (v := .ref (ad 4)) (C := R_K) (T := T_K) (N := 13) hx hb hts in_K hown hK hP 0 rfl rfl 1 (by decide) (hts _ tw_195) (fun _ h9 => h9) rfl d_K_takeOperand_71 ?_
      refine va_getN (D := (dC, dI)) (ci := 0) (v := .int pln_4) (C := R_L) (T := T_L) (N := 3) hx hb hts in_L hown hK hP 4 rfl rfl 2 (by decide) (va_Nw.use rfl (hX.2.2.2 _ nw_5)) (fun _ h9 => h9) rfl d_K_takeOperand_74 ?_
      refine k_callVv (As := [.long amt_3, .int pln_4]) (rest := []) (fun (u : Int32 × Int32 × (Nat → Int64) × (Nat → Int32)) => wd_K_takeOperand ad ck wait u.1 nest skp u.2.1 dvd size row start fin kind oT oC amt_3 pln_4 signs strs skips u.2.2.1 u.2.2.2) ⟨hx, hb, hml, hown, hts⟩ (kc_K_hold l dC dI ad ck wait held nest skp fmd dvd amts plns amt_3 pln_4 (hw := hw)) (cwV 2 hts (gV tw_200 tw_202 tw_203 tw_161 tw_201) rfl rfl rfl hd_K_hold ⟨Nat.le_of_ble_eq_true rfl, Nat.le_of_ble_eq_true rfl⟩) hK hP hD hS hA k_x0c trivial [0, 8, 9] [1, 2, 3, 4, 5, 6, 7] [7, 0, 1, 2, 3, 4, 5, 6, 8, 9] rfl rfl (by decide) (by decide) (fun _ => rfl) (va_recv hK hP (ci := 1) (q0 := 0) rfl rfl) rfl hl.1 rfl (lv_room (Nat.le_of_ble_eq_true rfl)) d_K_takeOperand_77 ⟨Nat.zero_le _, Nat.zero_le _⟩ ?_
      intro u H locs hw hP hD hS
      obtain ⟨held_6, fmd_7, amts_8, plns_9⟩ := u
      have hP : va_P (dC, dI) vwCl (wd_K_takeOperand ad ck wait held_6 nest skp fmd_7 dvd size row start fin kind oT oC amt_3 pln_4 signs strs skips amts_8 plns_9) H := hP
      have hD : va_D A (wd_K_takeOperand ad ck wait held_6 nest skp fmd_7 dvd size row start fin kind oT oC amt_3 pln_4 signs strs skips amts_8 plns_9) := hD
      try dsimp only at hw
      refine lv_iconst (v := 0) hx hb d_K_takeOperand_80 (by decide) ?_
      exact W.zret (v := 0) hx hb hr (by decide) (fun t ht hW => ⟨⟨0, (amt_3, pln_4, wait, held_6, nest, skp, fmd_7, signs, strs, skips, amts_8, plns_9), rfl, hw, by rw [ht]; exact hP, va_K.moved hW.alike hK, hD⟩, hS.F ht⟩) hS.2.2 d_K_takeOperand_81
    · have hw := hwt c_5
      refine lv_aload_n hx hb d_K_takeOperand_55 rfl (lv_at hl 0 rfl) ?_
      refine lv_iconst (v := 0) hx hb d_K_takeOperand_56 (by decide) ?_
      refine va_put (D := (dC, dI)) (ci := 1) (v := .int 0) (ty := .boolean) (C := R_K) (T := T_K) (N := 13) hx hb hts in_K ty_K ty_K_ok nm_K hown hK hP hD hS 0 rfl rfl 11 (by decide) (hts _ tw_144) (fun _ h9 => h9) rfl (by decide +kernel) (by decide) (by decide) (Nat.le_of_ble_eq_true rfl) d_K_takeOperand_57 (fun H locs hP hD hS => ?_)
      have hP : va_P (dC, dI) vwCl (wd_K_takeOperand ad ck wait held nest skp 0 dvd size row start fin kind oT oC amt_3 pln_4 signs strs skips amts plns) H := hP
      have hD : va_D A (wd_K_takeOperand ad ck wait held nest skp 0 dvd size row start fin kind oT oC amt_3 pln_4 signs strs skips amts plns) := hD
      refine lv_iconst (v := 1) hx hb d_K_takeOperand_60 (by decide) ?_
      exact W.zret (v := 1) hx hb hr (by decide) (fun t ht hW => ⟨⟨1, (amt_3, pln_4, wait, held, nest, skp, 0, signs, strs, skips, amts, plns), rfl, hw, by rw [ht]; exact hP, va_K.moved hW.alike hK, hD⟩, hS.F ht⟩) hS.2.2 d_K_takeOperand_61
  · have hw := hwt c_1
    refine lv_aload_n hx hb d_K_takeOperand_11 rfl (lv_at hl 0 rfl) ?_
    refine lv_aload_n hx hb d_K_takeOperand_12 rfl (lv_at hl 0 rfl) ?_
    refine va_get (D := (dC, dI)) (ci := 1) (v := .ref (ad 3)) (C := R_K) (T := T_K) (N := 13) hx hb hts in_K hown hK hP 0 rfl rfl 0 (by decide) (hts _ tw_153) (fun _ h9 => h9) rfl d_K_takeOperand_13 ?_
    refine k_callVi (As := []) (rest := [.ref (ad 5)]) (fun (u : Unit) => wd_K_takeOperand ad ck wait held nest skp fmd dvd size row start fin kind oT oC amt pln signs strs skips amts plns) ⟨hx, hb, hml, hown, hts⟩ (kc_W_signCode l dC dI ad ck start fin kind oT oC size row (hw := hw)) (cwV 0 hts (gV tw_204 tw_206 tw_207 tw_6 tw_205) rfl rfl rfl hd_W_signCode ⟨Nat.le_of_ble_eq_true rfl, Nat.le_of_ble_eq_true rfl⟩) hK hP hD hS hA k_x0c trivial [3, 1, 2] [0, 4, 5, 6, 7, 8, 9] [0, 8, 9, 7, 1, 2, 3, 4, 5, 6] rfl rfl (by decide) (by decide) (fun _ => rfl) (va_recv hK hP (ci := 3) (q0 := 3) rfl rfl) rfl hl.1 rfl (lv_room (Nat.le_of_ble_eq_true rfl)) d_K_takeOperand_16 ⟨Nat.zero_le _, Nat.zero_le _⟩ ?_
    intro r_10 u H locs hw hP hD hS
    have hP : va_P (dC, dI) vwCl (wd_K_takeOperand ad ck wait held nest skp fmd dvd size row start fin kind oT oC amt pln signs strs skips amts plns) H := hP
    have hD : va_D A (wd_K_takeOperand ad ck wait held nest skp fmd dvd size row start fin kind oT oC amt pln signs strs skips amts plns) := hD
    try dsimp only at hw
    refine k_callVv (As := [.int r_10]) (rest := []) (fun (u : Int32 × Int32 × Int32 × Int32 × (Nat → Int32) × (Nat → Int32) × (Nat → Int32)) => wd_K_takeOperand ad ck u.1 held u.2.1 u.2.2.1 u.2.2.2.1 dvd size row start fin kind oT oC amt pln u.2.2.2.2.1 u.2.2.2.2.2.1 u.2.2.2.2.2.2 amts plns) ⟨hx, hb, hml, hown, hts⟩ (kc_K_openNest l dC dI ad ck wait held nest skp fmd dvd signs strs skips r_10 (hw := hw)) (cwV 1 hts (gV tw_208 tw_210 tw_211 tw_161 tw_209) rfl rfl rfl hd_K_openNest ⟨Nat.le_of_ble_eq_true rfl, Nat.le_of_ble_eq_true rfl⟩) hK hP hD hS hA k_x0c trivial [0, 5, 6, 7] [1, 2, 3, 4, 8, 9] [6, 0, 1, 2, 3, 7, 8, 9, 4, 5] rfl rfl (by decide) (by decide) (fun _ => rfl) (va_recv hK hP (ci := 1) (q0 := 0) rfl rfl) rfl hl.1 rfl (lv_room (Nat.le_of_ble_eq_true rfl)) d_K_takeOperand_19 ⟨Nat.zero_le _, Nat.zero_le _⟩ ?_
    intro u H locs hw hP hD hS
    obtain ⟨wait_11, nest_12, skp_13, fmd_14, signs_15, strs_16, skips_17⟩ := u
    have hP : va_P (dC, dI) vwCl (wd_K_takeOperand ad ck wait_11 held nest_12 skp_13 fmd_14 dvd size row start fin kind oT oC amt pln signs_15 strs_16 skips_17 amts plns) H := hP
    have hD : va_D A (wd_K_takeOperand ad ck wait_11 held nest_12 skp_13 fmd_14 dvd size row start fin kind oT oC amt pln signs_15 strs_16 skips_17 amts plns) := hD
    try dsimp only at hw
    refine lv_iconst (v := 1) hx hb d_K_takeOperand_22 (by decide) ?_
    exact W.zret (v := 1) hx hb hr (by decide) (fun t ht hW => ⟨⟨1, (amt, pln, wait_11, held, nest_12, skp_13, fmd_14, signs_15, strs_16, skips_17, amts, plns), rfl, hw, by rw [ht]; exact hP, va_K.moved hW.alike hK, hD⟩, hS.F ht⟩) hS.2.2 d_K_takeOperand_23

abbrev wd_K_takeOperator (ad : Nat → Nat) (ck : Nat → ClassId) (wait : Int32) (held : Int32) (nest : Int32) (skp : Int32) (fmd : Int32) (dvd : Int32) (size : Int32) (row : Nat → Int32) (start : Int32) (fin : Int32) (kind : Int32) (oT : Int32) (oC : Int32) (signs : Nat → Int32) (strs : Nat → Int32) (skips : Nat → Int32) (amts : Nat → Int64) (plns : Nat → Int32) : va_W := [(ad 5, .inr (1, [.ref (ad 3), .ref (ad 4), .ref (ad 6), .ref (ad 7), .ref (ad 8), .ref (ad 9), .ref (ad 10), .int wait, .int held, .int nest, .int skp, .int fmd, .int dvd])), (ad 1, .inr (2, [.ref (ad 2), .int size])), (ad 2, .inl (ck 0, 4096, .inl row)), (ad 3, .inr (3, [.ref (ad 1), .int start, .int fin, .int kind, .int oT, .int oC])), (ad 6, .inl (ck 1, 670, .inl signs)), (ad 7, .inl (ck 2, 670, .inl strs)), (ad 8, .inl (ck 3, 670, .inl skips)), (ad 9, .inl (ck 4, 671, .inr (.inl amts))), (ad 10, .inl (ck 5, 671, .inl plns))]
def w_K_takeOperator_22 (post : Int32 → Int32 → Int32 → Int32 → Int32 → Int32 → Int32 → (Nat → Int32) → (Nat → Int32) → (Nat → Int32) → (Nat → Int64) → (Nat → Int32) → Prop) (z0 : Int32) (wait : Int32) (held : Int32) (nest : Int32) (skp : Int32) (fmd : Int32) (dvd : Int32) (size : Int32) (row : Nat → Int32) (start : Int32) (fin : Int32) (kind : Int32) (oT : Int32) (oC : Int32) (signs : Nat → Int32) (strs : Nat → Int32) (skips : Nat → Int32) (amts : Nat → Int64) (plns : Nat → Int32) : Prop := wp_K_strengthOf (fun (r_2 : Int32) => wp_K_finishDownTo (fun (wait_3 : Int32) (held_4 : Int32) (nest_5 : Int32) (skp_6 : Int32) (fmd_7 : Int32) (dvd_8 : Int32) (amts_9 : Nat → Int64) (plns_10 : Nat → Int32) => (fmd_7 = 0 → (post 1 wait_3 held_4 nest_5 skp_6 0 dvd_8 signs strs skips amts_9 plns_10)) ∧ (¬ fmd_7 = 0 → ((held_4 < 1 → (post 1 wait_3 held_4 nest_5 skp_6 0 dvd_8 signs strs skips amts_9 plns_10)) ∧ (¬ held_4 < 1 → ((r_2 = 99 → (post 1 wait_3 held_4 nest_5 skp_6 0 dvd_8 signs strs skips amts_9 plns_10)) ∧ (¬ r_2 = 99 → ((z0 = 41 → (wp_K_closeBracket (fun (wait_15 : Int32) (nest_16 : Int32) (skp_17 : Int32) (fmd_18 : Int32) => post 0 wait_15 held_4 nest_16 skp_17 fmd_18 dvd_8 signs strs skips amts_9 plns_10) wait_3 held_4 nest_5 skp_6 fmd_7 dvd_8 signs strs skips)) ∧ (¬ z0 = 41 → ((z0 = 58 → (wp_K_turnChoice (fun (wait_20 : Int32) (skp_21 : Int32) (fmd_22 : Int32) (signs_23 : Nat → Int32) (strs_24 : Nat → Int32) (skips_25 : Nat → Int32) => post 1 wait_20 held_4 nest_5 skp_21 fmd_22 dvd_8 signs_23 strs_24 skips_25 amts_9 plns_10) wait_3 held_4 nest_5 skp_6 fmd_7 dvd_8 signs strs skips)) ∧ (¬ z0 = 58 → ((z0 = 63 → (wp_K_beginChoice (fun (wait_27 : Int32) (held_28 : Int32) (nest_29 : Int32) (skp_30 : Int32) (fmd_31 : Int32) (signs_32 : Nat → Int32) (strs_33 : Nat → Int32) (skips_34 : Nat → Int32) => post 1 wait_27 held_28 nest_29 skp_30 fmd_31 dvd_8 signs_32 strs_33 skips_34 amts_9 plns_10) wait_3 held_4 nest_5 skp_6 fmd_7 dvd_8 signs strs skips amts_9)) ∧ (¬ z0 = 63 → (wp_K_skipsRight (fun (r_35 : Int32) => wp_K_await (fun (wait_36 : Int32) (skp_37 : Int32) (fmd_38 : Int32) (signs_39 : Nat → Int32) (strs_40 : Nat → Int32) (skips_41 : Nat → Int32) => post 1 wait_36 held_4 nest_5 skp_37 fmd_38 dvd_8 signs_39 strs_40 skips_41 amts_9 plns_10) wait_3 held_4 nest_5 skp_6 fmd_7 dvd_8 signs strs skips z0 r_2 r_35) wait_3 held_4 nest_5 skp_6 fmd_7 dvd_8 amts_9 z0))))))))))))) wait held nest skp fmd dvd signs strs skips amts plns r_2) z0
def wp_K_takeOperator (post : Int32 → Int32 → Int32 → Int32 → Int32 → Int32 → Int32 → (Nat → Int32) → (Nat → Int32) → (Nat → Int32) → (Nat → Int64) → (Nat → Int32) → Prop) (wait : Int32) (held : Int32) (nest : Int32) (skp : Int32) (fmd : Int32) (dvd : Int32) (size : Int32) (row : Nat → Int32) (start : Int32) (fin : Int32) (kind : Int32) (oT : Int32) (oC : Int32) (signs : Nat → Int32) (strs : Nat → Int32) (skips : Nat → Int32) (amts : Nat → Int64) (plns : Nat → Int32)  : Prop := (kind = 5 → (wp_W_signCode (fun (r_42 : Int32) => w_K_takeOperator_22 post r_42 wait held nest skp fmd dvd size row start fin kind oT oC signs strs skips amts plns) start fin kind oT oC size row)) ∧ (¬ kind = 5 → (w_K_takeOperator_22 post 0 wait held nest skp fmd dvd size row start fin kind oT oC signs strs skips amts plns))
set_option maxHeartbeats 4000000 in
set_option maxRecDepth 100000 in
theorem kc_K_takeOperator (l : Launch) (dC : Nat → ClassId) (dI : Nat → Nat → Nat) (ad : Nat → Nat) (ck : Nat → ClassId) (sk : Nat → Nat) (wait : Int32) (held : Int32) (nest : Int32) (skp : Int32) (fmd : Int32) (dvd : Int32) (size : Int32) (row : Nat → Int32) (start : Int32) (fin : Int32) (kind : Int32) (oT : Int32) (oC : Int32) (signs : Nat → Int32) (strs : Nat → Int32) (skips : Nat → Int32) (amts : Nat → Int64) (plns : Nat → Int32)  {post : Int32 → Int32 → Int32 → Int32 → Int32 → Int32 → Int32 → (Nat → Int32) → (Nat → Int32) → (Nat → Int32) → (Nat → Int64) → (Nat → Int32) → Prop} (hw : wp_K_takeOperator post wait held nest skp fmd dvd size row start fin kind oT oC signs strs skips amts plns ) : k_Ci l y_K_takeOperator ws_K_takeOperator ({ frames := 4, cells := 0, slots := 0, locals := 100 } : Room) (dC, dI) vwCl (TYm ck) (XM sk) [.ref (ad 5)] (wd_K_takeOperator ad ck wait held nest skp fmd dvd size row start fin kind oT oC signs strs skips amts plns) (fun (r : Int32) (u : Int32 × Int32 × Int32 × Int32 × Int32 × Int32 × (Nat → Int32) × (Nat → Int32) × (Nat → Int32) × (Nat → Int64) × (Nat → Int32)) => post r u.1 u.2.1 u.2.2.1 u.2.2.2.1 u.2.2.2.2.1 u.2.2.2.2.2.1 u.2.2.2.2.2.2.1 u.2.2.2.2.2.2.2.1 u.2.2.2.2.2.2.2.2.1 u.2.2.2.2.2.2.2.2.2.1 u.2.2.2.2.2.2.2.2.2.2) (fun (u : Int32 × Int32 × Int32 × Int32 × Int32 × Int32 × (Nat → Int32) × (Nat → Int32) × (Nat → Int32) × (Nat → Int64) × (Nat → Int32)) => wd_K_takeOperator ad ck u.1 u.2.1 u.2.2.1 u.2.2.2.1 u.2.2.2.2.1 u.2.2.2.2.2.1 size row start fin kind oT oC u.2.2.2.2.2.2.1 u.2.2.2.2.2.2.2.1 u.2.2.2.2.2.2.2.2.1 u.2.2.2.2.2.2.2.2.2.1 u.2.2.2.2.2.2.2.2.2.2) := by
  intro sz
  refine Met.ofW (cc := c_K_takeOperator) (maxL := 3) (ret := (some .boolean)) (by decide) rfl ?_
  intro p e s m args below meth c s₁ B hml hv
  obtain ⟨rfl, hsz, hP, hK, hD0, hX⟩ := hv
  have hx := B.exec
  have hb := B.bytes
  have hr := B.returns
  have hts : ∀ w ∈ TB, w.before _ s = true := fun w h => atoms_spec (ws := ws_K_takeOperator) B.pre w (List.mem_cons_of_mem _ h)
  have hown : s.vm.findClass R_K = some m.cls := findClass_of_methodNamed B.named
  have hlocks := B.notSynchronized
  subst hsz
  have hD := hD0.self (sz := s.heap.size)
  generalize hAe : va_A (wd_K_takeOperator ad ck wait held nest skp fmd dvd size row start fin kind oT oC signs strs skips amts plns) s.heap.size = A at hD hX ⊢
  have hA : ∀ q : Nat, s.heap.size ≤ q → A q := fun q h => by rw [← hAe]; exact Or.inr h
  have hS : va_S A s.heap s.heap [] := va_S.rf
  have hP : va_P (dC, dI) vwCl (wd_K_takeOperator ad ck wait held nest skp fmd dvd size row start fin kind oT oC signs strs skips amts plns) s.heap := hP
  have hl := lv_entry ([.ref (ad 5)]) (n := 3) (Nat.le_of_ble_eq_true rfl)
  rw [lg_entry_eq]
  generalize (lg_sl ([.ref (ad 5)]) ++ List.replicate (3 - (lg_sl ([.ref (ad 5)])).length) Slot.unset).toArray = ls at hl ⊢
  have hl : lv_has ls 3 [(0, .ref (ad 5))] := hl
  have L_22 : ∀ (z0 : Int32) (wait : Int32) (held : Int32) (nest : Int32) (skp : Int32) (fmd : Int32) (dvd : Int32) (size : Int32) (row : Nat → Int32) (start : Int32) (fin : Int32) (kind : Int32) (oT : Int32) (oC : Int32) (signs : Nat → Int32) (strs : Nat → Int32) (skips : Nat → Int32) (amts : Nat → Int64) (plns : Nat → Int32) (H : Heap) (locs : List Loc) (ls : Array Slot), w_K_takeOperator_22 post z0 wait held nest skp fmd dvd size row start fin kind oT oC signs strs skips amts plns → va_P (dC, dI) vwCl (wd_K_takeOperator ad ck wait held nest skp fmd dvd size row start fin kind oT oC signs strs skips amts plns) H → va_D A (wd_K_takeOperator ad ck wait held nest skp fmd dvd size row start fin kind oT oC signs strs skips amts plns) → va_S A s.heap H locs → lv_has ls 3 [(0, .ref (ad 5))] → W p l e (headSpec ws_K_takeOperator ({ frames := 4, cells := 0, slots := 0, locals := 100 } : Room)).room s m ([.ref (ad 5)] : List Value).toArray below meth c H locs 0 0 (k_Qi below (dC, dI) vwCl (TYm ck) A (fun (r : Int32) (u : Int32 × Int32 × Int32 × Int32 × Int32 × Int32 × (Nat → Int32) × (Nat → Int32) × (Nat → Int32) × (Nat → Int64) × (Nat → Int32)) => post r u.1 u.2.1 u.2.2.1 u.2.2.2.1 u.2.2.2.2.1 u.2.2.2.2.2.1 u.2.2.2.2.2.2.1 u.2.2.2.2.2.2.2.1 u.2.2.2.2.2.2.2.2.1 u.2.2.2.2.2.2.2.2.2.1 u.2.2.2.2.2.2.2.2.2.2) (fun (u : Int32 × Int32 × Int32 × Int32 × Int32 × Int32 × (Nat → Int32) × (Nat → Int32) × (Nat → Int32) × (Nat → Int64) × (Nat → Int32)) => wd_K_takeOperator ad ck u.1 u.2.1 u.2.2.1 u.2.2.2.1 u.2.2.2.2.1 u.2.2.2.2.2.1 size row start fin kind oT oC u.2.2.2.2.2.2.1 u.2.2.2.2.2.2.2.1 u.2.2.2.2.2.2.2.2.1 u.2.2.2.2.2.2.2.2.2.1 u.2.2.2.2.2.2.2.2.2.2) ([.ref (ad 5)] : List Value).toArray s) (F0 m 22 ls [.int z0]) := by
    intro z0 wait held nest skp fmd dvd size row start fin kind oT oC signs strs skips amts plns H locs ls hw hP hD hS hl
    refine lv_istore_n (lv' := [(1, .int z0), (0, .ref (ad 5))]) hx hb d_K_takeOperator_22 rfl hl (by decide) rfl (fun ls hl => ?_)
    refine lv_iload_n hx hb d_K_takeOperator_23 rfl (lv_at hl 0 rfl) ?_
    refine k_callSi (As := [.int z0]) (rest := []) (fun (u : Unit) => wd_K_takeOperator ad ck wait held nest skp fmd dvd size row start fin kind oT oC signs strs skips amts plns) ⟨hx, hb, hml, hown, hts⟩ (kc_K_strengthOf l dC dI ad ck z0 (hw := hw)) (va_cwS 1 hts (gS tw_212 tw_214 tw_161 tw_213) rfl rfl rfl hd_K_strengthOf ⟨Nat.le_of_ble_eq_true rfl, Nat.le_of_ble_eq_true rfl⟩) hK hP hD hS hA k_x0c trivial [] [0, 1, 2, 3, 4, 5, 6, 7, 8] [0, 1, 2, 3, 4, 5, 6, 7, 8] rfl rfl (by decide) (by decide) (fun _ => rfl) rfl hl.1 rfl (lv_room (Nat.le_of_ble_eq_true rfl)) d_K_takeOperator_24 ⟨Nat.zero_le _, Nat.zero_le _⟩ ?_
    intro r_2 u H locs hw hP hD hS
    have hP : va_P (dC, dI) vwCl (wd_K_takeOperator ad ck wait held nest skp fmd dvd size row start fin kind oT oC signs strs skips amts plns) H := hP
    have hD : va_D A (wd_K_takeOperator ad ck wait held nest skp fmd dvd size row start fin kind oT oC signs strs skips amts plns) := hD
    try dsimp only at hw
    refine lv_istore_n (lv' := [(2, .int r_2), (1, .int z0), (0, .ref (ad 5))]) hx hb d_K_takeOperator_27 rfl hl (by decide) rfl (fun ls hl => ?_)
    refine lv_aload_n hx hb d_K_takeOperator_28 rfl (lv_at hl 2 rfl) ?_
    refine lv_iload_n hx hb d_K_takeOperator_29 rfl (lv_at hl 0 rfl) ?_
    refine k_callVv (As := [.int r_2]) (rest := []) (fun (u : Int32 × Int32 × Int32 × Int32 × Int32 × Int32 × (Nat → Int64) × (Nat → Int32)) => wd_K_takeOperator ad ck u.1 u.2.1 u.2.2.1 u.2.2.2.1 u.2.2.2.2.1 u.2.2.2.2.2.1 size row start fin kind oT oC signs strs skips u.2.2.2.2.2.2.1 u.2.2.2.2.2.2.2) ⟨hx, hb, hml, hown, hts⟩ (kc_K_finishDownTo l dC dI ad ck wait held nest skp fmd dvd signs strs skips amts plns r_2 (hw := hw)) (cwV 1 hts (gV tw_215 tw_217 tw_218 tw_161 tw_216) rfl rfl rfl hd_K_finishDownTo ⟨Nat.le_of_ble_eq_true rfl, Nat.le_of_ble_eq_true rfl⟩) hK hP hD hS hA k_x0c trivial [0, 4, 5, 6, 7, 8] [1, 2, 3] [3, 0, 1, 2, 4, 5, 6, 7, 8] rfl rfl (by decide) (by decide) (fun _ => rfl) (va_recv hK hP (ci := 1) (q0 := 0) rfl rfl) rfl hl.1 rfl (lv_room (Nat.le_of_ble_eq_true rfl)) d_K_takeOperator_30 ⟨Nat.zero_le _, Nat.zero_le _⟩ ?_
    intro u H locs hw hP hD hS
    obtain ⟨wait_3, held_4, nest_5, skp_6, fmd_7, dvd_8, amts_9, plns_10⟩ := u
    have hP : va_P (dC, dI) vwCl (wd_K_takeOperator ad ck wait_3 held_4 nest_5 skp_6 fmd_7 dvd_8 size row start fin kind oT oC signs strs skips amts_9 plns_10) H := hP
    have hD : va_D A (wd_K_takeOperator ad ck wait_3 held_4 nest_5 skp_6 fmd_7 dvd_8 size row start fin kind oT oC signs strs skips amts_9 plns_10) := hD
    try dsimp only at hw
    refine lv_aload_n hx hb d_K_takeOperator_33 rfl (lv_at hl 2 rfl) ?_
    refine va_get (D := (dC, dI)) (ci := 1) (v := .int fmd_7) (C := R_K) (T := T_K) (N := 13) hx hb hts in_K hown hK hP 0 rfl rfl 11 (by decide) (hts _ tw_144) (fun _ h9 => h9) rfl d_K_takeOperator_34 ?_
    obtain ⟨hwt, hwf⟩ := hw
    refine lv_if_eq (tgt := 54) hx hb d_K_takeOperator_37 (by decide) (fun c_11 => ?_) (fun c_11 => ?_)
    · have hw := hwt c_11
      refine lv_aload_n hx hb d_K_takeOperator_54 rfl (lv_at hl 2 rfl) ?_
      refine lv_iconst (v := 0) hx hb d_K_takeOperator_55 (by decide) ?_
      refine va_put (D := (dC, dI)) (ci := 1) (v := .int 0) (ty := .boolean) (C := R_K) (T := T_K) (N := 13) hx hb hts in_K ty_K ty_K_ok nm_K hown hK hP hD hS 0 rfl rfl 11 (by decide) (hts _ tw_144) (fun _ h9 => h9) rfl (by decide +kernel) (by decide) (by decide) (Nat.le_of_ble_eq_true rfl) d_K_takeOperator_56 (fun H locs hP hD hS => ?_)
      have hP : va_P (dC, dI) vwCl (wd_K_takeOperator ad ck wait_3 held_4 nest_5 skp_6 0 dvd_8 size row start fin kind oT oC signs strs skips amts_9 plns_10) H := hP
      have hD : va_D A (wd_K_takeOperator ad ck wait_3 held_4 nest_5 skp_6 0 dvd_8 size row start fin kind oT oC signs strs skips amts_9 plns_10) := hD
      refine lv_iconst (v := 1) hx hb d_K_takeOperator_59 (by decide) ?_
      exact W.zret (v := 1) hx hb hr (by decide) (fun t ht hW => ⟨⟨1, (wait_3, held_4, nest_5, skp_6, 0, dvd_8, signs, strs, skips, amts_9, plns_10), rfl, hw, by rw [ht]; exact hP, va_K.moved hW.alike hK, hD⟩, hS.F ht⟩) hS.2.2 d_K_takeOperator_60
    · have hw := hwf c_11
      refine lv_aload_n hx hb d_K_takeOperator_40 rfl (lv_at hl 2 rfl) ?_
      refine va_get (D := (dC, dI)) (ci := 1) (v := .int held_4) (C := R_K) (T := T_K) (N := 13) hx hb hts in_K hown hK hP 0 rfl rfl 8 (by decide) (hts _ tw_145) (fun _ h9 => h9) rfl d_K_takeOperator_41 ?_
      refine lv_iconst (v := 1) hx hb d_K_takeOperator_44 (by decide) ?_
      obtain ⟨hwt, hwf⟩ := hw
      refine lv_icmp_lt (tgt := 54) hx hb d_K_takeOperator_45 (by decide) (fun c_12 => ?_) (fun c_12 => ?_)
      · have hw := hwt c_12
        refine lv_aload_n hx hb d_K_takeOperator_54 rfl (lv_at hl 2 rfl) ?_
        refine lv_iconst (v := 0) hx hb d_K_takeOperator_55 (by decide) ?_
        refine va_put (D := (dC, dI)) (ci := 1) (v := .int 0) (ty := .boolean) (C := R_K) (T := T_K) (N := 13) hx hb hts in_K ty_K ty_K_ok nm_K hown hK hP hD hS 0 rfl rfl 11 (by decide) (hts _ tw_144) (fun _ h9 => h9) rfl (by decide +kernel) (by decide) (by decide) (Nat.le_of_ble_eq_true rfl) d_K_takeOperator_56 (fun H locs hP hD hS => ?_)
        have hP : va_P (dC, dI) vwCl (wd_K_takeOperator ad ck wait_3 held_4 nest_5 skp_6 0 dvd_8 size row start fin kind oT oC signs strs skips amts_9 plns_10) H := hP
        have hD : va_D A (wd_K_takeOperator ad ck wait_3 held_4 nest_5 skp_6 0 dvd_8 size row start fin kind oT oC signs strs skips amts_9 plns_10) := hD
        refine lv_iconst (v := 1) hx hb d_K_takeOperator_59 (by decide) ?_
        exact W.zret (v := 1) hx hb hr (by decide) (fun t ht hW => ⟨⟨1, (wait_3, held_4, nest_5, skp_6, 0, dvd_8, signs, strs, skips, amts_9, plns_10), rfl, hw, by rw [ht]; exact hP, va_K.moved hW.alike hK, hD⟩, hS.F ht⟩) hS.2.2 d_K_takeOperator_60
      · have hw := hwf c_12
        refine lv_iload_n hx hb d_K_takeOperator_48 rfl (lv_at hl 0 rfl) ?_
        refine lv_bipush (v := 99) hx hb d_K_takeOperator_49 (by decide) ?_
        obtain ⟨hwt, hwf⟩ := hw
        refine lv_icmp_ne (tgt := 61) hx hb d_K_takeOperator_51 (by decide) (fun c_13 => ?_) (fun c_13 => ?_)
        · have hw := hwf c_13
          refine lv_iload_n hx hb d_K_takeOperator_61 rfl (lv_at hl 1 rfl) ?_
          obtain ⟨hwt, hwf⟩ := hw
          by_cases c_14 : z0 = 41
          · have hw := hwt c_14
            refine lv_lookup (off := 34) (tgt := 96) hx hb d_K_takeOperator_62 (by decide) (by rw [c_14]; decide) (by decide) ?_
            refine lv_aload_n hx hb d_K_takeOperator_96 rfl (lv_at hl 2 rfl) ?_
            refine k_callVv (As := []) (rest := []) (fun (u : Int32 × Int32 × Int32 × Int32) => wd_K_takeOperator ad ck u.1 held_4 u.2.1 u.2.2.1 u.2.2.2 dvd_8 size row start fin kind oT oC signs strs skips amts_9 plns_10) ⟨hx, hb, hml, hown, hts⟩ (kc_K_closeBracket l dC dI ad ck wait_3 held_4 nest_5 skp_6 fmd_7 dvd_8 signs strs skips (hw := hw)) (cwV 0 hts (gV tw_219 tw_221 tw_222 tw_161 tw_220) rfl rfl rfl hd_K_closeBracket ⟨Nat.le_of_ble_eq_true rfl, Nat.le_of_ble_eq_true rfl⟩) hK hP hD hS hA k_x0c trivial [0, 4, 5, 6] [1, 2, 3, 7, 8] [5, 0, 1, 2, 6, 7, 8, 3, 4] rfl rfl (by decide) (by decide) (fun _ => rfl) (va_recv hK hP (ci := 1) (q0 := 0) rfl rfl) rfl hl.1 rfl (lv_room (Nat.le_of_ble_eq_true rfl)) d_K_takeOperator_97 ⟨Nat.zero_le _, Nat.zero_le _⟩ ?_
            intro u H locs hw hP hD hS
            obtain ⟨wait_15, nest_16, skp_17, fmd_18⟩ := u
            have hP : va_P (dC, dI) vwCl (wd_K_takeOperator ad ck wait_15 held_4 nest_16 skp_17 fmd_18 dvd_8 size row start fin kind oT oC signs strs skips amts_9 plns_10) H := hP
            have hD : va_D A (wd_K_takeOperator ad ck wait_15 held_4 nest_16 skp_17 fmd_18 dvd_8 size row start fin kind oT oC signs strs skips amts_9 plns_10) := hD
            try dsimp only at hw
            refine lv_iconst (v := 0) hx hb d_K_takeOperator_100 (by decide) ?_
            exact W.zret (v := 0) hx hb hr (by decide) (fun t ht hW => ⟨⟨0, (wait_15, held_4, nest_16, skp_17, fmd_18, dvd_8, signs, strs, skips, amts_9, plns_10), rfl, hw, by rw [ht]; exact hP, va_K.moved hW.alike hK, hD⟩, hS.F ht⟩) hS.2.2 d_K_takeOperator_101
          · have hw := hwf c_14
            obtain ⟨hwt, hwf⟩ := hw
            by_cases c_19 : z0 = 58
            · have hw := hwt c_19
              refine lv_lookup (off := 46) (tgt := 108) hx hb d_K_takeOperator_62 (by decide) (by rw [c_19]; decide) (by decide) ?_
              refine lv_aload_n hx hb d_K_takeOperator_108 rfl (lv_at hl 2 rfl) ?_
              refine k_callVv (As := []) (rest := []) (fun (u : Int32 × Int32 × Int32 × (Nat → Int32) × (Nat → Int32) × (Nat → Int32)) => wd_K_takeOperator ad ck u.1 held_4 nest_5 u.2.1 u.2.2.1 dvd_8 size row start fin kind oT oC u.2.2.2.1 u.2.2.2.2.1 u.2.2.2.2.2 amts_9 plns_10) ⟨hx, hb, hml, hown, hts⟩ (kc_K_turnChoice l dC dI ad ck wait_3 held_4 nest_5 skp_6 fmd_7 dvd_8 signs strs skips (hw := hw)) (cwV 0 hts (gV tw_223 tw_225 tw_226 tw_161 tw_224) rfl rfl rfl hd_K_turnChoice ⟨Nat.le_of_ble_eq_true rfl, Nat.le_of_ble_eq_true rfl⟩) hK hP hD hS hA k_x0c trivial [0, 4, 5, 6] [1, 2, 3, 7, 8] [5, 0, 1, 2, 6, 7, 8, 3, 4] rfl rfl (by decide) (by decide) (fun _ => rfl) (va_recv hK hP (ci := 1) (q0 := 0) rfl rfl) rfl hl.1 rfl (lv_room (Nat.le_of_ble_eq_true rfl)) d_K_takeOperator_109 ⟨Nat.zero_le _, Nat.zero_le _⟩ ?_
              intro u H locs hw hP hD hS
              obtain ⟨wait_20, skp_21, fmd_22, signs_23, strs_24, skips_25⟩ := u
              have hP : va_P (dC, dI) vwCl (wd_K_takeOperator ad ck wait_20 held_4 nest_5 skp_21 fmd_22 dvd_8 size row start fin kind oT oC signs_23 strs_24 skips_25 amts_9 plns_10) H := hP
              have hD : va_D A (wd_K_takeOperator ad ck wait_20 held_4 nest_5 skp_21 fmd_22 dvd_8 size row start fin kind oT oC signs_23 strs_24 skips_25 amts_9 plns_10) := hD
              try dsimp only at hw
              refine lv_iconst (v := 1) hx hb d_K_takeOperator_112 (by decide) ?_
              exact W.zret (v := 1) hx hb hr (by decide) (fun t ht hW => ⟨⟨1, (wait_20, held_4, nest_5, skp_21, fmd_22, dvd_8, signs_23, strs_24, skips_25, amts_9, plns_10), rfl, hw, by rw [ht]; exact hP, va_K.moved hW.alike hK, hD⟩, hS.F ht⟩) hS.2.2 d_K_takeOperator_113
            · have hw := hwf c_19
              obtain ⟨hwt, hwf⟩ := hw
              by_cases c_26 : z0 = 63
              · have hw := hwt c_26
                refine lv_lookup (off := 40) (tgt := 102) hx hb d_K_takeOperator_62 (by decide) (by rw [c_26]; decide) (by decide) ?_
                refine lv_aload_n hx hb d_K_takeOperator_102 rfl (lv_at hl 2 rfl) ?_
                refine k_callVv (As := []) (rest := []) (fun (u : Int32 × Int32 × Int32 × Int32 × Int32 × (Nat → Int32) × (Nat → Int32) × (Nat → Int32)) => wd_K_takeOperator ad ck u.1 u.2.1 u.2.2.1 u.2.2.2.1 u.2.2.2.2.1 dvd_8 size row start fin kind oT oC u.2.2.2.2.2.1 u.2.2.2.2.2.2.1 u.2.2.2.2.2.2.2 amts_9 plns_10) ⟨hx, hb, hml, hown, hts⟩ (kc_K_beginChoice l dC dI ad ck wait_3 held_4 nest_5 skp_6 fmd_7 dvd_8 signs strs skips amts_9 (hw := hw)) (cwV 0 hts (gV tw_227 tw_229 tw_230 tw_161 tw_228) rfl rfl rfl hd_K_beginChoice ⟨Nat.le_of_ble_eq_true rfl, Nat.le_of_ble_eq_true rfl⟩) hK hP hD hS hA k_x0c trivial [0, 4, 5, 6, 7] [1, 2, 3, 8] [4, 0, 1, 2, 5, 6, 7, 8, 3] rfl rfl (by decide) (by decide) (fun _ => rfl) (va_recv hK hP (ci := 1) (q0 := 0) rfl rfl) rfl hl.1 rfl (lv_room (Nat.le_of_ble_eq_true rfl)) d_K_takeOperator_103 ⟨Nat.zero_le _, Nat.zero_le _⟩ ?_
                intro u H locs hw hP hD hS
                obtain ⟨wait_27, held_28, nest_29, skp_30, fmd_31, signs_32, strs_33, skips_34⟩ := u
                have hP : va_P (dC, dI) vwCl (wd_K_takeOperator ad ck wait_27 held_28 nest_29 skp_30 fmd_31 dvd_8 size row start fin kind oT oC signs_32 strs_33 skips_34 amts_9 plns_10) H := hP
                have hD : va_D A (wd_K_takeOperator ad ck wait_27 held_28 nest_29 skp_30 fmd_31 dvd_8 size row start fin kind oT oC signs_32 strs_33 skips_34 amts_9 plns_10) := hD
                try dsimp only at hw
                refine lv_iconst (v := 1) hx hb d_K_takeOperator_106 (by decide) ?_
                exact W.zret (v := 1) hx hb hr (by decide) (fun t ht hW => ⟨⟨1, (wait_27, held_28, nest_29, skp_30, fmd_31, dvd_8, signs_32, strs_33, skips_34, amts_9, plns_10), rfl, hw, by rw [ht]; exact hP, va_K.moved hW.alike hK, hD⟩, hS.F ht⟩) hS.2.2 d_K_takeOperator_107
              · have hw := hwf c_26
                refine lv_lookup (off := 52) (tgt := 114) hx hb d_K_takeOperator_62 (by decide) (by show Op.lookupswitch.offset _ _ _ = _; rw [lv_osw c_14 (show (41 : Int32).toInt = 41 from rfl), lv_osw c_19 (show (58 : Int32).toInt = 58 from rfl), lv_osw c_26 (show (63 : Int32).toInt = 63 from rfl)]; rfl) (by decide) ?_
                refine lv_aload_n hx hb d_K_takeOperator_114 rfl (lv_at hl 2 rfl) ?_
                refine lv_iload_n hx hb d_K_takeOperator_115 rfl (lv_at hl 1 rfl) ?_
                refine lv_iload_n hx hb d_K_takeOperator_116 rfl (lv_at hl 0 rfl) ?_
                refine lv_aload_n hx hb d_K_takeOperator_117 rfl (lv_at hl 2 rfl) ?_
                refine lv_iload_n hx hb d_K_takeOperator_118 rfl (lv_at hl 1 rfl) ?_
                refine k_callVi (As := [.int z0]) (rest := [.int r_2, .int z0, .ref (ad 5)]) (fun (u : Unit) => wd_K_takeOperator ad ck wait_3 held_4 nest_5 skp_6 fmd_7 dvd_8 size row start fin kind oT oC signs strs skips amts_9 plns_10) ⟨hx, hb, hml, hown, hts⟩ (kc_K_skipsRight l dC dI ad ck wait_3 held_4 nest_5 skp_6 fmd_7 dvd_8 amts_9 z0 (hw := hw)) (cwV 1 hts (gV tw_231 tw_233 tw_234 tw_161 tw_232) rfl rfl rfl hd_K_skipsRight ⟨Nat.le_of_ble_eq_true rfl, Nat.le_of_ble_eq_true rfl⟩) hK hP hD hS hA k_x0c trivial [0, 7] [1, 2, 3, 4, 5, 6, 8] [7, 0, 1, 2, 3, 4, 5, 8, 6] rfl rfl (by decide) (by decide) (fun _ => rfl) (va_recv hK hP (ci := 1) (q0 := 0) rfl rfl) rfl hl.1 rfl (lv_room (Nat.le_of_ble_eq_true rfl)) d_K_takeOperator_119 ⟨Nat.zero_le _, Nat.zero_le _⟩ ?_
                intro r_35 u H locs hw hP hD hS
                have hP : va_P (dC, dI) vwCl (wd_K_takeOperator ad ck wait_3 held_4 nest_5 skp_6 fmd_7 dvd_8 size row start fin kind oT oC signs strs skips amts_9 plns_10) H := hP
                have hD : va_D A (wd_K_takeOperator ad ck wait_3 held_4 nest_5 skp_6 fmd_7 dvd_8 size row start fin kind oT oC signs strs skips amts_9 plns_10) := hD
                try dsimp only at hw
                refine k_callVv (As := [.int z0, .int r_2, .int r_35]) (rest := []) (fun (u : Int32 × Int32 × Int32 × (Nat → Int32) × (Nat → Int32) × (Nat → Int32)) => wd_K_takeOperator ad ck u.1 held_4 nest_5 u.2.1 u.2.2.1 dvd_8 size row start fin kind oT oC u.2.2.2.1 u.2.2.2.2.1 u.2.2.2.2.2 amts_9 plns_10) ⟨hx, hb, hml, hown, hts⟩ (kc_K_await l dC dI ad ck wait_3 held_4 nest_5 skp_6 fmd_7 dvd_8 signs strs skips z0 r_2 r_35 (hw := hw)) (cwV 3 hts (gV tw_164 tw_166 tw_167 tw_161 tw_165) rfl rfl rfl hd_K_await ⟨Nat.le_of_ble_eq_true rfl, Nat.le_of_ble_eq_true rfl⟩) hK hP hD hS hA k_x0c trivial [0, 4, 5, 6] [1, 2, 3, 7, 8] [5, 0, 1, 2, 6, 7, 8, 3, 4] rfl rfl (by decide) (by decide) (fun _ => rfl) (va_recv hK hP (ci := 1) (q0 := 0) rfl rfl) rfl hl.1 rfl (lv_room (Nat.le_of_ble_eq_true rfl)) d_K_takeOperator_122 ⟨Nat.zero_le _, Nat.zero_le _⟩ ?_
                intro u H locs hw hP hD hS
                obtain ⟨wait_36, skp_37, fmd_38, signs_39, strs_40, skips_41⟩ := u
                have hP : va_P (dC, dI) vwCl (wd_K_takeOperator ad ck wait_36 held_4 nest_5 skp_37 fmd_38 dvd_8 size row start fin kind oT oC signs_39 strs_40 skips_41 amts_9 plns_10) H := hP
                have hD : va_D A (wd_K_takeOperator ad ck wait_36 held_4 nest_5 skp_37 fmd_38 dvd_8 size row start fin kind oT oC signs_39 strs_40 skips_41 amts_9 plns_10) := hD
                try dsimp only at hw
                refine lv_iconst (v := 1) hx hb d_K_takeOperator_125 (by decide) ?_
                exact W.zret (v := 1) hx hb hr (by decide) (fun t ht hW => ⟨⟨1, (wait_36, held_4, nest_5, skp_37, fmd_38, dvd_8, signs_39, strs_40, skips_41, amts_9, plns_10), rfl, hw, by rw [ht]; exact hP, va_K.moved hW.alike hK, hD⟩, hS.F ht⟩) hS.2.2 d_K_takeOperator_126
        · have hw := hwt c_13
          refine lv_aload_n hx hb d_K_takeOperator_54 rfl (lv_at hl 2 rfl) ?_
          refine lv_iconst (v := 0) hx hb d_K_takeOperator_55 (by decide) ?_
          refine va_put (D := (dC, dI)) (ci := 1) (v := .int 0) (ty := .boolean) (C := R_K) (T := T_K) (N := 13) hx hb hts in_K ty_K ty_K_ok nm_K hown hK hP hD hS 0 rfl rfl 11 (by decide) (hts _ tw_144) (fun _ h9 => h9) rfl (by decide +kernel) (by decide) (by decide) (Nat.le_of_ble_eq_true rfl) d_K_takeOperator_56 (fun H locs hP hD hS => ?_)
          have hP : va_P (dC, dI) vwCl (wd_K_takeOperator ad ck wait_3 held_4 nest_5 skp_6 0 dvd_8 size row start fin kind oT oC signs strs skips amts_9 plns_10) H := hP
          have hD : va_D A (wd_K_takeOperator ad ck wait_3 held_4 nest_5 skp_6 0 dvd_8 size row start fin kind oT oC signs strs skips amts_9 plns_10) := hD
          refine lv_iconst (v := 1) hx hb d_K_takeOperator_59 (by decide) ?_
          exact W.zret (v := 1) hx hb hr (by decide) (fun t ht hW => ⟨⟨1, (wait_3, held_4, nest_5, skp_6, 0, dvd_8, signs, strs, skips, amts_9, plns_10), rfl, hw, by rw [ht]; exact hP, va_K.moved hW.alike hK, hD⟩, hS.F ht⟩) hS.2.2 d_K_takeOperator_60
  refine lv_aload_n hx hb d_K_takeOperator_0 rfl (lv_at hl 0 rfl) ?_
  refine va_get (D := (dC, dI)) (ci := 1) (v := .ref (ad 3)) (C := R_K) (T := T_K) (N := 13) hx hb hts in_K hown hK hP 0 rfl rfl 0 (by decide) (hts _ tw_153) (fun _ h9 => h9) rfl d_K_takeOperator_1 ?_
  refine va_getN (D := (dC, dI)) (ci := 3) (v := .int kind) (C := R_W) (T := T_W) (N := 6) hx hb hts in_W hown hK hP 3 rfl rfl 3 (by decide) (va_Nw.use rfl (hX.2.2.2 _ nw_1)) (fun _ h9 => h9) rfl d_K_takeOperator_4 ?_
  refine lv_iconst (v := 5) hx hb d_K_takeOperator_7 (by decide) ?_
  obtain ⟨hwt, hwf⟩ := hw
  refine lv_icmp_ne (tgt := 21) hx hb d_K_takeOperator_8 (by decide) (fun c_1 => ?_) (fun c_1 => ?_)
  · have hw := hwf c_1
    refine lv_iconst (v := 0) hx hb d_K_takeOperator_21 (by decide) ?_
    exact L_22 0 wait held nest skp fmd dvd size row start fin kind oT oC signs strs skips amts plns _ _ _ hw hP hD hS (lv_sub hl [0] rfl)
  · have hw := hwt c_1
    refine lv_aload_n hx hb d_K_takeOperator_11 rfl (lv_at hl 0 rfl) ?_
    refine va_get (D := (dC, dI)) (ci := 1) (v := .ref (ad 3)) (C := R_K) (T := T_K) (N := 13) hx hb hts in_K hown hK hP 0 rfl rfl 0 (by decide) (hts _ tw_153) (fun _ h9 => h9) rfl d_K_takeOperator_12 ?_
    refine k_callVi (As := []) (rest := []) (fun (u : Unit) => wd_K_takeOperator ad ck wait held nest skp fmd dvd size row start fin kind oT oC signs strs skips amts plns) ⟨hx, hb, hml, hown, hts⟩ (kc_W_signCode l dC dI ad ck start fin kind oT oC size row (hw := hw)) (cwV 0 hts (gV tw_204 tw_206 tw_207 tw_6 tw_205) rfl rfl rfl hd_W_signCode ⟨Nat.le_of_ble_eq_true rfl, Nat.le_of_ble_eq_true rfl⟩) hK hP hD hS hA k_x0c trivial [3, 1, 2] [0, 4, 5, 6, 7, 8] [0, 7, 8, 6, 1, 2, 3, 4, 5] rfl rfl (by decide) (by decide) (fun _ => rfl) (va_recv hK hP (ci := 3) (q0 := 3) rfl rfl) rfl hl.1 rfl (lv_room (Nat.le_of_ble_eq_true rfl)) d_K_takeOperator_15 ⟨Nat.zero_le _, Nat.zero_le _⟩ ?_
    intro r_42 u H locs hw hP hD hS
    have hP : va_P (dC, dI) vwCl (wd_K_takeOperator ad ck wait held nest skp fmd dvd size row start fin kind oT oC signs strs skips amts plns) H := hP
    have hD : va_D A (wd_K_takeOperator ad ck wait held nest skp fmd dvd size row start fin kind oT oC signs strs skips amts plns) := hD
    try dsimp only at hw
    refine lv_goto (tgt := 22) hx hb d_K_takeOperator_18 (by decide) ?_
    exact L_22 r_42 wait held nest skp fmd dvd size row start fin kind oT oC signs strs skips amts plns _ _ _ hw hP hD hS (lv_sub hl [0] rfl)

abbrev wd_K_run (ad : Nat → Nat) (ck : Nat → ClassId) (wait : Int32) (held : Int32) (nest : Int32) (skp : Int32) (fmd : Int32) (dvd : Int32) (size : Int32) (row : Nat → Int32) (start : Int32) (fin : Int32) (kind : Int32) (oT : Int32) (oC : Int32) (amt : Int64) (pln : Int32) (signs : Nat → Int32) (strs : Nat → Int32) (skips : Nat → Int32) (amts : Nat → Int64) (plns : Nat → Int32) : va_W := [(ad 5, .inr (1, [.ref (ad 3), .ref (ad 4), .ref (ad 6), .ref (ad 7), .ref (ad 8), .ref (ad 9), .ref (ad 10), .int wait, .int held, .int nest, .int skp, .int fmd, .int dvd])), (ad 1, .inr (2, [.ref (ad 2), .int size])), (ad 2, .inl (ck 0, 4096, .inl row)), (ad 3, .inr (3, [.ref (ad 1), .int start, .int fin, .int kind, .int oT, .int oC])), (ad 4, .inr (0, [.ref (ad 1), .long amt, .int pln])), (ad 6, .inl (ck 1, 670, .inl signs)), (ad 7, .inl (ck 2, 670, .inl strs)), (ad 8, .inl (ck 3, 670, .inl skips)), (ad 9, .inl (ck 4, 671, .inr (.inl amts))), (ad 10, .inl (ck 5, 671, .inl plns))]
def w_K_run_54 (post : Int32 → Int32 → Int32 → Int32 → Int32 → Int32 → Int64 → Int32 → Int32 → Int32 → Int32 → Int32 → Int32 → Int32 → (Nat → Int32) → (Nat → Int32) → (Nat → Int32) → (Nat → Int64) → (Nat → Int32) → Prop) (x1 : Int32) (wait : Int32) (held : Int32) (nest : Int32) (skp : Int32) (fmd : Int32) (dvd : Int32) (size : Int32) (row : Nat → Int32) (start : Int32) (fin : Int32) (kind : Int32) (oT : Int32) (oC : Int32) (amt : Int64) (pln : Int32) (signs : Nat → Int32) (strs : Nat → Int32) (skips : Nat → Int32) (amts : Nat → Int64) (plns : Nat → Int32) : Prop := (fmd = 0 → (post 11 start fin kind oT oC amt pln wait held nest skp fmd dvd signs strs skips amts plns)) ∧ (¬ fmd = 0 → ((x1 = 0 → (wp_K_finishDownTo (fun (wait_15 : Int32) (held_16 : Int32) (nest_17 : Int32) (skp_18 : Int32) (fmd_19 : Int32) (dvd_20 : Int32) (amts_21 : Nat → Int64) (plns_22 : Nat → Int32) => (fmd_19 = 0 → (post 11 start fin kind oT oC amt pln wait_15 held_16 nest_17 skp_18 fmd_19 dvd_20 signs strs skips amts_21 plns_22)) ∧ (¬ fmd_19 = 0 → ((wait_15 = 0 → ((held_16 = 1 → ((dvd_20 = 0 → (post 0 start fin kind oT oC amt pln wait_15 held_16 nest_17 skp_18 fmd_19 dvd_20 signs strs skips amts_21 plns_22)) ∧ (¬ dvd_20 = 0 → (post 12 start fin kind oT oC amt pln wait_15 held_16 nest_17 skp_18 fmd_19 dvd_20 signs strs skips amts_21 plns_22)))) ∧ (¬ held_16 = 1 → (post 11 start fin kind oT oC amt pln wait_15 held_16 nest_17 skp_18 fmd_19 dvd_20 signs strs skips amts_21 plns_22)))) ∧ (¬ wait_15 = 0 → (post 11 start fin kind oT oC amt pln wait_15 held_16 nest_17 skp_18 fmd_19 dvd_20 signs strs skips amts_21 plns_22))))) wait held nest skp fmd dvd signs strs skips amts plns 0)) ∧ (¬ x1 = 0 → (post 11 start fin kind oT oC amt pln wait held nest skp fmd dvd signs strs skips amts plns))))
def w_K_run_8 (post : Int32 → Int32 → Int32 → Int32 → Int32 → Int32 → Int64 → Int32 → Int32 → Int32 → Int32 → Int32 → Int32 → Int32 → (Nat → Int32) → (Nat → Int32) → (Nat → Int32) → (Nat → Int64) → (Nat → Int32) → Prop) (size : Int32) (row : Nat → Int32) : Nat → Int32 → Int32 → Int32 → Int32 → Int32 → Int32 → Int32 → Int32 → Int32 → Int32 → Int32 → Int32 → Int32 → Int64 → Int32 → (Nat → Int32) → (Nat → Int32) → (Nat → Int32) → (Nat → Int64) → (Nat → Int32) → Prop
  | 0 => fun _ _ _ _ _ _ _ _ _ _ _ _ _ _ _ _ _ _ _ _ => False
  | n + 1 => fun x1 x2 wait held nest skp fmd dvd start fin kind oT oC amt pln signs strs skips amts plns => (4096 ≤ x2 → (w_K_run_54 post x1 wait held nest skp fmd dvd size row start fin kind oT oC amt pln signs strs skips amts plns)) ∧ (¬ 4096 ≤ x2 → ((fmd = 0 → (w_K_run_54 post x1 wait held nest skp fmd dvd size row start fin kind oT oC amt pln signs strs skips amts plns)) ∧ (¬ fmd = 0 → (wp_W_step (fun (r_28 : Int32) (start_29 : Int32) (fin_30 : Int32) (kind_31 : Int32) (oT_32 : Int32) (oC_33 : Int32) => (r_28 = 0 → (w_K_run_54 post x1 wait held nest skp fmd dvd size row start_29 fin_30 kind_31 oT_32 oC_33 amt pln signs strs skips amts plns)) ∧ (¬ r_28 = 0 → ((x1 = 0 → (wp_K_takeOperator (fun (r_36 : Int32) (wait_37 : Int32) (held_38 : Int32) (nest_39 : Int32) (skp_40 : Int32) (fmd_41 : Int32) (dvd_42 : Int32) (signs_43 : Nat → Int32) (strs_44 : Nat → Int32) (skips_45 : Nat → Int32) (amts_46 : Nat → Int64) (plns_47 : Nat → Int32) => ∀ x2_48 : Int32, x2_48 = x2 + 1 → (w_K_run_8 post size row n r_36 x2_48 wait_37 held_38 nest_39 skp_40 fmd_41 dvd_42 start_29 fin_30 kind_31 oT_32 oC_33 amt pln signs_43 strs_44 skips_45 amts_46 plns_47)) wait held nest skp fmd dvd size row start_29 fin_30 kind_31 oT_32 oC_33 signs strs skips amts plns)) ∧ (¬ x1 = 0 → (wp_K_takeOperand (fun (r_49 : Int32) (amt_50 : Int64) (pln_51 : Int32) (wait_52 : Int32) (held_53 : Int32) (nest_54 : Int32) (skp_55 : Int32) (fmd_56 : Int32) (signs_57 : Nat → Int32) (strs_58 : Nat → Int32) (skips_59 : Nat → Int32) (amts_60 : Nat → Int64) (plns_61 : Nat → Int32) => ∀ x2_62 : Int32, x2_62 = x2 + 1 → (w_K_run_8 post size row n r_49 x2_62 wait_52 held_53 nest_54 skp_55 fmd_56 dvd start_29 fin_30 kind_31 oT_32 oC_33 amt_50 pln_51 signs_57 strs_58 skips_59 amts_60 plns_61)) wait held nest skp fmd dvd size row start_29 fin_30 kind_31 oT_32 oC_33 amt pln signs strs skips amts plns))))) start fin kind oT oC size row))))
def wp_K_run (post : Int32 → Int32 → Int32 → Int32 → Int32 → Int32 → Int64 → Int32 → Int32 → Int32 → Int32 → Int32 → Int32 → Int32 → (Nat → Int32) → (Nat → Int32) → (Nat → Int32) → (Nat → Int64) → (Nat → Int32) → Prop) (wait : Int32) (held : Int32) (nest : Int32) (skp : Int32) (fmd : Int32) (dvd : Int32) (size : Int32) (row : Nat → Int32) (start : Int32) (fin : Int32) (kind : Int32) (oT : Int32) (oC : Int32) (amt : Int64) (pln : Int32) (signs : Nat → Int32) (strs : Nat → Int32) (skips : Nat → Int32) (amts : Nat → Int64) (plns : Nat → Int32)  : Prop := wp_K_clear (fun (start_1 : Int32) (fin_2 : Int32) (kind_3 : Int32) (oT_4 : Int32) (oC_5 : Int32) (wait_6 : Int32) (held_7 : Int32) (nest_8 : Int32) (skp_9 : Int32) (fmd_10 : Int32) (dvd_11 : Int32) => ∃ fu8 : Nat, w_K_run_8 post size row fu8 1 0 wait_6 held_7 nest_8 skp_9 fmd_10 dvd_11 start_1 fin_2 kind_3 oT_4 oC_5 amt pln signs strs skips amts plns) wait held nest skp fmd dvd start fin kind oT oC
set_option maxHeartbeats 4000000 in
set_option maxRecDepth 100000 in
theorem kc_K_run (l : Launch) (dC : Nat → ClassId) (dI : Nat → Nat → Nat) (ad : Nat → Nat) (ck : Nat → ClassId) (sk : Nat → Nat) (wait : Int32) (held : Int32) (nest : Int32) (skp : Int32) (fmd : Int32) (dvd : Int32) (size : Int32) (row : Nat → Int32) (start : Int32) (fin : Int32) (kind : Int32) (oT : Int32) (oC : Int32) (amt : Int64) (pln : Int32) (signs : Nat → Int32) (strs : Nat → Int32) (skips : Nat → Int32) (amts : Nat → Int64) (plns : Nat → Int32)  {post : Int32 → Int32 → Int32 → Int32 → Int32 → Int32 → Int64 → Int32 → Int32 → Int32 → Int32 → Int32 → Int32 → Int32 → (Nat → Int32) → (Nat → Int32) → (Nat → Int32) → (Nat → Int64) → (Nat → Int32) → Prop} (hw : wp_K_run post wait held nest skp fmd dvd size row start fin kind oT oC amt pln signs strs skips amts plns ) : k_Ci l y_K_run ws_K_run ({ frames := 6, cells := 0, slots := 0, locals := 135 } : Room) (dC, dI) vwCl (TYm ck) (XM sk) [.ref (ad 5)] (wd_K_run ad ck wait held nest skp fmd dvd size row start fin kind oT oC amt pln signs strs skips amts plns) (fun (r : Int32) (u : Int32 × Int32 × Int32 × Int32 × Int32 × Int64 × Int32 × Int32 × Int32 × Int32 × Int32 × Int32 × Int32 × (Nat → Int32) × (Nat → Int32) × (Nat → Int32) × (Nat → Int64) × (Nat → Int32)) => post r u.1 u.2.1 u.2.2.1 u.2.2.2.1 u.2.2.2.2.1 u.2.2.2.2.2.1 u.2.2.2.2.2.2.1 u.2.2.2.2.2.2.2.1 u.2.2.2.2.2.2.2.2.1 u.2.2.2.2.2.2.2.2.2.1 u.2.2.2.2.2.2.2.2.2.2.1 u.2.2.2.2.2.2.2.2.2.2.2.1 u.2.2.2.2.2.2.2.2.2.2.2.2.1 u.2.2.2.2.2.2.2.2.2.2.2.2.2.1 u.2.2.2.2.2.2.2.2.2.2.2.2.2.2.1 u.2.2.2.2.2.2.2.2.2.2.2.2.2.2.2.1 u.2.2.2.2.2.2.2.2.2.2.2.2.2.2.2.2.1 u.2.2.2.2.2.2.2.2.2.2.2.2.2.2.2.2.2) (fun (u : Int32 × Int32 × Int32 × Int32 × Int32 × Int64 × Int32 × Int32 × Int32 × Int32 × Int32 × Int32 × Int32 × (Nat → Int32) × (Nat → Int32) × (Nat → Int32) × (Nat → Int64) × (Nat → Int32)) => wd_K_run ad ck u.2.2.2.2.2.2.2.1 u.2.2.2.2.2.2.2.2.1 u.2.2.2.2.2.2.2.2.2.1 u.2.2.2.2.2.2.2.2.2.2.1 u.2.2.2.2.2.2.2.2.2.2.2.1 u.2.2.2.2.2.2.2.2.2.2.2.2.1 size row u.1 u.2.1 u.2.2.1 u.2.2.2.1 u.2.2.2.2.1 u.2.2.2.2.2.1 u.2.2.2.2.2.2.1 u.2.2.2.2.2.2.2.2.2.2.2.2.2.1 u.2.2.2.2.2.2.2.2.2.2.2.2.2.2.1 u.2.2.2.2.2.2.2.2.2.2.2.2.2.2.2.1 u.2.2.2.2.2.2.2.2.2.2.2.2.2.2.2.2.1 u.2.2.2.2.2.2.2.2.2.2.2.2.2.2.2.2.2) := by
  intro sz
  refine Met.ofW (cc := c_K_run) (maxL := 3) (ret := (some .int)) (by decide) rfl ?_
  intro p e s m args below meth c s₁ B hml hv
  obtain ⟨rfl, hsz, hP, hK, hD0, hX⟩ := hv
  have hx := B.exec
  have hb := B.bytes
  have hr := B.returns
  have hts : ∀ w ∈ TB, w.before _ s = true := fun w h => atoms_spec (ws := ws_K_run) B.pre w (List.mem_cons_of_mem _ h)
  have hown : s.vm.findClass R_K = some m.cls := findClass_of_methodNamed B.named
  have hlocks := B.notSynchronized
  subst hsz
  have hD := hD0.self (sz := s.heap.size)
  generalize hAe : va_A (wd_K_run ad ck wait held nest skp fmd dvd size row start fin kind oT oC amt pln signs strs skips amts plns) s.heap.size = A at hD hX ⊢
  have hA : ∀ q : Nat, s.heap.size ≤ q → A q := fun q h => by rw [← hAe]; exact Or.inr h
  have hS : va_S A s.heap s.heap [] := va_S.rf
  have hP : va_P (dC, dI) vwCl (wd_K_run ad ck wait held nest skp fmd dvd size row start fin kind oT oC amt pln signs strs skips amts plns) s.heap := hP
  have hl := lv_entry ([.ref (ad 5)]) (n := 3) (Nat.le_of_ble_eq_true rfl)
  rw [lg_entry_eq]
  generalize (lg_sl ([.ref (ad 5)]) ++ List.replicate (3 - (lg_sl ([.ref (ad 5)])).length) Slot.unset).toArray = ls at hl ⊢
  have hl : lv_has ls 3 [(0, .ref (ad 5))] := hl
  have L_54 : ∀ (x1 : Int32) (wait : Int32) (held : Int32) (nest : Int32) (skp : Int32) (fmd : Int32) (dvd : Int32) (size : Int32) (row : Nat → Int32) (start : Int32) (fin : Int32) (kind : Int32) (oT : Int32) (oC : Int32) (amt : Int64) (pln : Int32) (signs : Nat → Int32) (strs : Nat → Int32) (skips : Nat → Int32) (amts : Nat → Int64) (plns : Nat → Int32) (H : Heap) (locs : List Loc) (ls : Array Slot), w_K_run_54 post x1 wait held nest skp fmd dvd size row start fin kind oT oC amt pln signs strs skips amts plns → va_P (dC, dI) vwCl (wd_K_run ad ck wait held nest skp fmd dvd size row start fin kind oT oC amt pln signs strs skips amts plns) H → va_D A (wd_K_run ad ck wait held nest skp fmd dvd size row start fin kind oT oC amt pln signs strs skips amts plns) → va_S A s.heap H locs → lv_has ls 3 [(0, .ref (ad 5)), (1, .int x1)] → W p l e (headSpec ws_K_run ({ frames := 6, cells := 0, slots := 0, locals := 135 } : Room)).room s m ([.ref (ad 5)] : List Value).toArray below meth c H locs 0 0 (k_Qi below (dC, dI) vwCl (TYm ck) A (fun (r : Int32) (u : Int32 × Int32 × Int32 × Int32 × Int32 × Int64 × Int32 × Int32 × Int32 × Int32 × Int32 × Int32 × Int32 × (Nat → Int32) × (Nat → Int32) × (Nat → Int32) × (Nat → Int64) × (Nat → Int32)) => post r u.1 u.2.1 u.2.2.1 u.2.2.2.1 u.2.2.2.2.1 u.2.2.2.2.2.1 u.2.2.2.2.2.2.1 u.2.2.2.2.2.2.2.1 u.2.2.2.2.2.2.2.2.1 u.2.2.2.2.2.2.2.2.2.1 u.2.2.2.2.2.2.2.2.2.2.1 u.2.2.2.2.2.2.2.2.2.2.2.1 u.2.2.2.2.2.2.2.2.2.2.2.2.1 u.2.2.2.2.2.2.2.2.2.2.2.2.2.1 u.2.2.2.2.2.2.2.2.2.2.2.2.2.2.1 u.2.2.2.2.2.2.2.2.2.2.2.2.2.2.2.1 u.2.2.2.2.2.2.2.2.2.2.2.2.2.2.2.2.1 u.2.2.2.2.2.2.2.2.2.2.2.2.2.2.2.2.2) (fun (u : Int32 × Int32 × Int32 × Int32 × Int32 × Int64 × Int32 × Int32 × Int32 × Int32 × Int32 × Int32 × Int32 × (Nat → Int32) × (Nat → Int32) × (Nat → Int32) × (Nat → Int64) × (Nat → Int32)) => wd_K_run ad ck u.2.2.2.2.2.2.2.1 u.2.2.2.2.2.2.2.2.1 u.2.2.2.2.2.2.2.2.2.1 u.2.2.2.2.2.2.2.2.2.2.1 u.2.2.2.2.2.2.2.2.2.2.2.1 u.2.2.2.2.2.2.2.2.2.2.2.2.1 size row u.1 u.2.1 u.2.2.1 u.2.2.2.1 u.2.2.2.2.1 u.2.2.2.2.2.1 u.2.2.2.2.2.2.1 u.2.2.2.2.2.2.2.2.2.2.2.2.2.1 u.2.2.2.2.2.2.2.2.2.2.2.2.2.2.1 u.2.2.2.2.2.2.2.2.2.2.2.2.2.2.2.1 u.2.2.2.2.2.2.2.2.2.2.2.2.2.2.2.2.1 u.2.2.2.2.2.2.2.2.2.2.2.2.2.2.2.2.2) ([.ref (ad 5)] : List Value).toArray s) (F0 m 54 ls []) := by
    intro x1 wait held nest skp fmd dvd size row start fin kind oT oC amt pln signs strs skips amts plns H locs ls hw hP hD hS hl
    refine lv_aload_n hx hb d_K_run_54 rfl (lv_at hl 0 rfl) ?_
    refine va_get (D := (dC, dI)) (ci := 1) (v := .int fmd) (C := R_K) (T := T_K) (N := 13) hx hb hts in_K hown hK hP 0 rfl rfl 11 (by decide) (hts _ tw_144) (fun _ h9 => h9) rfl d_K_run_55 ?_
    obtain ⟨hwt, hwf⟩ := hw
    refine lv_if_eq (tgt := 65) hx hb d_K_run_58 (by decide) (fun c_13 => ?_) (fun c_13 => ?_)
    · have hw := hwt c_13
      refine lv_bipush (v := 11) hx hb d_K_run_65 (by decide) ?_
      exact W.iret (v := 11) hx hb hr (fun t ht hW => ⟨⟨11, (start, fin, kind, oT, oC, amt, pln, wait, held, nest, skp, fmd, dvd, signs, strs, skips, amts, plns), rfl, hw, by rw [ht]; exact hP, va_K.moved hW.alike hK, hD⟩, hS.F ht⟩) hS.2.2 d_K_run_67
    · have hw := hwf c_13
      refine lv_iload_n hx hb d_K_run_61 rfl (lv_at hl 1 rfl) ?_
      obtain ⟨hwt, hwf⟩ := hw
      refine lv_if_eq (tgt := 68) hx hb d_K_run_62 (by decide) (fun c_14 => ?_) (fun c_14 => ?_)
      · have hw := hwt c_14
        refine lv_aload_n hx hb d_K_run_68 rfl (lv_at hl 0 rfl) ?_
        refine lv_iconst (v := 0) hx hb d_K_run_69 (by decide) ?_
        refine k_callVv (As := [.int 0]) (rest := []) (fun (u : Int32 × Int32 × Int32 × Int32 × Int32 × Int32 × (Nat → Int64) × (Nat → Int32)) => wd_K_run ad ck u.1 u.2.1 u.2.2.1 u.2.2.2.1 u.2.2.2.2.1 u.2.2.2.2.2.1 size row start fin kind oT oC amt pln signs strs skips u.2.2.2.2.2.2.1 u.2.2.2.2.2.2.2) ⟨hx, hb, hml, hown, hts⟩ (kc_K_finishDownTo l dC dI ad ck wait held nest skp fmd dvd signs strs skips amts plns 0 (hw := hw)) (cwV 1 hts (gV tw_215 tw_217 tw_218 tw_161 tw_216) rfl rfl rfl hd_K_finishDownTo ⟨Nat.le_of_ble_eq_true rfl, Nat.le_of_ble_eq_true rfl⟩) hK hP hD hS hA k_x0c trivial [0, 5, 6, 7, 8, 9] [1, 2, 3, 4] [4, 0, 1, 2, 3, 5, 6, 7, 8, 9] rfl rfl (by decide) (by decide) (fun _ => rfl) (va_recv hK hP (ci := 1) (q0 := 0) rfl rfl) rfl hl.1 rfl (lv_room (Nat.le_of_ble_eq_true rfl)) d_K_run_70 ⟨Nat.zero_le _, Nat.zero_le _⟩ ?_
        intro u H locs hw hP hD hS
        obtain ⟨wait_15, held_16, nest_17, skp_18, fmd_19, dvd_20, amts_21, plns_22⟩ := u
        have hP : va_P (dC, dI) vwCl (wd_K_run ad ck wait_15 held_16 nest_17 skp_18 fmd_19 dvd_20 size row start fin kind oT oC amt pln signs strs skips amts_21 plns_22) H := hP
        have hD : va_D A (wd_K_run ad ck wait_15 held_16 nest_17 skp_18 fmd_19 dvd_20 size row start fin kind oT oC amt pln signs strs skips amts_21 plns_22) := hD
        try dsimp only at hw
        refine lv_aload_n hx hb d_K_run_73 rfl (lv_at hl 0 rfl) ?_
        refine va_get (D := (dC, dI)) (ci := 1) (v := .int fmd_19) (C := R_K) (T := T_K) (N := 13) hx hb hts in_K hown hK hP 0 rfl rfl 11 (by decide) (hts _ tw_144) (fun _ h9 => h9) rfl d_K_run_74 ?_
        obtain ⟨hwt, hwf⟩ := hw
        refine lv_if_eq (tgt := 95) hx hb d_K_run_77 (by decide) (fun c_23 => ?_) (fun c_23 => ?_)
        · have hw := hwt c_23
          refine lv_bipush (v := 11) hx hb d_K_run_95 (by decide) ?_
          exact W.iret (v := 11) hx hb hr (fun t ht hW => ⟨⟨11, (start, fin, kind, oT, oC, amt, pln, wait_15, held_16, nest_17, skp_18, fmd_19, dvd_20, signs, strs, skips, amts_21, plns_22), rfl, hw, by rw [ht]; exact hP, va_K.moved hW.alike hK, hD⟩, hS.F ht⟩) hS.2.2 d_K_run_97
        · have hw := hwf c_23
          refine lv_aload_n hx hb d_K_run_80 rfl (lv_at hl 0 rfl) ?_
          refine va_get (D := (dC, dI)) (ci := 1) (v := .int wait_15) (C := R_K) (T := T_K) (N := 13) hx hb hts in_K hown hK hP 0 rfl rfl 7 (by decide) (hts _ tw_148) (fun _ h9 => h9) rfl d_K_run_81 ?_
          obtain ⟨hwt, hwf⟩ := hw
          refine lv_if_ne (tgt := 95) hx hb d_K_run_84 (by decide) (fun c_24 => ?_) (fun c_24 => ?_)
          · have hw := hwf c_24
            refine lv_bipush (v := 11) hx hb d_K_run_95 (by decide) ?_
            exact W.iret (v := 11) hx hb hr (fun t ht hW => ⟨⟨11, (start, fin, kind, oT, oC, amt, pln, wait_15, held_16, nest_17, skp_18, fmd_19, dvd_20, signs, strs, skips, amts_21, plns_22), rfl, hw, by rw [ht]; exact hP, va_K.moved hW.alike hK, hD⟩, hS.F ht⟩) hS.2.2 d_K_run_97
          · have hw := hwt c_24
            refine lv_aload_n hx hb d_K_run_87 rfl (lv_at hl 0 rfl) ?_
            refine va_get (D := (dC, dI)) (ci := 1) (v := .int held_16) (C := R_K) (T := T_K) (N := 13) hx hb hts in_K hown hK hP 0 rfl rfl 8 (by decide) (hts _ tw_145) (fun _ h9 => h9) rfl d_K_run_88 ?_
            refine lv_iconst (v := 1) hx hb d_K_run_91 (by decide) ?_
            obtain ⟨hwt, hwf⟩ := hw
            refine lv_icmp_eq (tgt := 98) hx hb d_K_run_92 (by decide) (fun c_25 => ?_) (fun c_25 => ?_)
            · have hw := hwt c_25
              refine lv_aload_n hx hb d_K_run_98 rfl (lv_at hl 0 rfl) ?_
              refine va_get (D := (dC, dI)) (ci := 1) (v := .int dvd_20) (C := R_K) (T := T_K) (N := 13) hx hb hts in_K hown hK hP 0 rfl rfl 12 (by decide) (hts _ tw_158) (fun _ h9 => h9) rfl d_K_run_99 ?_
              obtain ⟨hwt, hwf⟩ := hw
              refine lv_if_eq (tgt := 110) hx hb d_K_run_102 (by decide) (fun c_26 => ?_) (fun c_26 => ?_)
              · have hw := hwt c_26
                refine lv_iconst (v := 0) hx hb d_K_run_110 (by decide) ?_
                exact W.iret (v := 0) hx hb hr (fun t ht hW => ⟨⟨0, (start, fin, kind, oT, oC, amt, pln, wait_15, held_16, nest_17, skp_18, fmd_19, dvd_20, signs, strs, skips, amts_21, plns_22), rfl, hw, by rw [ht]; exact hP, va_K.moved hW.alike hK, hD⟩, hS.F ht⟩) hS.2.2 d_K_run_111
              · have hw := hwf c_26
                refine lv_bipush (v := 12) hx hb d_K_run_105 (by decide) ?_
                refine lv_goto (tgt := 111) hx hb d_K_run_107 (by decide) ?_
                exact W.iret (v := 12) hx hb hr (fun t ht hW => ⟨⟨12, (start, fin, kind, oT, oC, amt, pln, wait_15, held_16, nest_17, skp_18, fmd_19, dvd_20, signs, strs, skips, amts_21, plns_22), rfl, hw, by rw [ht]; exact hP, va_K.moved hW.alike hK, hD⟩, hS.F ht⟩) hS.2.2 d_K_run_111
            · have hw := hwf c_25
              refine lv_bipush (v := 11) hx hb d_K_run_95 (by decide) ?_
              exact W.iret (v := 11) hx hb hr (fun t ht hW => ⟨⟨11, (start, fin, kind, oT, oC, amt, pln, wait_15, held_16, nest_17, skp_18, fmd_19, dvd_20, signs, strs, skips, amts_21, plns_22), rfl, hw, by rw [ht]; exact hP, va_K.moved hW.alike hK, hD⟩, hS.F ht⟩) hS.2.2 d_K_run_97
      · have hw := hwf c_14
        refine lv_bipush (v := 11) hx hb d_K_run_65 (by decide) ?_
        exact W.iret (v := 11) hx hb hr (fun t ht hW => ⟨⟨11, (start, fin, kind, oT, oC, amt, pln, wait, held, nest, skp, fmd, dvd, signs, strs, skips, amts, plns), rfl, hw, by rw [ht]; exact hP, va_K.moved hW.alike hK, hD⟩, hS.F ht⟩) hS.2.2 d_K_run_67
  have L_8 : ∀ (size : Int32) (row : Nat → Int32) (n : Nat) (x1 : Int32) (x2 : Int32) (wait : Int32) (held : Int32) (nest : Int32) (skp : Int32) (fmd : Int32) (dvd : Int32) (start : Int32) (fin : Int32) (kind : Int32) (oT : Int32) (oC : Int32) (amt : Int64) (pln : Int32) (signs : Nat → Int32) (strs : Nat → Int32) (skips : Nat → Int32) (amts : Nat → Int64) (plns : Nat → Int32) (H : Heap) (locs : List Loc) (ls : Array Slot), w_K_run_8 post size row n x1 x2 wait held nest skp fmd dvd start fin kind oT oC amt pln signs strs skips amts plns → va_P (dC, dI) vwCl (wd_K_run ad ck wait held nest skp fmd dvd size row start fin kind oT oC amt pln signs strs skips amts plns) H → va_D A (wd_K_run ad ck wait held nest skp fmd dvd size row start fin kind oT oC amt pln signs strs skips amts plns) → va_S A s.heap H locs → lv_has ls 3 [(0, .ref (ad 5)), (1, .int x1), (2, .int x2)] → W p l e (headSpec ws_K_run ({ frames := 6, cells := 0, slots := 0, locals := 135 } : Room)).room s m ([.ref (ad 5)] : List Value).toArray below meth c H locs 0 0 (k_Qi below (dC, dI) vwCl (TYm ck) A (fun (r : Int32) (u : Int32 × Int32 × Int32 × Int32 × Int32 × Int64 × Int32 × Int32 × Int32 × Int32 × Int32 × Int32 × Int32 × (Nat → Int32) × (Nat → Int32) × (Nat → Int32) × (Nat → Int64) × (Nat → Int32)) => post r u.1 u.2.1 u.2.2.1 u.2.2.2.1 u.2.2.2.2.1 u.2.2.2.2.2.1 u.2.2.2.2.2.2.1 u.2.2.2.2.2.2.2.1 u.2.2.2.2.2.2.2.2.1 u.2.2.2.2.2.2.2.2.2.1 u.2.2.2.2.2.2.2.2.2.2.1 u.2.2.2.2.2.2.2.2.2.2.2.1 u.2.2.2.2.2.2.2.2.2.2.2.2.1 u.2.2.2.2.2.2.2.2.2.2.2.2.2.1 u.2.2.2.2.2.2.2.2.2.2.2.2.2.2.1 u.2.2.2.2.2.2.2.2.2.2.2.2.2.2.2.1 u.2.2.2.2.2.2.2.2.2.2.2.2.2.2.2.2.1 u.2.2.2.2.2.2.2.2.2.2.2.2.2.2.2.2.2) (fun (u : Int32 × Int32 × Int32 × Int32 × Int32 × Int64 × Int32 × Int32 × Int32 × Int32 × Int32 × Int32 × Int32 × (Nat → Int32) × (Nat → Int32) × (Nat → Int32) × (Nat → Int64) × (Nat → Int32)) => wd_K_run ad ck u.2.2.2.2.2.2.2.1 u.2.2.2.2.2.2.2.2.1 u.2.2.2.2.2.2.2.2.2.1 u.2.2.2.2.2.2.2.2.2.2.1 u.2.2.2.2.2.2.2.2.2.2.2.1 u.2.2.2.2.2.2.2.2.2.2.2.2.1 size row u.1 u.2.1 u.2.2.1 u.2.2.2.1 u.2.2.2.2.1 u.2.2.2.2.2.1 u.2.2.2.2.2.2.1 u.2.2.2.2.2.2.2.2.2.2.2.2.2.1 u.2.2.2.2.2.2.2.2.2.2.2.2.2.2.1 u.2.2.2.2.2.2.2.2.2.2.2.2.2.2.2.1 u.2.2.2.2.2.2.2.2.2.2.2.2.2.2.2.2.1 u.2.2.2.2.2.2.2.2.2.2.2.2.2.2.2.2.2) ([.ref (ad 5)] : List Value).toArray s) (F0 m 8 ls []) := by
    intro size row n
    induction n with
    | zero =>
      intro x1 x2 wait held nest skp fmd dvd start fin kind oT oC amt pln signs strs skips amts plns H locs ls hw
      exact False.elim hw
    | succ n ih =>
      intro x1 x2 wait held nest skp fmd dvd start fin kind oT oC amt pln signs strs skips amts plns H locs ls hw hP hD hS hl
      refine lv_iload_n hx hb d_K_run_8 rfl (lv_at hl 2 rfl) ?_
      refine lv_sipush (v := 4096) hx hb d_K_run_9 (by decide) ?_
      obtain ⟨hwt, hwf⟩ := hw
      refine lv_icmp_ge (tgt := 54) hx hb d_K_run_12 (by decide) (fun c_12 => ?_) (fun c_12 => ?_)
      · have hw := hwt c_12
        exact L_54 x1 wait held nest skp fmd dvd size row start fin kind oT oC amt pln signs strs skips amts plns _ _ _ hw hP hD hS (lv_sub hl [0, 1] rfl)
      · have hw := hwf c_12
        refine lv_aload_n hx hb d_K_run_15 rfl (lv_at hl 0 rfl) ?_
        refine va_get (D := (dC, dI)) (ci := 1) (v := .int fmd) (C := R_K) (T := T_K) (N := 13) hx hb hts in_K hown hK hP 0 rfl rfl 11 (by decide) (hts _ tw_144) (fun _ h9 => h9) rfl d_K_run_16 ?_
        obtain ⟨hwt, hwf⟩ := hw
        refine lv_if_eq (tgt := 54) hx hb d_K_run_19 (by decide) (fun c_27 => ?_) (fun c_27 => ?_)
        · have hw := hwt c_27
          exact L_54 x1 wait held nest skp fmd dvd size row start fin kind oT oC amt pln signs strs skips amts plns _ _ _ hw hP hD hS (lv_sub hl [0, 1] rfl)
        · have hw := hwf c_27
          refine lv_aload_n hx hb d_K_run_22 rfl (lv_at hl 0 rfl) ?_
          refine va_get (D := (dC, dI)) (ci := 1) (v := .ref (ad 3)) (C := R_K) (T := T_K) (N := 13) hx hb hts in_K hown hK hP 0 rfl rfl 0 (by decide) (hts _ tw_153) (fun _ h9 => h9) rfl d_K_run_23 ?_
          refine k_callVi (As := []) (rest := []) (fun (u : Int32 × Int32 × Int32 × Int32 × Int32) => wd_K_run ad ck wait held nest skp fmd dvd size row u.1 u.2.1 u.2.2.1 u.2.2.2.1 u.2.2.2.2 amt pln signs strs skips amts plns) ⟨hx, hb, hml, hown, hts⟩ (kc_W_step l dC dI ad ck sk start fin kind oT oC size row (hw := hw)) (cwV 0 hts (gV tw_239 tw_241 tw_242 tw_6 tw_240) rfl rfl rfl hd_W_step ⟨Nat.le_of_ble_eq_true rfl, Nat.le_of_ble_eq_true rfl⟩) hK hP hD hS hA (XM_c sk) hX [3, 1, 2] [0, 4, 5, 6, 7, 8, 9] [0, 8, 9, 7, 1, 2, 3, 4, 5, 6] rfl rfl (by decide) (by decide) (fun _ => rfl) (va_recv hK hP (ci := 3) (q0 := 3) rfl rfl) rfl hl.1 rfl (lv_room (Nat.le_of_ble_eq_true rfl)) d_K_run_26 ⟨Nat.zero_le _, Nat.zero_le _⟩ ?_
          intro r_28 u H locs hw hP hD hS
          obtain ⟨start_29, fin_30, kind_31, oT_32, oC_33⟩ := u
          have hP : va_P (dC, dI) vwCl (wd_K_run ad ck wait held nest skp fmd dvd size row start_29 fin_30 kind_31 oT_32 oC_33 amt pln signs strs skips amts plns) H := hP
          have hD : va_D A (wd_K_run ad ck wait held nest skp fmd dvd size row start_29 fin_30 kind_31 oT_32 oC_33 amt pln signs strs skips amts plns) := hD
          try dsimp only at hw
          obtain ⟨hwt, hwf⟩ := hw
          refine lv_if_eq (tgt := 54) hx hb d_K_run_29 (by decide) (fun c_34 => ?_) (fun c_34 => ?_)
          · have hw := hwt c_34
            exact L_54 x1 wait held nest skp fmd dvd size row start_29 fin_30 kind_31 oT_32 oC_33 amt pln signs strs skips amts plns _ _ _ hw hP hD hS (lv_sub hl [0, 1] rfl)
          · have hw := hwf c_34
            refine lv_iload_n hx hb d_K_run_32 rfl (lv_at hl 1 rfl) ?_
            obtain ⟨hwt, hwf⟩ := hw
            refine lv_if_eq (tgt := 43) hx hb d_K_run_33 (by decide) (fun c_35 => ?_) (fun c_35 => ?_)
            · have hw := hwt c_35
              refine lv_aload_n hx hb d_K_run_43 rfl (lv_at hl 0 rfl) ?_
              refine k_callVi (As := []) (rest := []) (fun (u : Int32 × Int32 × Int32 × Int32 × Int32 × Int32 × (Nat → Int32) × (Nat → Int32) × (Nat → Int32) × (Nat → Int64) × (Nat → Int32)) => wd_K_run ad ck u.1 u.2.1 u.2.2.1 u.2.2.2.1 u.2.2.2.2.1 u.2.2.2.2.2.1 size row start_29 fin_30 kind_31 oT_32 oC_33 amt pln u.2.2.2.2.2.2.1 u.2.2.2.2.2.2.2.1 u.2.2.2.2.2.2.2.2.1 u.2.2.2.2.2.2.2.2.2.1 u.2.2.2.2.2.2.2.2.2.2) ⟨hx, hb, hml, hown, hts⟩ (kc_K_takeOperator l dC dI ad ck sk wait held nest skp fmd dvd size row start_29 fin_30 kind_31 oT_32 oC_33 signs strs skips amts plns (hw := hw)) (cwV 0 hts (gV tw_243 tw_245 tw_246 tw_161 tw_244) rfl rfl rfl hd_K_takeOperator ⟨Nat.le_of_ble_eq_true rfl, Nat.le_of_ble_eq_true rfl⟩) hK hP hD hS hA (XM_c sk) hX [0, 1, 2, 3, 5, 6, 7, 8, 9] [4] [1, 2, 3, 4, 0, 5, 6, 7, 8, 9] rfl rfl (by decide) (by decide) (fun _ => rfl) (va_recv hK hP (ci := 1) (q0 := 0) rfl rfl) rfl hl.1 rfl (lv_room (Nat.le_of_ble_eq_true rfl)) d_K_run_44 ⟨Nat.zero_le _, Nat.zero_le _⟩ ?_
              intro r_36 u H locs hw hP hD hS
              obtain ⟨wait_37, held_38, nest_39, skp_40, fmd_41, dvd_42, signs_43, strs_44, skips_45, amts_46, plns_47⟩ := u
              have hP : va_P (dC, dI) vwCl (wd_K_run ad ck wait_37 held_38 nest_39 skp_40 fmd_41 dvd_42 size row start_29 fin_30 kind_31 oT_32 oC_33 amt pln signs_43 strs_44 skips_45 amts_46 plns_47) H := hP
              have hD : va_D A (wd_K_run ad ck wait_37 held_38 nest_39 skp_40 fmd_41 dvd_42 size row start_29 fin_30 kind_31 oT_32 oC_33 amt pln signs_43 strs_44 skips_45 amts_46 plns_47) := hD
              try dsimp only at hw
              refine lv_istore_n (lv' := [(1, .int r_36), (0, .ref (ad 5)), (2, .int x2)]) hx hb d_K_run_47 rfl hl (by decide) rfl (fun ls hl => ?_)
              obtain ⟨x2_48, ex2_48⟩ : ∃ y : Int32, y = x2 + 1 := ⟨_, rfl⟩
              have hw := hw x2_48 ex2_48
              refine lv_iinc (v := x2_48) (lv' := [(2, .int x2_48), (1, .int r_36), (0, .ref (ad 5))]) hx hb d_K_run_48 hl (k := 2) rfl (by rw [ex2_48]; rfl) (by decide) rfl (fun ls hl => ?_)
              refine lv_goto (tgt := 8) hx hb d_K_run_51 (by decide) ?_
              exact ih r_36 x2_48 wait_37 held_38 nest_39 skp_40 fmd_41 dvd_42 start_29 fin_30 kind_31 oT_32 oC_33 amt pln signs_43 strs_44 skips_45 amts_46 plns_47 _ _ _ hw hP hD hS (lv_sub hl [2, 1, 0] rfl)
            · have hw := hwf c_35
              refine lv_aload_n hx hb d_K_run_36 rfl (lv_at hl 0 rfl) ?_
              refine k_callVi (As := []) (rest := []) (fun (u : Int64 × Int32 × Int32 × Int32 × Int32 × Int32 × Int32 × (Nat → Int32) × (Nat → Int32) × (Nat → Int32) × (Nat → Int64) × (Nat → Int32)) => wd_K_run ad ck u.2.2.1 u.2.2.2.1 u.2.2.2.2.1 u.2.2.2.2.2.1 u.2.2.2.2.2.2.1 dvd size row start_29 fin_30 kind_31 oT_32 oC_33 u.1 u.2.1 u.2.2.2.2.2.2.2.1 u.2.2.2.2.2.2.2.2.1 u.2.2.2.2.2.2.2.2.2.1 u.2.2.2.2.2.2.2.2.2.2.1 u.2.2.2.2.2.2.2.2.2.2.2) ⟨hx, hb, hml, hown, hts⟩ (kc_K_takeOperand l dC dI ad ck sk wait held nest skp fmd dvd size row start_29 fin_30 kind_31 oT_32 oC_33 amt pln signs strs skips amts plns (hw := hw)) (cwV 0 hts (gV tw_247 tw_249 tw_250 tw_161 tw_248) rfl rfl rfl hd_K_takeOperand ⟨Nat.le_of_ble_eq_true rfl, Nat.le_of_ble_eq_true rfl⟩) hK hP hD hS hA (XM_c sk) hX [0, 1, 2, 3, 4, 5, 6, 7, 8, 9] [] [0, 1, 2, 3, 4, 5, 6, 7, 8, 9] rfl rfl (by decide) (by decide) (fun _ => rfl) (va_recv hK hP (ci := 1) (q0 := 0) rfl rfl) rfl hl.1 rfl (lv_room (Nat.le_of_ble_eq_true rfl)) d_K_run_37 ⟨Nat.zero_le _, Nat.zero_le _⟩ ?_
              intro r_49 u H locs hw hP hD hS
              obtain ⟨amt_50, pln_51, wait_52, held_53, nest_54, skp_55, fmd_56, signs_57, strs_58, skips_59, amts_60, plns_61⟩ := u
              have hP : va_P (dC, dI) vwCl (wd_K_run ad ck wait_52 held_53 nest_54 skp_55 fmd_56 dvd size row start_29 fin_30 kind_31 oT_32 oC_33 amt_50 pln_51 signs_57 strs_58 skips_59 amts_60 plns_61) H := hP
              have hD : va_D A (wd_K_run ad ck wait_52 held_53 nest_54 skp_55 fmd_56 dvd size row start_29 fin_30 kind_31 oT_32 oC_33 amt_50 pln_51 signs_57 strs_58 skips_59 amts_60 plns_61) := hD
              try dsimp only at hw
              refine lv_goto (tgt := 47) hx hb d_K_run_40 (by decide) ?_
              refine lv_istore_n (lv' := [(1, .int r_49), (0, .ref (ad 5)), (2, .int x2)]) hx hb d_K_run_47 rfl hl (by decide) rfl (fun ls hl => ?_)
              obtain ⟨x2_62, ex2_62⟩ : ∃ y : Int32, y = x2 + 1 := ⟨_, rfl⟩
              have hw := hw x2_62 ex2_62
              refine lv_iinc (v := x2_62) (lv' := [(2, .int x2_62), (1, .int r_49), (0, .ref (ad 5))]) hx hb d_K_run_48 hl (k := 2) rfl (by rw [ex2_62]; rfl) (by decide) rfl (fun ls hl => ?_)
              refine lv_goto (tgt := 8) hx hb d_K_run_51 (by decide) ?_
              exact ih r_49 x2_62 wait_52 held_53 nest_54 skp_55 fmd_56 dvd start_29 fin_30 kind_31 oT_32 oC_33 amt_50 pln_51 signs_57 strs_58 skips_59 amts_60 plns_61 _ _ _ hw hP hD hS (lv_sub hl [2, 1, 0] rfl)
  refine lv_aload_n hx hb d_K_run_0 rfl (lv_at hl 0 rfl) ?_
  refine k_callVv (As := []) (rest := []) (fun (u : Int32 × Int32 × Int32 × Int32 × Int32 × Int32 × Int32 × Int32 × Int32 × Int32 × Int32) => wd_K_run ad ck u.2.2.2.2.2.1 u.2.2.2.2.2.2.1 u.2.2.2.2.2.2.2.1 u.2.2.2.2.2.2.2.2.1 u.2.2.2.2.2.2.2.2.2.1 u.2.2.2.2.2.2.2.2.2.2 size row u.1 u.2.1 u.2.2.1 u.2.2.2.1 u.2.2.2.2.1 amt pln signs strs skips amts plns) ⟨hx, hb, hml, hown, hts⟩ (kc_K_clear l dC dI ad ck wait held nest skp fmd dvd start fin kind oT oC (hw := hw)) (cwV 0 hts (gV tw_235 tw_237 tw_238 tw_161 tw_236) rfl rfl rfl hd_K_clear ⟨Nat.le_of_ble_eq_true rfl, Nat.le_of_ble_eq_true rfl⟩) hK hP hD hS hA k_x0c trivial [0, 3] [1, 2, 4, 5, 6, 7, 8, 9] [8, 0, 1, 9, 2, 3, 4, 5, 6, 7] rfl rfl (by decide) (by decide) (fun _ => rfl) (va_recv hK hP (ci := 1) (q0 := 0) rfl rfl) rfl hl.1 rfl (lv_room (Nat.le_of_ble_eq_true rfl)) d_K_run_1 ⟨Nat.zero_le _, Nat.zero_le _⟩ ?_
  intro u H locs hw hP hD hS
  obtain ⟨start_1, fin_2, kind_3, oT_4, oC_5, wait_6, held_7, nest_8, skp_9, fmd_10, dvd_11⟩ := u
  have hP : va_P (dC, dI) vwCl (wd_K_run ad ck wait_6 held_7 nest_8 skp_9 fmd_10 dvd_11 size row start_1 fin_2 kind_3 oT_4 oC_5 amt pln signs strs skips amts plns) H := hP
  have hD : va_D A (wd_K_run ad ck wait_6 held_7 nest_8 skp_9 fmd_10 dvd_11 size row start_1 fin_2 kind_3 oT_4 oC_5 amt pln signs strs skips amts plns) := hD
  try dsimp only at hw
  refine lv_iconst (v := 1) hx hb d_K_run_4 (by decide) ?_
  refine lv_istore_n (lv' := [(1, .int 1), (0, .ref (ad 5))]) hx hb d_K_run_5 rfl hl (by decide) rfl (fun ls hl => ?_)
  refine lv_iconst (v := 0) hx hb d_K_run_6 (by decide) ?_
  refine lv_istore_n (lv' := [(2, .int 0), (1, .int 1), (0, .ref (ad 5))]) hx hb d_K_run_7 rfl hl (by decide) rfl (fun ls hl => ?_)
  obtain ⟨fu8, hw⟩ := hw
  exact L_8 size row fu8 1 0 wait_6 held_7 nest_8 skp_9 fmd_10 dvd_11 start_1 fin_2 kind_3 oT_4 oC_5 amt pln signs strs skips amts plns _ _ _ hw hP hD hS (lv_sub hl [2, 1, 0] rfl)
