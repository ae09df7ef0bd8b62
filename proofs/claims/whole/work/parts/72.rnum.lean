abbrev wd_R_goOn (ad : Nat → Nat) (ck : Nat → ClassId) (rsize : Int32) (rval : Int64) (risP : Int32) (cnt : Int32) (look : Int32) (bad : Int32) (byZ : Int32) (inr : Int32) (rpl : Int32) (hld : Int32) : va_W := [(ad 11, .inr (5, [.int rsize, .ref (ad 12), .long rval, .int risP, .int cnt, .ref (ad 13), .ref (ad 14), .int look, .int bad, .int byZ, .int inr, .int rpl, .int hld, .ref (ad 15), .ref (ad 16), .ref (ad 17)]))]
def wp_R_goOn (post : Int32 → Prop) (rsize : Int32) (rval : Int64) (risP : Int32) (cnt : Int32) (look : Int32) (bad : Int32) (byZ : Int32) (inr : Int32) (rpl : Int32) (hld : Int32)  : Prop := (look < 0 → (post (-1))) ∧ (¬ look < 0 → ((cnt ≤ (look + 1) → (post (-1))) ∧ (¬ cnt ≤ (look + 1) → (∀ look_3 : Int32, look_3 = (look + 1) → (post look_3)))))
set_option maxHeartbeats 4000000 in
set_option maxRecDepth 100000 in
theorem kc_R_goOn (l : Launch) (dC : Nat → ClassId) (dI : Nat → Nat → Nat) (ad : Nat → Nat) (ck : Nat → ClassId) (rsize : Int32) (rval : Int64) (risP : Int32) (cnt : Int32) (look : Int32) (bad : Int32) (byZ : Int32) (inr : Int32) (rpl : Int32) (hld : Int32)  {post : Int32 → Prop} (hw : wp_R_goOn post rsize rval risP cnt look bad byZ inr rpl hld ) : k_Cv l y_R_goOn ws_R_goOn ({ frames := 0, cells := 0, slots := 0, locals := 0 } : Room) (dC, dI) vwCl (TYr ck) k_x0 [.ref (ad 11)] (wd_R_goOn ad ck rsize rval risP cnt look bad byZ inr rpl hld) (fun (u : Int32) => post u) (fun (u : Int32) => wd_R_goOn ad ck rsize rval risP cnt u bad byZ inr rpl hld) := by
  intro sz
  refine Met.ofW (cc := c_R_goOn) (maxL := 1) (ret := none) (by decide) rfl ?_
  intro p e s m args below meth c s₁ B hml hv
  obtain ⟨rfl, hsz, hP, hK, hD0, hX⟩ := hv
  have hx := B.exec
  have hb := B.bytes
  have hr := B.returns
  have hts : ∀ w ∈ TB, w.before _ s = true := fun w h => atoms_spec (ws := ws_R_goOn) B.pre w (List.mem_cons_of_mem _ h)
  have hown : s.vm.findClass R_R = some m.cls := findClass_of_methodNamed B.named
  have hlocks := B.notSynchronized
  subst hsz
  have hD := hD0.self (sz := s.heap.size)
  generalize hAe : va_A (wd_R_goOn ad ck rsize rval risP cnt look bad byZ inr rpl hld) s.heap.size = A at hD hX ⊢
  have hA : ∀ q : Nat, s.heap.size ≤ q → A q := fun q h => by rw [← hAe]; exact Or.inr h
  have hS : va_S A s.heap s.heap [] := va_S.rf
  have hP : va_P (dC, dI) vwCl (wd_R_goOn ad ck rsize rval risP cnt look bad byZ inr rpl hld) s.heap := hP
  have hl := lv_entry ([.ref (ad 11)]) (n := 1) (Nat.le_of_ble_eq_true rfl)
  rw [lg_entry_eq]
  generalize (lg_sl ([.ref (ad 11)]) ++ List.replicate (1 - (lg_sl ([.ref (ad 11)])).length) Slot.unset).toArray = ls at hl ⊢
  have hl : lv_has ls 1 [(0, .ref (ad 11))] := hl
  refine lv_aload_n hx hb d_R_goOn_0 rfl (lv_at hl 0 rfl) ?_
  refine lv_aload_n hx hb d_R_goOn_1 rfl (lv_at hl 0 rfl) ?_
  refine va_get (D := (dC, dI)) (ci := 5) (v := .int look) (C := R_R) (T := T_R) (N := 16) hx hb hts in_R hown hK hP 0 rfl rfl 7 (by decide) (hts _ ux_83) (fun _ h9 => h9) rfl d_R_goOn_2 ?_
  obtain ⟨hwt, hwf⟩ := hw
  refine lv_if_lt (tgt := 30) hx hb d_R_goOn_5 (by decide) (fun c_1 => ?_) (fun c_1 => ?_)
  · have hw := hwt c_1
    refine lv_iconst (v := (-1)) hx hb d_R_goOn_30 (by decide) ?_
    refine va_put (D := (dC, dI)) (ci := 5) (v := .int (-1)) (ty := .int) (C := R_R) (T := T_R) (N := 16) hx hb hts in_R ty_R ty_R_ok nm_R hown hK hP hD hS 0 rfl rfl 7 (by decide) (hts _ ux_83) (fun _ h9 => h9) rfl (by decide +kernel) rfl rfl (Nat.le_of_ble_eq_true rfl) d_R_goOn_31 (fun H locs hP hD hS => ?_)
    have hP : va_P (dC, dI) vwCl (wd_R_goOn ad ck rsize rval risP cnt (-1) bad byZ inr rpl hld) H := hP
    have hD : va_D A (wd_R_goOn ad ck rsize rval risP cnt (-1) bad byZ inr rpl hld) := hD
    exact W.vret hx hb hr (fun t ht hW => ⟨⟨(-1), rfl, hw, by rw [ht]; exact hP, va_K.moved hW.alike hK, hD⟩, hS.F ht⟩) hS.2.2 d_R_goOn_34
  · have hw := hwf c_1
    refine lv_aload_n hx hb d_R_goOn_8 rfl (lv_at hl 0 rfl) ?_
    refine va_get (D := (dC, dI)) (ci := 5) (v := .int look) (C := R_R) (T := T_R) (N := 16) hx hb hts in_R hown hK hP 0 rfl rfl 7 (by decide) (hts _ ux_83) (fun _ h9 => h9) rfl d_R_goOn_9 ?_
    refine lv_iconst (v := 1) hx hb d_R_goOn_12 (by decide) ?_
    refine lv_iadd hx hb d_R_goOn_13 ?_
    refine lv_aload_n hx hb d_R_goOn_14 rfl (lv_at hl 0 rfl) ?_
    refine va_get (D := (dC, dI)) (ci := 5) (v := .int cnt) (C := R_R) (T := T_R) (N := 16) hx hb hts in_R hown hK hP 0 rfl rfl 4 (by decide) (hts _ ux_68) (fun _ h9 => h9) rfl d_R_goOn_15 ?_
    obtain ⟨hwt, hwf⟩ := hw
    refine lv_icmp_ge (tgt := 30) hx hb d_R_goOn_18 (by decide) (fun c_2 => ?_) (fun c_2 => ?_)
    · have hw := hwt c_2
      refine lv_iconst (v := (-1)) hx hb d_R_goOn_30 (by decide) ?_
      refine va_put (D := (dC, dI)) (ci := 5) (v := .int (-1)) (ty := .int) (C := R_R) (T := T_R) (N := 16) hx hb hts in_R ty_R ty_R_ok nm_R hown hK hP hD hS 0 rfl rfl 7 (by decide) (hts _ ux_83) (fun _ h9 => h9) rfl (by decide +kernel) rfl rfl (Nat.le_of_ble_eq_true rfl) d_R_goOn_31 (fun H locs hP hD hS => ?_)
      have hP : va_P (dC, dI) vwCl (wd_R_goOn ad ck rsize rval risP cnt (-1) bad byZ inr rpl hld) H := hP
      have hD : va_D A (wd_R_goOn ad ck rsize rval risP cnt (-1) bad byZ inr rpl hld) := hD
      exact W.vret hx hb hr (fun t ht hW => ⟨⟨(-1), rfl, hw, by rw [ht]; exact hP, va_K.moved hW.alike hK, hD⟩, hS.F ht⟩) hS.2.2 d_R_goOn_34
    · have hw := hwf c_2
      refine lv_aload_n hx hb d_R_goOn_21 rfl (lv_at hl 0 rfl) ?_
      refine va_get (D := (dC, dI)) (ci := 5) (v := .int look) (C := R_R) (T := T_R) (N := 16) hx hb hts in_R hown hK hP 0 rfl rfl 7 (by decide) (hts _ ux_83) (fun _ h9 => h9) rfl d_R_goOn_22 ?_
      refine lv_iconst (v := 1) hx hb d_R_goOn_25 (by decide) ?_
      refine lv_iadd hx hb d_R_goOn_26 ?_
      refine lv_goto (tgt := 31) hx hb d_R_goOn_27 (by decide) ?_
      refine lv_topi (fun look_3 elook_3 => ?_)
      have hw := hw look_3 elook_3
      refine va_put (D := (dC, dI)) (ci := 5) (v := .int look_3) (ty := .int) (C := R_R) (T := T_R) (N := 16) hx hb hts in_R ty_R ty_R_ok nm_R hown hK hP hD hS 0 rfl rfl 7 (by decide) (hts _ ux_83) (fun _ h9 => h9) rfl (by decide +kernel) rfl rfl (Nat.le_of_ble_eq_true rfl) d_R_goOn_31 (fun H locs hP hD hS => ?_)
      have hP : va_P (dC, dI) vwCl (wd_R_goOn ad ck rsize rval risP cnt look_3 bad byZ inr rpl hld) H := hP
      have hD : va_D A (wd_R_goOn ad ck rsize rval risP cnt look_3 bad byZ inr rpl hld) := hD
      exact W.vret hx hb hr (fun t ht hW => ⟨⟨look_3, rfl, hw, by rw [ht]; exact hP, va_K.moved hW.alike hK, hD⟩, hS.F ht⟩) hS.2.2 d_R_goOn_34

abbrev wd_R_operatorHere (ad : Nat → Nat) (ck : Nat → ClassId) (rsize : Int32) (rval : Int64) (risP : Int32) (cnt : Int32) (look : Int32) (bad : Int32) (byZ : Int32) (inr : Int32) (rpl : Int32) (hld : Int32) (store : Nat → Int32) (tAt : Nat → Int32) (tSz : Nat → Int32) : va_W := [(ad 11, .inr (5, [.int rsize, .ref (ad 12), .long rval, .int risP, .int cnt, .ref (ad 13), .ref (ad 14), .int look, .int bad, .int byZ, .int inr, .int rpl, .int hld, .ref (ad 15), .ref (ad 16), .ref (ad 17)])), (ad 12, .inl (ck 6, 4096, .inl store)), (ad 13, .inl (ck 7, 4096, .inl tAt)), (ad 14, .inl (ck 8, 4096, .inl tSz))]
def w_R_operatorHere_4 (post : Int32 → Prop) (rsize : Int32) (rval : Int64) (risP : Int32) (cnt : Int32) (look : Int32) (bad : Int32) (byZ : Int32) (inr : Int32) (rpl : Int32) (hld : Int32) (store : Nat → Int32) (tAt : Nat → Int32) (tSz : Nat → Int32) : Nat → Int32 → Int32 → Prop
  | 0 => fun _ _ => False
  | n + 1 => fun x1 x2 => (18 ≤ x2 → (post x1)) ∧ (¬ 18 ≤ x2 → (wp_R_signOf (fun (r_2 : Nat) => wp_R_is (fun (r_3 : Int32) => (r_3 = 0 → (∀ x2_5 : Int32, x2_5 = x2 + 1 → (w_R_operatorHere_4 post rsize rval risP cnt look bad byZ inr rpl hld store tAt tSz n x1 x2_5))) ∧ (¬ r_3 = 0 → (∀ x2_6 : Int32, x2_6 = x2 + 1 → (w_R_operatorHere_4 post rsize rval risP cnt look bad byZ inr rpl hld store tAt tSz n x2 x2_6)))) rsize rval risP cnt look bad byZ inr rpl hld store tAt tSz look r_2) x2))
def wp_R_operatorHere (post : Int32 → Prop) (rsize : Int32) (rval : Int64) (risP : Int32) (cnt : Int32) (look : Int32) (bad : Int32) (byZ : Int32) (inr : Int32) (rpl : Int32) (hld : Int32) (store : Nat → Int32) (tAt : Nat → Int32) (tSz : Nat → Int32)  : Prop := ∃ fu4 : Nat, w_R_operatorHere_4 post rsize rval risP cnt look bad byZ inr rpl hld store tAt tSz fu4 (-1) 0
set_option maxHeartbeats 4000000 in
set_option maxRecDepth 100000 in
theorem kc_R_operatorHere (l : Launch) (dC : Nat → ClassId) (dI : Nat → Nat → Nat) (ad : Nat → Nat) (ck : Nat → ClassId) (sa sv : Nat → Nat) (sf : Option Nat) (rsize : Int32) (rval : Int64) (risP : Int32) (cnt : Int32) (look : Int32) (bad : Int32) (byZ : Int32) (inr : Int32) (rpl : Int32) (hld : Int32) (store : Nat → Int32) (tAt : Nat → Int32) (tSz : Nat → Int32)  {post : Int32 → Prop} (hw : wp_R_operatorHere post rsize rval risP cnt look bad byZ inr rpl hld store tAt tSz ) : k_Ci l y_R_operatorHere ws_R_operatorHere ({ frames := 5, cells := 0, slots := 0, locals := 109 } : Room) (dC, dI) vwCl (TYr ck) (XR sa sv sf) [.ref (ad 11)] (wd_R_operatorHere ad ck rsize rval risP cnt look bad byZ inr rpl hld store tAt tSz) (fun (r : Int32) (u : Unit) => post r ) (fun (u : Unit) => wd_R_operatorHere ad ck rsize rval risP cnt look bad byZ inr rpl hld store tAt tSz) := by
  intro sz
  refine Met.ofW (cc := c_R_operatorHere) (maxL := 3) (ret := (some .int)) (by decide) rfl ?_
  intro p e s m args below meth c s₁ B hml hv
  obtain ⟨rfl, hsz, hP, hK, hD0, hX⟩ := hv
  have hx := B.exec
  have hb := B.bytes
  have hr := B.returns
  have hts : ∀ w ∈ TB, w.before _ s = true := fun w h => atoms_spec (ws := ws_R_operatorHere) B.pre w (List.mem_cons_of_mem _ h)
  have hown : s.vm.findClass R_R = some m.cls := findClass_of_methodNamed B.named
  have hlocks := B.notSynchronized
  subst hsz
  have hD := hD0.self (sz := s.heap.size)
  generalize hAe : va_A (wd_R_operatorHere ad ck rsize rval risP cnt look bad byZ inr rpl hld store tAt tSz) s.heap.size = A at hD hX ⊢
  have hA : ∀ q : Nat, s.heap.size ≤ q → A q := fun q h => by rw [← hAe]; exact Or.inr h
  have hS : va_S A s.heap s.heap [] := va_S.rf
  have hP : va_P (dC, dI) vwCl (wd_R_operatorHere ad ck rsize rval risP cnt look bad byZ inr rpl hld store tAt tSz) s.heap := hP
  have hl := lv_entry ([.ref (ad 11)]) (n := 3) (Nat.le_of_ble_eq_true rfl)
  rw [lg_entry_eq]
  generalize (lg_sl ([.ref (ad 11)]) ++ List.replicate (3 - (lg_sl ([.ref (ad 11)])).length) Slot.unset).toArray = ls at hl ⊢
  have hl : lv_has ls 3 [(0, .ref (ad 11))] := hl
  have L_4 : ∀ (rsize : Int32) (rval : Int64) (risP : Int32) (cnt : Int32) (look : Int32) (bad : Int32) (byZ : Int32) (inr : Int32) (rpl : Int32) (hld : Int32) (store : Nat → Int32) (tAt : Nat → Int32) (tSz : Nat → Int32) (n : Nat) (x1 : Int32) (x2 : Int32) (H : Heap) (locs : List Loc) (ls : Array Slot), w_R_operatorHere_4 post rsize rval risP cnt look bad byZ inr rpl hld store tAt tSz n x1 x2 → va_P (dC, dI) vwCl (wd_R_operatorHere ad ck rsize rval risP cnt look bad byZ inr rpl hld store tAt tSz) H → va_D A (wd_R_operatorHere ad ck rsize rval risP cnt look bad byZ inr rpl hld store tAt tSz) → va_S A s.heap H locs → lv_has ls 3 [(0, .ref (ad 11)), (1, .int x1), (2, .int x2)] → W p l e (headSpec ws_R_operatorHere ({ frames := 5, cells := 0, slots := 0, locals := 109 } : Room)).room s m ([.ref (ad 11)] : List Value).toArray below meth c H locs 0 0 (k_Qi below (dC, dI) vwCl (TYr ck) A (fun (r : Int32) (u : Unit) => post r ) (fun (u : Unit) => wd_R_operatorHere ad ck rsize rval risP cnt look bad byZ inr rpl hld store tAt tSz) ([.ref (ad 11)] : List Value).toArray s) (F0 m 4 ls []) := by
    intro rsize rval risP cnt look bad byZ inr rpl hld store tAt tSz n
    induction n with
    | zero =>
      intro x1 x2 H locs ls hw
      exact False.elim hw
    | succ n ih =>
      intro x1 x2 H locs ls hw hP hD hS hl
      refine lv_iload_n hx hb d_R_operatorHere_4 rfl (lv_at hl 2 rfl) ?_
      refine lv_bipush (v := 18) hx hb d_R_operatorHere_5 (by decide) ?_
      obtain ⟨hwt, hwf⟩ := hw
      refine lv_icmp_ge (tgt := 37) hx hb d_R_operatorHere_7 (by decide) (fun c_1 => ?_) (fun c_1 => ?_)
      · have hw := hwt c_1
        refine lv_iload_n hx hb d_R_operatorHere_37 rfl (lv_at hl 1 rfl) ?_
        exact W.iret (v := x1) hx hb hr (fun t ht hW => ⟨⟨x1, (), rfl, hw, by rw [ht]; exact hP, va_K.moved hW.alike hK, hD⟩, hS.F ht⟩) hS.2.2 d_R_operatorHere_38
      · have hw := hwf c_1
        refine lv_aload_n hx hb d_R_operatorHere_10 rfl (lv_at hl 0 rfl) ?_
        refine lv_aload_n hx hb d_R_operatorHere_11 rfl (lv_at hl 0 rfl) ?_
        refine va_get (D := (dC, dI)) (ci := 5) (v := .int look) (C := R_R) (T := T_R) (N := 16) hx hb hts in_R hown hK hP 0 rfl rfl 7 (by decide) (hts _ ux_83) (fun _ h9 => h9) rfl d_R_operatorHere_12 ?_
        refine lv_iload_n hx hb d_R_operatorHere_15 rfl (lv_at hl 2 rfl) ?_
        refine k_callSs (As := [.int x2]) (rest := [.int look, .ref (ad 11)]) (fun (u : Unit) => wd_R_operatorHere ad ck rsize rval risP cnt look bad byZ inr rpl hld store tAt tSz) ⟨hx, hb, hml, hown, hts⟩ (kc_R_signOf l dC dI ad ck sa sv sf x2 (hw := hw)) (va_cwS 1 hts (gS ux_84 ux_86 ux_49 ux_85) rfl rfl rfl hd_R_signOf ⟨Nat.le_of_ble_eq_true rfl, Nat.le_of_ble_eq_true rfl⟩) hK hP hD hS hA (XR_c sa sv sf) hX [] [0, 1, 2, 3] [0, 1, 2, 3] rfl rfl (by decide) (by decide) (fun _ => rfl) rfl hl.1 rfl (lv_room (Nat.le_of_ble_eq_true rfl)) d_R_operatorHere_16 ⟨Nat.zero_le _, Nat.zero_le _⟩ ?_
        intro r_2 u H locs hw hP hD hS
        have hP : va_P (dC, dI) vwCl (wd_R_operatorHere ad ck rsize rval risP cnt look bad byZ inr rpl hld store tAt tSz) H := hP
        have hD : va_D A (wd_R_operatorHere ad ck rsize rval risP cnt look bad byZ inr rpl hld store tAt tSz) := hD
        try dsimp only at hw
        refine k_callVi (As := [.int look, .ref (sa r_2)]) (rest := []) (fun (u : Unit) => wd_R_operatorHere ad ck rsize rval risP cnt look bad byZ inr rpl hld store tAt tSz) ⟨hx, hb, hml, hown, hts⟩ (kc_R_is l dC dI ad ck sa sv sf rsize rval risP cnt look bad byZ inr rpl hld store tAt tSz look r_2 (hw := hw)) (cwV 2 hts (gV ux_87 ux_89 ux_90 ux_49 ux_88) rfl rfl rfl hd_R_is ⟨Nat.le_of_ble_eq_true rfl, Nat.le_of_ble_eq_true rfl⟩) hK hP hD hS hA (XR_c sa sv sf) hX [0, 1, 2, 3] [] [0, 1, 2, 3] rfl rfl (by decide) (by decide) (fun _ => rfl) (va_recv hK hP (ci := 5) (q0 := 0) rfl rfl) rfl hl.1 rfl (lv_room (Nat.le_of_ble_eq_true rfl)) d_R_operatorHere_19 ⟨Nat.zero_le _, Nat.zero_le _⟩ ?_
        intro r_3 u H locs hw hP hD hS
        have hP : va_P (dC, dI) vwCl (wd_R_operatorHere ad ck rsize rval risP cnt look bad byZ inr rpl hld store tAt tSz) H := hP
        have hD : va_D A (wd_R_operatorHere ad ck rsize rval risP cnt look bad byZ inr rpl hld store tAt tSz) := hD
        try dsimp only at hw
        obtain ⟨hwt, hwf⟩ := hw
        refine lv_if_eq (tgt := 29) hx hb d_R_operatorHere_22 (by decide) (fun c_4 => ?_) (fun c_4 => ?_)
        · have hw := hwt c_4
          refine lv_iload_n hx hb d_R_operatorHere_29 rfl (lv_at hl 1 rfl) ?_
          refine lv_istore_n (lv' := [(1, .int x1), (0, .ref (ad 11)), (2, .int x2)]) hx hb d_R_operatorHere_30 rfl hl (by decide) rfl (fun ls hl => ?_)
          obtain ⟨x2_5, ex2_5⟩ : ∃ y : Int32, y = x2 + 1 := ⟨_, rfl⟩
          have hw := hw x2_5 ex2_5
          refine lv_iinc (v := x2_5) (lv' := [(2, .int x2_5), (1, .int x1), (0, .ref (ad 11))]) hx hb d_R_operatorHere_31 hl (k := 2) rfl (by rw [ex2_5]; rfl) (by decide) rfl (fun ls hl => ?_)
          refine lv_goto (tgt := 4) hx hb d_R_operatorHere_34 (by decide) ?_
          exact ih x1 x2_5 _ _ _ hw hP hD hS (lv_sub hl [2, 1, 0] rfl)
        · have hw := hwf c_4
          refine lv_iload_n hx hb d_R_operatorHere_25 rfl (lv_at hl 2 rfl) ?_
          refine lv_goto (tgt := 30) hx hb d_R_operatorHere_26 (by decide) ?_
          refine lv_istore_n (lv' := [(1, .int x2), (0, .ref (ad 11)), (2, .int x2)]) hx hb d_R_operatorHere_30 rfl hl (by decide) rfl (fun ls hl => ?_)
          obtain ⟨x2_6, ex2_6⟩ : ∃ y : Int32, y = x2 + 1 := ⟨_, rfl⟩
          have hw := hw x2_6 ex2_6
          refine lv_iinc (v := x2_6) (lv' := [(2, .int x2_6), (1, .int x2), (0, .ref (ad 11))]) hx hb d_R_operatorHere_31 hl (k := 2) rfl (by rw [ex2_6]; rfl) (by decide) rfl (fun ls hl => ?_)
          refine lv_goto (tgt := 4) hx hb d_R_operatorHere_34 (by decide) ?_
          exact ih x2 x2_6 _ _ _ hw hP hD hS (lv_sub hl [2, 1, 0] rfl)
  refine lv_iconst (v := (-1)) hx hb d_R_operatorHere_0 (by decide) ?_
  refine lv_istore_n (lv' := [(1, .int (-1)), (0, .ref (ad 11))]) hx hb d_R_operatorHere_1 rfl hl (by decide) rfl (fun ls hl => ?_)
  refine lv_iconst (v := 0) hx hb d_R_operatorHere_2 (by decide) ?_
  refine lv_istore_n (lv' := [(2, .int 0), (1, .int (-1)), (0, .ref (ad 11))]) hx hb d_R_operatorHere_3 rfl hl (by decide) rfl (fun ls hl => ?_)
  obtain ⟨fu4, hw⟩ := hw
  exact L_4 rsize rval risP cnt look bad byZ inr rpl hld store tAt tSz fu4 (-1) 0 _ _ _ hw hP hD hS (lv_sub hl [2, 1, 0] rfl)

abbrev wd_R_isNeeded (ad : Nat → Nat) (ck : Nat → ClassId) (rsize : Int32) (rval : Int64) (risP : Int32) (cnt : Int32) (look : Int32) (bad : Int32) (byZ : Int32) (inr : Int32) (rpl : Int32) (hld : Int32) (hSg : Nat → Int32) (hVl : Nat → Int64) : va_W := [(ad 11, .inr (5, [.int rsize, .ref (ad 12), .long rval, .int risP, .int cnt, .ref (ad 13), .ref (ad 14), .int look, .int bad, .int byZ, .int inr, .int rpl, .int hld, .ref (ad 15), .ref (ad 16), .ref (ad 17)])), (ad 15, .inl (ck 9, 800, .inl hSg)), (ad 16, .inl (ck 10, 800, .inr (.inl hVl)))]
def w_R_isNeeded_5 (post : Int32 → Prop) (rsize : Int32) (rval : Int64) (risP : Int32) (cnt : Int32) (look : Int32) (bad : Int32) (byZ : Int32) (inr : Int32) (rpl : Int32) (hld : Int32) (hSg : Nat → Int32) (hVl : Nat → Int64) : Nat → Int32 → Int32 → Prop
  | 0 => fun _ _ => False
  | n + 1 => fun x3 x4 => (hld ≤ x4 → (vz x3 ∧ (post x3))) ∧ (¬ hld ≤ x4 → ((x3 = 0 → (∀ x4_4 : Int32, x4_4 = x4 + 1 → (w_R_isNeeded_5 post rsize rval risP cnt look bad byZ inr rpl hld hSg hVl n 0 x4_4))) ∧ (¬ x3 = 0 → (vp_in x4 800 ∧ (((hSg x4.toNatClampNeg) = 0 → (vp_in x4 800 ∧ (((lg_cmp (hVl x4.toNatClampNeg) 0) = 0 → (vp_in x4 800 ∧ (((hSg x4.toNatClampNeg) = 1 → (vp_in x4 800 ∧ (((lg_cmp (hVl x4.toNatClampNeg) 0) = 0 → (∀ x4_22 : Int32, x4_22 = x4 + 1 → (w_R_isNeeded_5 post rsize rval risP cnt look bad byZ inr rpl hld hSg hVl n 0 x4_22))) ∧ (¬ (lg_cmp (hVl x4.toNatClampNeg) 0) = 0 → (∀ x4_23 : Int32, x4_23 = x4 + 1 → (w_R_isNeeded_5 post rsize rval risP cnt look bad byZ inr rpl hld hSg hVl n 1 x4_23)))))) ∧ (¬ (hSg x4.toNatClampNeg) = 1 → (∀ x4_19 : Int32, x4_19 = x4 + 1 → (w_R_isNeeded_5 post rsize rval risP cnt look bad byZ inr rpl hld hSg hVl n 1 x4_19)))))) ∧ (¬ (lg_cmp (hVl x4.toNatClampNeg) 0) = 0 → (∀ x4_16 : Int32, x4_16 = x4 + 1 → (w_R_isNeeded_5 post rsize rval risP cnt look bad byZ inr rpl hld hSg hVl n 0 x4_16)))))) ∧ (¬ (hSg x4.toNatClampNeg) = 0 → (vp_in x4 800 ∧ (((hSg x4.toNatClampNeg) = 1 → (vp_in x4 800 ∧ (((lg_cmp (hVl x4.toNatClampNeg) 0) = 0 → (∀ x4_12 : Int32, x4_12 = x4 + 1 → (w_R_isNeeded_5 post rsize rval risP cnt look bad byZ inr rpl hld hSg hVl n 0 x4_12))) ∧ (¬ (lg_cmp (hVl x4.toNatClampNeg) 0) = 0 → (∀ x4_13 : Int32, x4_13 = x4 + 1 → (w_R_isNeeded_5 post rsize rval risP cnt look bad byZ inr rpl hld hSg hVl n 1 x4_13)))))) ∧ (¬ (hSg x4.toNatClampNeg) = 1 → (∀ x4_9 : Int32, x4_9 = x4 + 1 → (w_R_isNeeded_5 post rsize rval risP cnt look bad byZ inr rpl hld hSg hVl n 1 x4_9)))))))))))
def wp_R_isNeeded (post : Int32 → Prop) (rsize : Int32) (rval : Int64) (risP : Int32) (cnt : Int32) (look : Int32) (bad : Int32) (byZ : Int32) (inr : Int32) (rpl : Int32) (hld : Int32) (hSg : Nat → Int32) (hVl : Nat → Int64) (p0 : Int32) (p1 : Int32) : Prop := ∃ fu5 : Nat, w_R_isNeeded_5 post rsize rval risP cnt look bad byZ inr rpl hld hSg hVl fu5 p1 p0
set_option maxHeartbeats 4000000 in
set_option maxRecDepth 100000 in
theorem kc_R_isNeeded (l : Launch) (dC : Nat → ClassId) (dI : Nat → Nat → Nat) (ad : Nat → Nat) (ck : Nat → ClassId) (rsize : Int32) (rval : Int64) (risP : Int32) (cnt : Int32) (look : Int32) (bad : Int32) (byZ : Int32) (inr : Int32) (rpl : Int32) (hld : Int32) (hSg : Nat → Int32) (hVl : Nat → Int64) (p0 : Int32) (p1 : Int32) {post : Int32 → Prop} (hw : wp_R_isNeeded post rsize rval risP cnt look bad byZ inr rpl hld hSg hVl p0 p1) : k_Ci l y_R_isNeeded ws_R_isNeeded ({ frames := 0, cells := 0, slots := 0, locals := 0 } : Room) (dC, dI) vwCl (TYr ck) k_x0 [.ref (ad 11), .int p0, .int p1] (wd_R_isNeeded ad ck rsize rval risP cnt look bad byZ inr rpl hld hSg hVl) (fun (r : Int32) (u : Unit) => post r ) (fun (u : Unit) => wd_R_isNeeded ad ck rsize rval risP cnt look bad byZ inr rpl hld hSg hVl) := by
  intro sz
  refine Met.ofW (cc := c_R_isNeeded) (maxL := 5) (ret := (some .boolean)) (by decide) rfl ?_
  intro p e s m args below meth c s₁ B hml hv
  obtain ⟨rfl, hsz, hP, hK, hD0, hX⟩ := hv
  have hx := B.exec
  have hb := B.bytes
  have hr := B.returns
  have hts : ∀ w ∈ TB, w.before _ s = true := fun w h => atoms_spec (ws := ws_R_isNeeded) B.pre w (List.mem_cons_of_mem _ h)
  have hown : s.vm.findClass R_R = some m.cls := findClass_of_methodNamed B.named
  have hlocks := B.notSynchronized
  subst hsz
  have hD := hD0.self (sz := s.heap.size)
  generalize hAe : va_A (wd_R_isNeeded ad ck rsize rval risP cnt look bad byZ inr rpl hld hSg hVl) s.heap.size = A at hD hX ⊢
  have hA : ∀ q : Nat, s.heap.size ≤ q → A q := fun q h => by rw [← hAe]; exact Or.inr h
  have hS : va_S A s.heap s.heap [] := va_S.rf
  have hP : va_P (dC, dI) vwCl (wd_R_isNeeded ad ck rsize rval risP cnt look bad byZ inr rpl hld hSg hVl) s.heap := hP
  have hl := lv_entry ([.ref (ad 11), .int p0, .int p1]) (n := 5) (Nat.le_of_ble_eq_true rfl)
  rw [lg_entry_eq]
  generalize (lg_sl ([.ref (ad 11), .int p0, .int p1]) ++ List.replicate (5 - (lg_sl ([.ref (ad 11), .int p0, .int p1])).length) Slot.unset).toArray = ls at hl ⊢
  have hl : lv_has ls 5 [(0, .ref (ad 11)), (1, .int p0), (2, .int p1)] := hl
  have L_5 : ∀ (rsize : Int32) (rval : Int64) (risP : Int32) (cnt : Int32) (look : Int32) (bad : Int32) (byZ : Int32) (inr : Int32) (rpl : Int32) (hld : Int32) (hSg : Nat → Int32) (hVl : Nat → Int64) (n : Nat) (x3 : Int32) (x4 : Int32) (H : Heap) (locs : List Loc) (ls : Array Slot), w_R_isNeeded_5 post rsize rval risP cnt look bad byZ inr rpl hld hSg hVl n x3 x4 → va_P (dC, dI) vwCl (wd_R_isNeeded ad ck rsize rval risP cnt look bad byZ inr rpl hld hSg hVl) H → va_D A (wd_R_isNeeded ad ck rsize rval risP cnt look bad byZ inr rpl hld hSg hVl) → va_S A s.heap H locs → lv_has ls 5 [(0, .ref (ad 11)), (3, .int x3), (4, .int x4)] → W p l e (headSpec ws_R_isNeeded ({ frames := 0, cells := 0, slots := 0, locals := 0 } : Room)).room s m ([.ref (ad 11), .int p0, .int p1] : List Value).toArray below meth c H locs 0 0 (k_Qi below (dC, dI) vwCl (TYr ck) A (fun (r : Int32) (u : Unit) => post r ) (fun (u : Unit) => wd_R_isNeeded ad ck rsize rval risP cnt look bad byZ inr rpl hld hSg hVl) ([.ref (ad 11), .int p0, .int p1] : List Value).toArray s) (F0 m 5 ls []) := by
    intro rsize rval risP cnt look bad byZ inr rpl hld hSg hVl n
    induction n with
    | zero =>
      intro x3 x4 H locs ls hw
      exact False.elim hw
    | succ n ih =>
      intro x3 x4 H locs ls hw hP hD hS hl
      refine lv_iload hx hb d_R_isNeeded_5 (lv_at hl 2 rfl) ?_
      refine lv_aload_n hx hb d_R_isNeeded_7 rfl (lv_at hl 0 rfl) ?_
      refine va_get (D := (dC, dI)) (ci := 5) (v := .int hld) (C := R_R) (T := T_R) (N := 16) hx hb hts in_R hown hK hP 0 rfl rfl 12 (by decide) (hts _ ux_91) (fun _ h9 => h9) rfl d_R_isNeeded_8 ?_
      obtain ⟨hwt, hwf⟩ := hw
      refine lv_icmp_ge (tgt := 75) hx hb d_R_isNeeded_11 (by decide) (fun c_1 => ?_) (fun c_1 => ?_)
      · have hw := hwt c_1
        refine lv_iload_n hx hb d_R_isNeeded_75 rfl (lv_at hl 1 rfl) ?_
        obtain ⟨hz_2, hw⟩ := hw
        exact W.zret (v := x3) hx hb hr (vz_n hz_2) (fun t ht hW => ⟨⟨x3, (), rfl, hw, by rw [ht]; exact hP, va_K.moved hW.alike hK, hD⟩, hS.F ht⟩) hS.2.2 d_R_isNeeded_76
      · have hw := hwf c_1
        refine lv_iload_n hx hb d_R_isNeeded_14 rfl (lv_at hl 1 rfl) ?_
        obtain ⟨hwt, hwf⟩ := hw
        refine lv_if_eq (tgt := 67) hx hb d_R_isNeeded_15 (by decide) (fun c_3 => ?_) (fun c_3 => ?_)
        · have hw := hwt c_3
          refine lv_iconst (v := 0) hx hb d_R_isNeeded_67 (by decide) ?_
          refine lv_istore_n (lv' := [(3, .int 0), (0, .ref (ad 11)), (4, .int x4)]) hx hb d_R_isNeeded_68 rfl hl (by decide) rfl (fun ls hl => ?_)
          obtain ⟨x4_4, ex4_4⟩ : ∃ y : Int32, y = x4 + 1 := ⟨_, rfl⟩
          have hw := hw x4_4 ex4_4
          refine lv_iinc (v := x4_4) (lv' := [(4, .int x4_4), (3, .int 0), (0, .ref (ad 11))]) hx hb d_R_isNeeded_69 hl (k := 2) rfl (by rw [ex4_4]; rfl) (by decide) rfl (fun ls hl => ?_)
          refine lv_goto (tgt := 5) hx hb d_R_isNeeded_72 (by decide) ?_
          exact ih 0 x4_4 _ _ _ hw hP hD hS (lv_sub hl [2, 1, 0] rfl)
        · have hw := hwf c_3
          refine lv_aload_n hx hb d_R_isNeeded_18 rfl (lv_at hl 0 rfl) ?_
          refine va_get (D := (dC, dI)) (ci := 5) (v := .ref (ad 15)) (C := R_R) (T := T_R) (N := 16) hx hb hts in_R hown hK hP 0 rfl rfl 13 (by decide) (hts _ ux_92) (fun _ h9 => h9) rfl d_R_isNeeded_19 ?_
          refine lv_iload hx hb d_R_isNeeded_22 (lv_at hl 2 rfl) ?_
          obtain ⟨hi_5, hw⟩ := hw
          refine va_iald hx hb hK hP 1 3 rfl rfl hi_5 d_R_isNeeded_24 ?_
          obtain ⟨hwt, hwf⟩ := hw
          refine lv_if_ne (tgt := 40) hx hb d_R_isNeeded_25 (by decide) (fun c_6 => ?_) (fun c_6 => ?_)
          · have hw := hwf c_6
            refine lv_aload_n hx hb d_R_isNeeded_40 rfl (lv_at hl 0 rfl) ?_
            refine va_get (D := (dC, dI)) (ci := 5) (v := .ref (ad 15)) (C := R_R) (T := T_R) (N := 16) hx hb hts in_R hown hK hP 0 rfl rfl 13 (by decide) (hts _ ux_92) (fun _ h9 => h9) rfl d_R_isNeeded_41 ?_
            refine lv_iload hx hb d_R_isNeeded_44 (lv_at hl 2 rfl) ?_
            obtain ⟨hi_7, hw⟩ := hw
            refine va_iald hx hb hK hP 1 3 rfl rfl hi_7 d_R_isNeeded_46 ?_
            refine lv_iconst (v := 1) hx hb d_R_isNeeded_47 (by decide) ?_
            obtain ⟨hwt, hwf⟩ := hw
            refine lv_icmp_ne (tgt := 63) hx hb d_R_isNeeded_48 (by decide) (fun c_8 => ?_) (fun c_8 => ?_)
            · have hw := hwf c_8
              refine lv_iconst (v := 1) hx hb d_R_isNeeded_63 (by decide) ?_
              refine lv_goto (tgt := 68) hx hb d_R_isNeeded_64 (by decide) ?_
              refine lv_istore_n (lv' := [(3, .int 1), (0, .ref (ad 11)), (4, .int x4)]) hx hb d_R_isNeeded_68 rfl hl (by decide) rfl (fun ls hl => ?_)
              obtain ⟨x4_9, ex4_9⟩ : ∃ y : Int32, y = x4 + 1 := ⟨_, rfl⟩
              have hw := hw x4_9 ex4_9
              refine lv_iinc (v := x4_9) (lv' := [(4, .int x4_9), (3, .int 1), (0, .ref (ad 11))]) hx hb d_R_isNeeded_69 hl (k := 2) rfl (by rw [ex4_9]; rfl) (by decide) rfl (fun ls hl => ?_)
              refine lv_goto (tgt := 5) hx hb d_R_isNeeded_72 (by decide) ?_
              exact ih 1 x4_9 _ _ _ hw hP hD hS (lv_sub hl [2, 1, 0] rfl)
            · have hw := hwt c_8
              refine lv_aload_n hx hb d_R_isNeeded_51 rfl (lv_at hl 0 rfl) ?_
              refine va_get (D := (dC, dI)) (ci := 5) (v := .ref (ad 16)) (C := R_R) (T := T_R) (N := 16) hx hb hts in_R hown hK hP 0 rfl rfl 14 (by decide) (hts _ ux_93) (fun _ h9 => h9) rfl d_R_isNeeded_52 ?_
              refine lv_iload hx hb d_R_isNeeded_55 (lv_at hl 2 rfl) ?_
              obtain ⟨hi_10, hw⟩ := hw
              refine va_lald hx hb hK hP 2 4 rfl rfl hi_10 d_R_isNeeded_57 ?_
              refine lv_lconst (v := 0) hx hb d_R_isNeeded_58 (by decide) ?_
              refine W.lcmp hx hb d_R_isNeeded_59 ?_
              obtain ⟨hwt, hwf⟩ := hw
              refine lv_if_eq (tgt := 67) hx hb d_R_isNeeded_60 (by decide) (fun c_11 => ?_) (fun c_11 => ?_)
              · have hw := hwt c_11
                refine lv_iconst (v := 0) hx hb d_R_isNeeded_67 (by decide) ?_
                refine lv_istore_n (lv' := [(3, .int 0), (0, .ref (ad 11)), (4, .int x4)]) hx hb d_R_isNeeded_68 rfl hl (by decide) rfl (fun ls hl => ?_)
                obtain ⟨x4_12, ex4_12⟩ : ∃ y : Int32, y = x4 + 1 := ⟨_, rfl⟩
                have hw := hw x4_12 ex4_12
                refine lv_iinc (v := x4_12) (lv' := [(4, .int x4_12), (3, .int 0), (0, .ref (ad 11))]) hx hb d_R_isNeeded_69 hl (k := 2) rfl (by rw [ex4_12]; rfl) (by decide) rfl (fun ls hl => ?_)
                refine lv_goto (tgt := 5) hx hb d_R_isNeeded_72 (by decide) ?_
                exact ih 0 x4_12 _ _ _ hw hP hD hS (lv_sub hl [2, 1, 0] rfl)
              · have hw := hwf c_11
                refine lv_iconst (v := 1) hx hb d_R_isNeeded_63 (by decide) ?_
                refine lv_goto (tgt := 68) hx hb d_R_isNeeded_64 (by decide) ?_
                refine lv_istore_n (lv' := [(3, .int 1), (0, .ref (ad 11)), (4, .int x4)]) hx hb d_R_isNeeded_68 rfl hl (by decide) rfl (fun ls hl => ?_)
                obtain ⟨x4_13, ex4_13⟩ : ∃ y : Int32, y = x4 + 1 := ⟨_, rfl⟩
                have hw := hw x4_13 ex4_13
                refine lv_iinc (v := x4_13) (lv' := [(4, .int x4_13), (3, .int 1), (0, .ref (ad 11))]) hx hb d_R_isNeeded_69 hl (k := 2) rfl (by rw [ex4_13]; rfl) (by decide) rfl (fun ls hl => ?_)
                refine lv_goto (tgt := 5) hx hb d_R_isNeeded_72 (by decide) ?_
                exact ih 1 x4_13 _ _ _ hw hP hD hS (lv_sub hl [2, 1, 0] rfl)
          · have hw := hwt c_6
            refine lv_aload_n hx hb d_R_isNeeded_28 rfl (lv_at hl 0 rfl) ?_
            refine va_get (D := (dC, dI)) (ci := 5) (v := .ref (ad 16)) (C := R_R) (T := T_R) (N := 16) hx hb hts in_R hown hK hP 0 rfl rfl 14 (by decide) (hts _ ux_93) (fun _ h9 => h9) rfl d_R_isNeeded_29 ?_
            refine lv_iload hx hb d_R_isNeeded_32 (lv_at hl 2 rfl) ?_
            obtain ⟨hi_14, hw⟩ := hw
            refine va_lald hx hb hK hP 2 4 rfl rfl hi_14 d_R_isNeeded_34 ?_
            refine lv_lconst (v := 0) hx hb d_R_isNeeded_35 (by decide) ?_
            refine W.lcmp hx hb d_R_isNeeded_36 ?_
            obtain ⟨hwt, hwf⟩ := hw
            refine lv_if_ne (tgt := 67) hx hb d_R_isNeeded_37 (by decide) (fun c_15 => ?_) (fun c_15 => ?_)
            · have hw := hwf c_15
              refine lv_iconst (v := 0) hx hb d_R_isNeeded_67 (by decide) ?_
              refine lv_istore_n (lv' := [(3, .int 0), (0, .ref (ad 11)), (4, .int x4)]) hx hb d_R_isNeeded_68 rfl hl (by decide) rfl (fun ls hl => ?_)
              obtain ⟨x4_16, ex4_16⟩ : ∃ y : Int32, y = x4 + 1 := ⟨_, rfl⟩
              have hw := hw x4_16 ex4_16
              refine lv_iinc (v := x4_16) (lv' := [(4, .int x4_16), (3, .int 0), (0, .ref (ad 11))]) hx hb d_R_isNeeded_69 hl (k := 2) rfl (by rw [ex4_16]; rfl) (by decide) rfl (fun ls hl => ?_)
              refine lv_goto (tgt := 5) hx hb d_R_isNeeded_72 (by decide) ?_
              exact ih 0 x4_16 _ _ _ hw hP hD hS (lv_sub hl [2, 1, 0] rfl)
            · have hw := hwt c_15
              refine lv_aload_n hx hb d_R_isNeeded_40 rfl (lv_at hl 0 rfl) ?_
              refine va_get (D := (dC, dI)) (ci := 5) (v := .ref (ad 15)) (C := R_R) (T := T_R) (N := 16) hx hb hts in_R hown hK hP 0 rfl rfl 13 (by decide) (hts _ ux_92) (fun _ h9 => h9) rfl d_R_isNeeded_41 ?_
              refine lv_iload hx hb d_R_isNeeded_44 (lv_at hl 2 rfl) ?_
              obtain ⟨hi_17, hw⟩ := hw
              refine va_iald hx hb hK hP 1 3 rfl rfl hi_17 d_R_isNeeded_46 ?_
              refine lv_iconst (v := 1) hx hb d_R_isNeeded_47 (by decide) ?_
              obtain ⟨hwt, hwf⟩ := hw
              refine lv_icmp_ne (tgt := 63) hx hb d_R_isNeeded_48 (by decide) (fun c_18 => ?_) (fun c_18 => ?_)
              · have hw := hwf c_18
                refine lv_iconst (v := 1) hx hb d_R_isNeeded_63 (by decide) ?_
                refine lv_goto (tgt := 68) hx hb d_R_isNeeded_64 (by decide) ?_
                refine lv_istore_n (lv' := [(3, .int 1), (0, .ref (ad 11)), (4, .int x4)]) hx hb d_R_isNeeded_68 rfl hl (by decide) rfl (fun ls hl => ?_)
                obtain ⟨x4_19, ex4_19⟩ : ∃ y : Int32, y = x4 + 1 := ⟨_, rfl⟩
                have hw := hw x4_19 ex4_19
                refine lv_iinc (v := x4_19) (lv' := [(4, .int x4_19), (3, .int 1), (0, .ref (ad 11))]) hx hb d_R_isNeeded_69 hl (k := 2) rfl (by rw [ex4_19]; rfl) (by decide) rfl (fun ls hl => ?_)
                refine lv_goto (tgt := 5) hx hb d_R_isNeeded_72 (by decide) ?_
                exact ih 1 x4_19 _ _ _ hw hP hD hS (lv_sub hl [2, 1, 0] rfl)
              · have hw := hwt c_18
                refine lv_aload_n hx hb d_R_isNeeded_51 rfl (lv_at hl 0 rfl) ?_
                refine va_get (D := (dC, dI)) (ci := 5) (v := .ref (ad 16)) (C := R_R) (T := T_R) (N := 16) hx hb hts in_R hown hK hP 0 rfl rfl 14 (by decide) (hts _ ux_93) (fun _ h9 => h9) rfl d_R_isNeeded_52 ?_
                refine lv_iload hx hb d_R_isNeeded_55 (lv_at hl 2 rfl) ?_
                obtain ⟨hi_20, hw⟩ := hw
                refine va_lald hx hb hK hP 2 4 rfl rfl hi_20 d_R_isNeeded_57 ?_
                refine lv_lconst (v := 0) hx hb d_R_isNeeded_58 (by decide) ?_
                refine W.lcmp hx hb d_R_isNeeded_59 ?_
                obtain ⟨hwt, hwf⟩ := hw
                refine lv_if_eq (tgt := 67) hx hb d_R_isNeeded_60 (by decide) (fun c_21 => ?_) (fun c_21 => ?_)
                · have hw := hwt c_21
                  refine lv_iconst (v := 0) hx hb d_R_isNeeded_67 (by decide) ?_
                  refine lv_istore_n (lv' := [(3, .int 0), (0, .ref (ad 11)), (4, .int x4)]) hx hb d_R_isNeeded_68 rfl hl (by decide) rfl (fun ls hl => ?_)
                  obtain ⟨x4_22, ex4_22⟩ : ∃ y : Int32, y = x4 + 1 := ⟨_, rfl⟩
                  have hw := hw x4_22 ex4_22
                  refine lv_iinc (v := x4_22) (lv' := [(4, .int x4_22), (3, .int 0), (0, .ref (ad 11))]) hx hb d_R_isNeeded_69 hl (k := 2) rfl (by rw [ex4_22]; rfl) (by decide) rfl (fun ls hl => ?_)
                  refine lv_goto (tgt := 5) hx hb d_R_isNeeded_72 (by decide) ?_
                  exact ih 0 x4_22 _ _ _ hw hP hD hS (lv_sub hl [2, 1, 0] rfl)
                · have hw := hwf c_21
                  refine lv_iconst (v := 1) hx hb d_R_isNeeded_63 (by decide) ?_
                  refine lv_goto (tgt := 68) hx hb d_R_isNeeded_64 (by decide) ?_
                  refine lv_istore_n (lv' := [(3, .int 1), (0, .ref (ad 11)), (4, .int x4)]) hx hb d_R_isNeeded_68 rfl hl (by decide) rfl (fun ls hl => ?_)
                  obtain ⟨x4_23, ex4_23⟩ : ∃ y : Int32, y = x4 + 1 := ⟨_, rfl⟩
                  have hw := hw x4_23 ex4_23
                  refine lv_iinc (v := x4_23) (lv' := [(4, .int x4_23), (3, .int 1), (0, .ref (ad 11))]) hx hb d_R_isNeeded_69 hl (k := 2) rfl (by rw [ex4_23]; rfl) (by decide) rfl (fun ls hl => ?_)
                  refine lv_goto (tgt := 5) hx hb d_R_isNeeded_72 (by decide) ?_
                  exact ih 1 x4_23 _ _ _ hw hP hD hS (lv_sub hl [2, 1, 0] rfl)
  refine lv_iload_n hx hb d_R_isNeeded_0 rfl (lv_at hl 2 rfl) ?_
  refine lv_istore_n (lv' := [(3, .int p1), (0, .ref (ad 11)), (1, .int p0), (2, .int p1)]) hx hb d_R_isNeeded_1 rfl hl (by decide) rfl (fun ls hl => ?_)
  refine lv_iload_n hx hb d_R_isNeeded_2 rfl (lv_at hl 2 rfl) ?_
  refine lv_istore (lv' := [(4, .int p0), (3, .int p1), (0, .ref (ad 11)), (1, .int p0), (2, .int p1)]) hx hb d_R_isNeeded_3 hl (by decide) rfl (fun ls hl => ?_)
  obtain ⟨fu5, hw⟩ := hw
  exact L_5 rsize rval risP cnt look bad byZ inr rpl hld hSg hVl fu5 p1 p0 _ _ _ hw hP hD hS (lv_sub hl [2, 1, 0] rfl)

abbrev wd_R_quotient (ad : Nat → Nat) (ck : Nat → ClassId)  : va_W := []
def w_R_quotient_19 (post : Int64 → Prop) (x0 : Int64) (x2 : Int64) : Nat → Int64 → Int64 → Int32 → Prop
  | 0 => fun _ _ _ => False
  | n + 1 => fun x5 x7 x9 => (x9 < 0 → (post x5)) ∧ (¬ x9 < 0 → ((0 ≤ (lg_cmp x7 0) → (∀ x7_4 : Int64, x7_4 = ((x7 <<< ((1 : Int32).toInt64 &&& 63)) ||| (((x0.toUInt64 >>> (x9.toInt64.toUInt64 &&& Int64.toUInt64 63)).toInt64) &&& 1)) → (((0 : Int32) = 0 → (((lg_cmp (x7_4 + (-9223372036854775808)) (x2 + (-9223372036854775808))) < 0 → (∀ x9_10 : Int32, x9_10 = x9 + (-1) → (w_R_quotient_19 post x0 x2 n x5 x7_4 x9_10))) ∧ (¬ (lg_cmp (x7_4 + (-9223372036854775808)) (x2 + (-9223372036854775808))) < 0 → (∀ x7_11 : Int64, x7_11 = (x7_4 - x2) → (∀ x5_12 : Int64, x5_12 = (x5 ||| (1 <<< (x9.toInt64 &&& 63))) → (∀ x9_13 : Int32, x9_13 = x9 + (-1) → (w_R_quotient_19 post x0 x2 n x5_12 x7_11 x9_13))))))) ∧ (¬ (0 : Int32) = 0 → (∀ x7_6 : Int64, x7_6 = (x7_4 - x2) → (∀ x5_7 : Int64, x5_7 = (x5 ||| (1 <<< (x9.toInt64 &&& 63))) → (∀ x9_8 : Int32, x9_8 = x9 + (-1) → (w_R_quotient_19 post x0 x2 n x5_7 x7_6 x9_8)))))))) ∧ (¬ 0 ≤ (lg_cmp x7 0) → (∀ x7_14 : Int64, x7_14 = ((x7 <<< ((1 : Int32).toInt64 &&& 63)) ||| (((x0.toUInt64 >>> (x9.toInt64.toUInt64 &&& Int64.toUInt64 63)).toInt64) &&& 1)) → (((1 : Int32) = 0 → (((lg_cmp (x7_14 + (-9223372036854775808)) (x2 + (-9223372036854775808))) < 0 → (∀ x9_20 : Int32, x9_20 = x9 + (-1) → (w_R_quotient_19 post x0 x2 n x5 x7_14 x9_20))) ∧ (¬ (lg_cmp (x7_14 + (-9223372036854775808)) (x2 + (-9223372036854775808))) < 0 → (∀ x7_21 : Int64, x7_21 = (x7_14 - x2) → (∀ x5_22 : Int64, x5_22 = (x5 ||| (1 <<< (x9.toInt64 &&& 63))) → (∀ x9_23 : Int32, x9_23 = x9 + (-1) → (w_R_quotient_19 post x0 x2 n x5_22 x7_21 x9_23))))))) ∧ (¬ (1 : Int32) = 0 → (∀ x7_16 : Int64, x7_16 = (x7_14 - x2) → (∀ x5_17 : Int64, x5_17 = (x5 ||| (1 <<< (x9.toInt64 &&& 63))) → (∀ x9_18 : Int32, x9_18 = x9 + (-1) → (w_R_quotient_19 post x0 x2 n x5_17 x7_16 x9_18))))))))))
def wp_R_quotient (post : Int64 → Prop)  (p0 : Int64) (p1 : Int64) (p2 : Int32) : Prop := (p2 = 0 → (¬ p1 = 0 ∧ (post (p0 / p1)))) ∧ (¬ p2 = 0 → (∃ fu19 : Nat, w_R_quotient_19 post p0 p1 fu19 0 0 63))
set_option maxHeartbeats 4000000 in
set_option maxRecDepth 100000 in
theorem kc_R_quotient (l : Launch) (dC : Nat → ClassId) (dI : Nat → Nat → Nat) (ad : Nat → Nat) (ck : Nat → ClassId)  (p0 : Int64) (p1 : Int64) (p2 : Int32) {post : Int64 → Prop} (hw : wp_R_quotient post  p0 p1 p2) : k_Cl l y_R_quotient ws_R_quotient ({ frames := 0, cells := 0, slots := 0, locals := 0 } : Room) (dC, dI) vwCl (TYr ck) k_x0 [.long p0, .long p1, .int p2] ([]) (fun (r : Int64) (u : Unit) => post r ) (fun (u : Unit) => []) := by
  intro sz
  refine Met.ofW (cc := c_R_quotient) (maxL := 11) (ret := (some .long)) (by decide) rfl ?_
  intro p e s m args below meth c s₁ B hml hv
  obtain ⟨rfl, hsz, hP, hK, hD0, hX⟩ := hv
  have hx := B.exec
  have hb := B.bytes
  have hr := B.returns
  have hts : ∀ w ∈ TB, w.before _ s = true := fun w h => atoms_spec (ws := ws_R_quotient) B.pre w (List.mem_cons_of_mem _ h)
  have hown : s.vm.findClass R_R = some m.cls := findClass_of_methodNamed B.named
  have hlocks := B.notSynchronized
  subst hsz
  have hD := hD0.self (sz := s.heap.size)
  generalize hAe : va_A ([]) s.heap.size = A at hD hX ⊢
  have hA : ∀ q : Nat, s.heap.size ≤ q → A q := fun q h => by rw [← hAe]; exact Or.inr h
  have hS : va_S A s.heap s.heap [] := va_S.rf
  have hP : va_P (dC, dI) vwCl ([]) s.heap := hP
  have hl := lv_entry ([.long p0, .long p1, .int p2]) (n := 11) (Nat.le_of_ble_eq_true rfl)
  rw [lg_entry_eq]
  generalize (lg_sl ([.long p0, .long p1, .int p2]) ++ List.replicate (11 - (lg_sl ([.long p0, .long p1, .int p2])).length) Slot.unset).toArray = ls at hl ⊢
  have hl : lv_has ls 11 [(0, .long p0), (2, .long p1), (4, .int p2)] := hl
  have L_19 : ∀ (x0 : Int64) (x2 : Int64) (n : Nat) (x5 : Int64) (x7 : Int64) (x9 : Int32) (H : Heap) (locs : List Loc) (ls : Array Slot), w_R_quotient_19 post x0 x2 n x5 x7 x9 → va_P (dC, dI) vwCl ([]) H → va_D A ([]) → va_S A s.heap H locs → lv_has ls 11 [(0, .long x0), (2, .long x2), (5, .long x5), (7, .long x7), (9, .int x9)] → W p l e (headSpec ws_R_quotient ({ frames := 0, cells := 0, slots := 0, locals := 0 } : Room)).room s m ([.long p0, .long p1, .int p2] : List Value).toArray below meth c H locs 0 0 (k_Ql below (dC, dI) vwCl (TYr ck) A (fun (r : Int64) (u : Unit) => post r ) (fun (u : Unit) => []) ([.long p0, .long p1, .int p2] : List Value).toArray s) (F0 m 19 ls []) := by
    intro x0 x2 n
    induction n with
    | zero =>
      intro x5 x7 x9 H locs ls hw
      exact False.elim hw
    | succ n ih =>
      intro x5 x7 x9 H locs ls hw hP hD hS hl
      refine lv_iload hx hb d_R_quotient_19 (lv_at hl 4 rfl) ?_
      obtain ⟨hwt, hwf⟩ := hw
      refine lv_if_lt (tgt := 92) hx hb d_R_quotient_21 (by decide) (fun c_2 => ?_) (fun c_2 => ?_)
      · have hw := hwt c_2
        refine lv_lload hx hb d_R_quotient_92 (lv_at hl 2 rfl) ?_
        exact W.lret (v := x5) hx hb hr (fun t ht hW => ⟨⟨x5, (), rfl, hw, by rw [ht]; exact hP, va_K.moved hW.alike hK, hD⟩, hS.F ht⟩) hS.2.2 d_R_quotient_94
      · have hw := hwf c_2
        refine lv_lload hx hb d_R_quotient_24 (lv_at hl 3 rfl) ?_
        refine lv_lconst (v := 0) hx hb d_R_quotient_26 (by decide) ?_
        refine W.lcmp hx hb d_R_quotient_27 ?_
        obtain ⟨hwt, hwf⟩ := hw
        refine lv_if_ge (tgt := 35) hx hb d_R_quotient_28 (by decide) (fun c_3 => ?_) (fun c_3 => ?_)
        · have hw := hwt c_3
          refine lv_iconst (v := 0) hx hb d_R_quotient_35 (by decide) ?_
          refine lv_istore (lv' := [(10, .int 0), (0, .long x0), (2, .long x2), (5, .long x5), (7, .long x7), (9, .int x9)]) hx hb d_R_quotient_36 hl (by decide) rfl (fun ls hl => ?_)
          refine lv_lload hx hb d_R_quotient_38 (lv_at hl 4 rfl) ?_
          refine lv_iconst (v := 1) hx hb d_R_quotient_40 (by decide) ?_
          refine lv_lshl (v := (x7 <<< ((1 : Int32).toInt64 &&& 63))) hx hb d_R_quotient_41 rfl ?_
          refine lv_lload_n hx hb d_R_quotient_42 rfl (lv_at hl 1 rfl) ?_
          refine lv_iload hx hb d_R_quotient_43 (lv_at hl 5 rfl) ?_
          refine lv_lushr (v := (x0.toUInt64 >>> (x9.toInt64.toUInt64 &&& Int64.toUInt64 63)).toInt64) hx hb d_R_quotient_45 rfl ?_
          refine lv_lconst (v := 1) hx hb d_R_quotient_46 (by decide) ?_
          refine lv_land hx hb d_R_quotient_47 ?_
          refine lv_lor hx hb d_R_quotient_48 ?_
          refine lv_topl (fun x7_4 ex7_4 => ?_)
          have hw := hw x7_4 ex7_4
          refine lv_lstore (lv' := [(7, .long x7_4), (10, .int 0), (0, .long x0), (2, .long x2), (5, .long x5), (9, .int x9)]) hx hb d_R_quotient_49 hl (by decide) rfl (fun ls hl => ?_)
          refine lv_iload hx hb d_R_quotient_51 (lv_at hl 1 rfl) ?_
          obtain ⟨hwt, hwf⟩ := hw
          refine lv_if_ne (tgt := 71) hx hb d_R_quotient_53 (by decide) (fun c_5 => ?_) (fun c_5 => ?_)
          · have hw := hwf c_5
            refine lv_lload hx hb d_R_quotient_71 (lv_at hl 0 rfl) ?_
            refine lv_lload_n hx hb d_R_quotient_73 rfl (lv_at hl 3 rfl) ?_
            refine lv_lsub hx hb d_R_quotient_74 ?_
            refine lv_topl (fun x7_6 ex7_6 => ?_)
            have hw := hw x7_6 ex7_6
            refine lv_lstore (lv' := [(7, .long x7_6), (10, .int 0), (0, .long x0), (2, .long x2), (5, .long x5), (9, .int x9)]) hx hb d_R_quotient_75 hl (by decide) rfl (fun ls hl => ?_)
            refine lv_lload hx hb d_R_quotient_77 (lv_at hl 4 rfl) ?_
            refine lv_lconst (v := 1) hx hb d_R_quotient_79 (by decide) ?_
            refine lv_iload hx hb d_R_quotient_80 (lv_at hl 5 rfl) ?_
            refine lv_lshl (v := (1 <<< (x9.toInt64 &&& 63))) hx hb d_R_quotient_82 rfl ?_
            refine lv_lor hx hb d_R_quotient_83 ?_
            refine lv_topl (fun x5_7 ex5_7 => ?_)
            have hw := hw x5_7 ex5_7
            refine lv_lstore (lv' := [(5, .long x5_7), (7, .long x7_6), (10, .int 0), (0, .long x0), (2, .long x2), (9, .int x9)]) hx hb d_R_quotient_84 hl (by decide) rfl (fun ls hl => ?_)
            obtain ⟨x9_8, ex9_8⟩ : ∃ y : Int32, y = x9 + (-1) := ⟨_, rfl⟩
            have hw := hw x9_8 ex9_8
            refine lv_iinc (v := x9_8) (lv' := [(9, .int x9_8), (5, .long x5_7), (7, .long x7_6), (10, .int 0), (0, .long x0), (2, .long x2)]) hx hb d_R_quotient_86 hl (k := 5) rfl (by rw [ex9_8]; rfl) (by decide) rfl (fun ls hl => ?_)
            refine lv_goto (tgt := 19) hx hb d_R_quotient_89 (by decide) ?_
            exact ih x5_7 x7_6 x9_8 _ _ _ hw hP hD hS (lv_sub hl [4, 5, 1, 2, 0] rfl)
          · have hw := hwt c_5
            refine lv_lload hx hb d_R_quotient_56 (lv_at hl 0 rfl) ?_
            refine lv_ldc2 (v := (-9223372036854775808)) hx hb hown (hts _ ux_94) d_R_quotient_58 ?_
            refine lv_ladd hx hb d_R_quotient_61 ?_
            refine lv_lload_n hx hb d_R_quotient_62 rfl (lv_at hl 3 rfl) ?_
            refine lv_ldc2 (v := (-9223372036854775808)) hx hb hown (hts _ ux_94) d_R_quotient_63 ?_
            refine lv_ladd hx hb d_R_quotient_66 ?_
            refine W.lcmp hx hb d_R_quotient_67 ?_
            obtain ⟨hwt, hwf⟩ := hw
            refine lv_if_lt (tgt := 86) hx hb d_R_quotient_68 (by decide) (fun c_9 => ?_) (fun c_9 => ?_)
            · have hw := hwt c_9
              obtain ⟨x9_10, ex9_10⟩ : ∃ y : Int32, y = x9 + (-1) := ⟨_, rfl⟩
              have hw := hw x9_10 ex9_10
              refine lv_iinc (v := x9_10) (lv' := [(9, .int x9_10), (7, .long x7_4), (10, .int 0), (0, .long x0), (2, .long x2), (5, .long x5)]) hx hb d_R_quotient_86 hl (k := 5) rfl (by rw [ex9_10]; rfl) (by decide) rfl (fun ls hl => ?_)
              refine lv_goto (tgt := 19) hx hb d_R_quotient_89 (by decide) ?_
              exact ih x5 x7_4 x9_10 _ _ _ hw hP hD hS (lv_sub hl [3, 4, 5, 1, 0] rfl)
            · have hw := hwf c_9
              refine lv_lload hx hb d_R_quotient_71 (lv_at hl 0 rfl) ?_
              refine lv_lload_n hx hb d_R_quotient_73 rfl (lv_at hl 3 rfl) ?_
              refine lv_lsub hx hb d_R_quotient_74 ?_
              refine lv_topl (fun x7_11 ex7_11 => ?_)
              have hw := hw x7_11 ex7_11
              refine lv_lstore (lv' := [(7, .long x7_11), (10, .int 0), (0, .long x0), (2, .long x2), (5, .long x5), (9, .int x9)]) hx hb d_R_quotient_75 hl (by decide) rfl (fun ls hl => ?_)
              refine lv_lload hx hb d_R_quotient_77 (lv_at hl 4 rfl) ?_
              refine lv_lconst (v := 1) hx hb d_R_quotient_79 (by decide) ?_
              refine lv_iload hx hb d_R_quotient_80 (lv_at hl 5 rfl) ?_
              refine lv_lshl (v := (1 <<< (x9.toInt64 &&& 63))) hx hb d_R_quotient_82 rfl ?_
              refine lv_lor hx hb d_R_quotient_83 ?_
              refine lv_topl (fun x5_12 ex5_12 => ?_)
              have hw := hw x5_12 ex5_12
              refine lv_lstore (lv' := [(5, .long x5_12), (7, .long x7_11), (10, .int 0), (0, .long x0), (2, .long x2), (9, .int x9)]) hx hb d_R_quotient_84 hl (by decide) rfl (fun ls hl => ?_)
              obtain ⟨x9_13, ex9_13⟩ : ∃ y : Int32, y = x9 + (-1) := ⟨_, rfl⟩
              have hw := hw x9_13 ex9_13
              refine lv_iinc (v := x9_13) (lv' := [(9, .int x9_13), (5, .long x5_12), (7, .long x7_11), (10, .int 0), (0, .long x0), (2, .long x2)]) hx hb d_R_quotient_86 hl (k := 5) rfl (by rw [ex9_13]; rfl) (by decide) rfl (fun ls hl => ?_)
              refine lv_goto (tgt := 19) hx hb d_R_quotient_89 (by decide) ?_
              exact ih x5_12 x7_11 x9_13 _ _ _ hw hP hD hS (lv_sub hl [4, 5, 1, 2, 0] rfl)
        · have hw := hwf c_3
          refine lv_iconst (v := 1) hx hb d_R_quotient_31 (by decide) ?_
          refine lv_goto (tgt := 36) hx hb d_R_quotient_32 (by decide) ?_
          refine lv_istore (lv' := [(10, .int 1), (0, .long x0), (2, .long x2), (5, .long x5), (7, .long x7), (9, .int x9)]) hx hb d_R_quotient_36 hl (by decide) rfl (fun ls hl => ?_)
          refine lv_lload hx hb d_R_quotient_38 (lv_at hl 4 rfl) ?_
          refine lv_iconst (v := 1) hx hb d_R_quotient_40 (by decide) ?_
          refine lv_lshl (v := (x7 <<< ((1 : Int32).toInt64 &&& 63))) hx hb d_R_quotient_41 rfl ?_
          refine lv_lload_n hx hb d_R_quotient_42 rfl (lv_at hl 1 rfl) ?_
          refine lv_iload hx hb d_R_quotient_43 (lv_at hl 5 rfl) ?_
          refine lv_lushr (v := (x0.toUInt64 >>> (x9.toInt64.toUInt64 &&& Int64.toUInt64 63)).toInt64) hx hb d_R_quotient_45 rfl ?_
          refine lv_lconst (v := 1) hx hb d_R_quotient_46 (by decide) ?_
          refine lv_land hx hb d_R_quotient_47 ?_
          refine lv_lor hx hb d_R_quotient_48 ?_
          refine lv_topl (fun x7_14 ex7_14 => ?_)
          have hw := hw x7_14 ex7_14
          refine lv_lstore (lv' := [(7, .long x7_14), (10, .int 1), (0, .long x0), (2, .long x2), (5, .long x5), (9, .int x9)]) hx hb d_R_quotient_49 hl (by decide) rfl (fun ls hl => ?_)
          refine lv_iload hx hb d_R_quotient_51 (lv_at hl 1 rfl) ?_
          obtain ⟨hwt, hwf⟩ := hw
          refine lv_if_ne (tgt := 71) hx hb d_R_quotient_53 (by decide) (fun c_15 => ?_) (fun c_15 => ?_)
          · have hw := hwf c_15
            refine lv_lload hx hb d_R_quotient_71 (lv_at hl 0 rfl) ?_
            refine lv_lload_n hx hb d_R_quotient_73 rfl (lv_at hl 3 rfl) ?_
            refine lv_lsub hx hb d_R_quotient_74 ?_
            refine lv_topl (fun x7_16 ex7_16 => ?_)
            have hw := hw x7_16 ex7_16
            refine lv_lstore (lv' := [(7, .long x7_16), (10, .int 1), (0, .long x0), (2, .long x2), (5, .long x5), (9, .int x9)]) hx hb d_R_quotient_75 hl (by decide) rfl (fun ls hl => ?_)
            refine lv_lload hx hb d_R_quotient_77 (lv_at hl 4 rfl) ?_
            refine lv_lconst (v := 1) hx hb d_R_quotient_79 (by decide) ?_
            refine lv_iload hx hb d_R_quotient_80 (lv_at hl 5 rfl) ?_
            refine lv_lshl (v := (1 <<< (x9.toInt64 &&& 63))) hx hb d_R_quotient_82 rfl ?_
            refine lv_lor hx hb d_R_quotient_83 ?_
            refine lv_topl (fun x5_17 ex5_17 => ?_)
            have hw := hw x5_17 ex5_17
            refine lv_lstore (lv' := [(5, .long x5_17), (7, .long x7_16), (10, .int 1), (0, .long x0), (2, .long x2), (9, .int x9)]) hx hb d_R_quotient_84 hl (by decide) rfl (fun ls hl => ?_)
            obtain ⟨x9_18, ex9_18⟩ : ∃ y : Int32, y = x9 + (-1) := ⟨_, rfl⟩
            have hw := hw x9_18 ex9_18
            refine lv_iinc (v := x9_18) (lv' := [(9, .int x9_18), (5, .long x5_17), (7, .long x7_16), (10, .int 1), (0, .long x0), (2, .long x2)]) hx hb d_R_quotient_86 hl (k := 5) rfl (by rw [ex9_18]; rfl) (by decide) rfl (fun ls hl => ?_)
            refine lv_goto (tgt := 19) hx hb d_R_quotient_89 (by decide) ?_
            exact ih x5_17 x7_16 x9_18 _ _ _ hw hP hD hS (lv_sub hl [4, 5, 1, 2, 0] rfl)
          · have hw := hwt c_15
            refine lv_lload hx hb d_R_quotient_56 (lv_at hl 0 rfl) ?_
            refine lv_ldc2 (v := (-9223372036854775808)) hx hb hown (hts _ ux_94) d_R_quotient_58 ?_
            refine lv_ladd hx hb d_R_quotient_61 ?_
            refine lv_lload_n hx hb d_R_quotient_62 rfl (lv_at hl 3 rfl) ?_
            refine lv_ldc2 (v := (-9223372036854775808)) hx hb hown (hts _ ux_94) d_R_quotient_63 ?_
            refine lv_ladd hx hb d_R_quotient_66 ?_
            refine W.lcmp hx hb d_R_quotient_67 ?_
            obtain ⟨hwt, hwf⟩ := hw
            refine lv_if_lt (tgt := 86) hx hb d_R_quotient_68 (by decide) (fun c_19 => ?_) (fun c_19 => ?_)
            · have hw := hwt c_19
              obtain ⟨x9_20, ex9_20⟩ : ∃ y : Int32, y = x9 + (-1) := ⟨_, rfl⟩
              have hw := hw x9_20 ex9_20
              refine lv_iinc (v := x9_20) (lv' := [(9, .int x9_20), (7, .long x7_14), (10, .int 1), (0, .long x0), (2, .long x2), (5, .long x5)]) hx hb d_R_quotient_86 hl (k := 5) rfl (by rw [ex9_20]; rfl) (by decide) rfl (fun ls hl => ?_)
              refine lv_goto (tgt := 19) hx hb d_R_quotient_89 (by decide) ?_
              exact ih x5 x7_14 x9_20 _ _ _ hw hP hD hS (lv_sub hl [3, 4, 5, 1, 0] rfl)
            · have hw := hwf c_19
              refine lv_lload hx hb d_R_quotient_71 (lv_at hl 0 rfl) ?_
              refine lv_lload_n hx hb d_R_quotient_73 rfl (lv_at hl 3 rfl) ?_
              refine lv_lsub hx hb d_R_quotient_74 ?_
              refine lv_topl (fun x7_21 ex7_21 => ?_)
              have hw := hw x7_21 ex7_21
              refine lv_lstore (lv' := [(7, .long x7_21), (10, .int 1), (0, .long x0), (2, .long x2), (5, .long x5), (9, .int x9)]) hx hb d_R_quotient_75 hl (by decide) rfl (fun ls hl => ?_)
              refine lv_lload hx hb d_R_quotient_77 (lv_at hl 4 rfl) ?_
              refine lv_lconst (v := 1) hx hb d_R_quotient_79 (by decide) ?_
              refine lv_iload hx hb d_R_quotient_80 (lv_at hl 5 rfl) ?_
              refine lv_lshl (v := (1 <<< (x9.toInt64 &&& 63))) hx hb d_R_quotient_82 rfl ?_
              refine lv_lor hx hb d_R_quotient_83 ?_
              refine lv_topl (fun x5_22 ex5_22 => ?_)
              have hw := hw x5_22 ex5_22
              refine lv_lstore (lv' := [(5, .long x5_22), (7, .long x7_21), (10, .int 1), (0, .long x0), (2, .long x2), (9, .int x9)]) hx hb d_R_quotient_84 hl (by decide) rfl (fun ls hl => ?_)
              obtain ⟨x9_23, ex9_23⟩ : ∃ y : Int32, y = x9 + (-1) := ⟨_, rfl⟩
              have hw := hw x9_23 ex9_23
              refine lv_iinc (v := x9_23) (lv' := [(9, .int x9_23), (5, .long x5_22), (7, .long x7_21), (10, .int 1), (0, .long x0), (2, .long x2)]) hx hb d_R_quotient_86 hl (k := 5) rfl (by rw [ex9_23]; rfl) (by decide) rfl (fun ls hl => ?_)
              refine lv_goto (tgt := 19) hx hb d_R_quotient_89 (by decide) ?_
              exact ih x5_22 x7_21 x9_23 _ _ _ hw hP hD hS (lv_sub hl [4, 5, 1, 2, 0] rfl)
  refine lv_iload hx hb d_R_quotient_0 (lv_at hl 2 rfl) ?_
  obtain ⟨hwt, hwf⟩ := hw
  refine lv_if_ne (tgt := 9) hx hb d_R_quotient_2 (by decide) (fun c_1 => ?_) (fun c_1 => ?_)
  · have hw := hwf c_1
    refine lv_lconst (v := 0) hx hb d_R_quotient_9 (by decide) ?_
    refine lv_lstore (lv' := [(5, .long 0), (0, .long p0), (2, .long p1), (4, .int p2)]) hx hb d_R_quotient_10 hl (by decide) rfl (fun ls hl => ?_)
    refine lv_lconst (v := 0) hx hb d_R_quotient_12 (by decide) ?_
    refine lv_lstore (lv' := [(7, .long 0), (5, .long 0), (0, .long p0), (2, .long p1), (4, .int p2)]) hx hb d_R_quotient_13 hl (by decide) rfl (fun ls hl => ?_)
    refine lv_bipush (v := 63) hx hb d_R_quotient_15 (by decide) ?_
    refine lv_istore (lv' := [(9, .int 63), (7, .long 0), (5, .long 0), (0, .long p0), (2, .long p1), (4, .int p2)]) hx hb d_R_quotient_17 hl (by decide) rfl (fun ls hl => ?_)
    obtain ⟨fu19, hw⟩ := hw
    exact L_19 p0 p1 fu19 0 0 63 _ _ _ hw hP hD hS (lv_sub hl [3, 4, 2, 1, 0] rfl)
  · have hw := hwt c_1
    refine lv_lload_n hx hb d_R_quotient_5 rfl (lv_at hl 0 rfl) ?_
    refine lv_lload_n hx hb d_R_quotient_6 rfl (lv_at hl 1 rfl) ?_
    obtain ⟨hz_24, hw⟩ := hw
    refine lv_ldiv hx hb d_R_quotient_7 hz_24 ?_
    exact W.lret (v := (p0 / p1)) hx hb hr (fun t ht hW => ⟨⟨(p0 / p1), (), rfl, hw, by rw [ht]; exact hP, va_K.moved hW.alike hK, hD⟩, hS.F ht⟩) hS.2.2 d_R_quotient_8

abbrev wd_R_join (ad : Nat → Nat) (ck : Nat → ClassId) (rsize : Int32) (rval : Int64) (risP : Int32) (cnt : Int32) (look : Int32) (bad : Int32) (byZ : Int32) (inr : Int32) (rpl : Int32) (hld : Int32) : va_W := [(ad 11, .inr (5, [.int rsize, .ref (ad 12), .long rval, .int risP, .int cnt, .ref (ad 13), .ref (ad 14), .int look, .int bad, .int byZ, .int inr, .int rpl, .int hld, .ref (ad 15), .ref (ad 16), .ref (ad 17)]))]
def w_R_join_402 (post : Int64 → Int32 → Int32 → Prop) (x1 : Int32) (x2 : Int64) (x4 : Int64) (x8 : Int32) (z0 : Int32) (rsize : Int32) (rval : Int64) (risP : Int32) (cnt : Int32) (look : Int32) (bad : Int32) (byZ : Int32) (inr : Int32) (rpl : Int32) (hld : Int32) : Prop := vz z0 ∧ (((lg_cmp x4 0) = 0 → (post 0 z0 rpl)) ∧ (¬ (lg_cmp x4 0) = 0 → ((x1 = 16 → (wp_R_quotient (fun (r_40 : Int64) => post r_40 z0 rpl) x2 x4 x8)) ∧ (¬ x1 = 16 → (wp_R_quotient (fun (r_39 : Int64) => post (x2 - (x4 * r_39)) z0 rpl) x2 x4 x8)))))
def w_R_join_106 (post : Int64 → Int32 → Int32 → Prop) (x1 : Int32) (x2 : Int64) (x4 : Int64) (x7 : Int32) (x8 : Int32) (x9 : Int32) (z0 : Int32) (rsize : Int32) (rval : Int64) (risP : Int32) (cnt : Int32) (look : Int32) (bad : Int32) (byZ : Int32) (inr : Int32) (rpl : Int32) (hld : Int32) : Prop := (x1 = 0 → (((lg_cmp x2 0) = 0 → (((lg_cmp x4 0) = 0 → (post 0 byZ rpl)) ∧ (¬ (lg_cmp x4 0) = 0 → (post 1 byZ rpl)))) ∧ (¬ (lg_cmp x2 0) = 0 → (post 1 byZ rpl)))) ∧ (¬ x1 = 0 → ((x1 = 1 → (((lg_cmp x2 0) = 0 → (post 0 byZ rpl)) ∧ (¬ (lg_cmp x2 0) = 0 → (((lg_cmp x4 0) = 0 → (post 0 byZ rpl)) ∧ (¬ (lg_cmp x4 0) = 0 → (post 1 byZ rpl)))))) ∧ (¬ x1 = 1 → ((x1 = 2 → (post (x2 ||| x4) byZ rpl)) ∧ (¬ x1 = 2 → ((x1 = 3 → (post (x2 ^^^ x4) byZ rpl)) ∧ (¬ x1 = 3 → ((x1 = 4 → (post (x2 &&& x4) byZ rpl)) ∧ (¬ x1 = 4 → ((x1 = 5 → (((lg_cmp x2 x4) = 0 → (post 1 byZ rpl)) ∧ (¬ (lg_cmp x2 x4) = 0 → (post 0 byZ rpl)))) ∧ (¬ x1 = 5 → ((x1 = 6 → (((lg_cmp x2 x4) = 0 → (post 0 byZ rpl)) ∧ (¬ (lg_cmp x2 x4) = 0 → (post 1 byZ rpl)))) ∧ (¬ x1 = 6 → ((x1 = 7 → ((z0 = 0 → (post 0 byZ rpl)) ∧ (¬ z0 = 0 → (post 1 byZ rpl)))) ∧ (¬ x1 = 7 → ((x1 = 8 → ((z0 = 0 → (((lg_cmp x2 x4) = 0 → (post 0 byZ rpl)) ∧ (¬ (lg_cmp x2 x4) = 0 → (post 1 byZ rpl)))) ∧ (¬ z0 = 0 → (post 0 byZ rpl)))) ∧ (¬ x1 = 8 → ((x1 = 9 → ((z0 = 0 → (((lg_cmp x2 x4) = 0 → (post 1 byZ rpl)) ∧ (¬ (lg_cmp x2 x4) = 0 → (post 0 byZ rpl)))) ∧ (¬ z0 = 0 → (post 1 byZ rpl)))) ∧ (¬ x1 = 9 → ((x1 = 10 → ((z0 = 0 → (post 1 byZ rpl)) ∧ (¬ z0 = 0 → (post 0 byZ rpl)))) ∧ (¬ x1 = 10 → ((x1 = 11 → (post (x2 <<< (((x4 &&& 63).toInt32).toInt64 &&& 63)) byZ rpl)) ∧ (¬ x1 = 11 → ((x1 = 12 → ((x9 = 0 → (post (x2 >>> (((x4 &&& 63).toInt32).toInt64 &&& 63)) byZ rpl)) ∧ (¬ x9 = 0 → (post ((x2.toUInt64 >>> (((x4 &&& 63).toInt32).toInt64.toUInt64 &&& Int64.toUInt64 63)).toInt64) byZ rpl)))) ∧ (¬ x1 = 12 → ((x1 = 13 → (post (x2 + x4) byZ rpl)) ∧ (¬ x1 = 13 → ((x1 = 14 → (post (x2 - x4) byZ rpl)) ∧ (¬ x1 = 14 → ((x1 = 15 → (post (x2 * x4) byZ rpl)) ∧ (¬ x1 = 15 → ((byZ = 0 → ((x7 = 0 → (w_R_join_402 post x1 x2 x4 x8 0 rsize rval risP cnt look bad byZ inr rpl hld)) ∧ (¬ x7 = 0 → (((lg_cmp x4 0) = 0 → (w_R_join_402 post x1 x2 x4 x8 1 rsize rval risP cnt look bad byZ inr rpl hld)) ∧ (¬ (lg_cmp x4 0) = 0 → (w_R_join_402 post x1 x2 x4 x8 0 rsize rval risP cnt look bad byZ inr rpl hld)))))) ∧ (¬ byZ = 0 → (w_R_join_402 post x1 x2 x4 x8 1 rsize rval risP cnt look bad byZ inr rpl hld))))))))))))))))))))))))))))))))))
def w_R_join_63 (post : Int64 → Int32 → Int32 → Prop) (x1 : Int32) (x2 : Int64) (x4 : Int64) (x7 : Int32) (x8 : Int32) (x9 : Int32) (z0 : Int32) (rsize : Int32) (rval : Int64) (risP : Int32) (cnt : Int32) (look : Int32) (bad : Int32) (byZ : Int32) (inr : Int32) (rpl : Int32) (hld : Int32) : Prop := vz z0 ∧ ((x8 = 0 → ((0 ≤ (lg_cmp x2 x4) → (w_R_join_106 post x1 x2 x4 x7 x8 x9 0 rsize rval risP cnt look bad byZ inr z0 hld)) ∧ (¬ 0 ≤ (lg_cmp x2 x4) → (w_R_join_106 post x1 x2 x4 x7 x8 x9 1 rsize rval risP cnt look bad byZ inr z0 hld)))) ∧ (¬ x8 = 0 → ((0 ≤ (lg_cmp (x2 + (-9223372036854775808)) (x4 + (-9223372036854775808))) → (w_R_join_106 post x1 x2 x4 x7 x8 x9 0 rsize rval risP cnt look bad byZ inr z0 hld)) ∧ (¬ 0 ≤ (lg_cmp (x2 + (-9223372036854775808)) (x4 + (-9223372036854775808))) → (w_R_join_106 post x1 x2 x4 x7 x8 x9 1 rsize rval risP cnt look bad byZ inr z0 hld)))))
def w_R_join_17 (post : Int64 → Int32 → Int32 → Prop) (x1 : Int32) (x2 : Int64) (x4 : Int64) (x6 : Int32) (x7 : Int32) (z0 : Int32) (rsize : Int32) (rval : Int64) (risP : Int32) (cnt : Int32) (look : Int32) (bad : Int32) (byZ : Int32) (inr : Int32) (rpl : Int32) (hld : Int32) : Prop := (x1 < 2 → (w_R_join_63 post x1 x2 x4 x7 z0 x6 0 rsize rval risP cnt look bad byZ inr rpl hld)) ∧ (¬ x1 < 2 → ((x1 ≤ 4 → ((x1 = 11 → (w_R_join_63 post x1 x2 x4 x7 z0 x6 x6 rsize rval risP cnt look bad byZ inr rpl hld)) ∧ (¬ x1 = 11 → ((x1 = 12 → (w_R_join_63 post x1 x2 x4 x7 z0 x6 x6 rsize rval risP cnt look bad byZ inr rpl hld)) ∧ (¬ x1 = 12 → (w_R_join_63 post x1 x2 x4 x7 z0 x6 z0 rsize rval risP cnt look bad byZ inr rpl hld)))))) ∧ (¬ x1 ≤ 4 → ((11 ≤ x1 → ((x1 = 11 → (w_R_join_63 post x1 x2 x4 x7 z0 x6 x6 rsize rval risP cnt look bad byZ inr rpl hld)) ∧ (¬ x1 = 11 → ((x1 = 12 → (w_R_join_63 post x1 x2 x4 x7 z0 x6 x6 rsize rval risP cnt look bad byZ inr rpl hld)) ∧ (¬ x1 = 12 → (w_R_join_63 post x1 x2 x4 x7 z0 x6 z0 rsize rval risP cnt look bad byZ inr rpl hld)))))) ∧ (¬ 11 ≤ x1 → (w_R_join_63 post x1 x2 x4 x7 z0 x6 0 rsize rval risP cnt look bad byZ inr rpl hld))))))
def wp_R_join (post : Int64 → Int32 → Int32 → Prop) (rsize : Int32) (rval : Int64) (risP : Int32) (cnt : Int32) (look : Int32) (bad : Int32) (byZ : Int32) (inr : Int32) (rpl : Int32) (hld : Int32) (p0 : Int32) (p1 : Int64) (p2 : Int64) (p3 : Int32) (p4 : Int32) : Prop := (p3 = 0 → ((rpl = 0 → (w_R_join_17 post p0 p1 p2 p3 p4 0 rsize rval risP cnt look bad byZ inr rpl hld)) ∧ (¬ rpl = 0 → (w_R_join_17 post p0 p1 p2 p3 p4 1 rsize rval risP cnt look bad byZ inr rpl hld)))) ∧ (¬ p3 = 0 → (w_R_join_17 post p0 p1 p2 p3 p4 1 rsize rval risP cnt look bad byZ inr rpl hld))
set_option maxHeartbeats 4000000 in
set_option maxRecDepth 100000 in
theorem kc_R_join (l : Launch) (dC : Nat → ClassId) (dI : Nat → Nat → Nat) (ad : Nat → Nat) (ck : Nat → ClassId) (rsize : Int32) (rval : Int64) (risP : Int32) (cnt : Int32) (look : Int32) (bad : Int32) (byZ : Int32) (inr : Int32) (rpl : Int32) (hld : Int32) (p0 : Int32) (p1 : Int64) (p2 : Int64) (p3 : Int32) (p4 : Int32) {post : Int64 → Int32 → Int32 → Prop} (hw : wp_R_join post rsize rval risP cnt look bad byZ inr rpl hld p0 p1 p2 p3 p4) : k_Cl l y_R_join ws_R_join ({ frames := 1, cells := 0, slots := 0, locals := 30 } : Room) (dC, dI) vwCl (TYr ck) k_x0 [.ref (ad 11), .int p0, .long p1, .long p2, .int p3, .int p4] (wd_R_join ad ck rsize rval risP cnt look bad byZ inr rpl hld) (fun (r : Int64) (u : Int32 × Int32) => post r u.1 u.2) (fun (u : Int32 × Int32) => wd_R_join ad ck rsize rval risP cnt look bad u.1 inr u.2 hld) := by
  intro sz
  refine Met.ofW (cc := c_R_join) (maxL := 11) (ret := (some .long)) (by decide) rfl ?_
  intro p e s m args below meth c s₁ B hml hv
  obtain ⟨rfl, hsz, hP, hK, hD0, hX⟩ := hv
  have hx := B.exec
  have hb := B.bytes
  have hr := B.returns
  have hts : ∀ w ∈ TB, w.before _ s = true := fun w h => atoms_spec (ws := ws_R_join) B.pre w (List.mem_cons_of_mem _ h)
  have hown : s.vm.findClass R_R = some m.cls := findClass_of_methodNamed B.named
  have hlocks := B.notSynchronized
  subst hsz
  have hD := hD0.self (sz := s.heap.size)
  generalize hAe : va_A (wd_R_join ad ck rsize rval risP cnt look bad byZ inr rpl hld) s.heap.size = A at hD hX ⊢
  have hA : ∀ q : Nat, s.heap.size ≤ q → A q := fun q h => by rw [← hAe]; exact Or.inr h
  have hS : va_S A s.heap s.heap [] := va_S.rf
  have hP : va_P (dC, dI) vwCl (wd_R_join ad ck rsize rval risP cnt look bad byZ inr rpl hld) s.heap := hP
  have hl := lv_entry ([.ref (ad 11), .int p0, .long p1, .long p2, .int p3, .int p4]) (n := 11) (Nat.le_of_ble_eq_true rfl)
  rw [lg_entry_eq]
  generalize (lg_sl ([.ref (ad 11), .int p0, .long p1, .long p2, .int p3, .int p4]) ++ List.replicate (11 - (lg_sl ([.ref (ad 11), .int p0, .long p1, .long p2, .int p3, .int p4])).length) Slot.unset).toArray = ls at hl ⊢
  have hl : lv_has ls 11 [(0, .ref (ad 11)), (1, .int p0), (2, .long p1), (4, .long p2), (6, .int p3), (7, .int p4)] := hl
  have L_402 : ∀ (x1 : Int32) (x2 : Int64) (x4 : Int64) (x8 : Int32) (z0 : Int32) (rsize : Int32) (rval : Int64) (risP : Int32) (cnt : Int32) (look : Int32) (bad : Int32) (byZ : Int32) (inr : Int32) (rpl : Int32) (hld : Int32) (H : Heap) (locs : List Loc) (ls : Array Slot), w_R_join_402 post x1 x2 x4 x8 z0 rsize rval risP cnt look bad byZ inr rpl hld → va_P (dC, dI) vwCl (wd_R_join ad ck rsize rval risP cnt look bad byZ inr rpl hld) H → va_D A (wd_R_join ad ck rsize rval risP cnt look bad byZ inr rpl hld) → va_S A s.heap H locs → lv_has ls 11 [(1, .int x1), (2, .long x2), (4, .long x4), (8, .int x8)] → W p l e (headSpec ws_R_join ({ frames := 1, cells := 0, slots := 0, locals := 30 } : Room)).room s m ([.ref (ad 11), .int p0, .long p1, .long p2, .int p3, .int p4] : List Value).toArray below meth c H locs 0 0 (k_Ql below (dC, dI) vwCl (TYr ck) A (fun (r : Int64) (u : Int32 × Int32) => post r u.1 u.2) (fun (u : Int32 × Int32) => wd_R_join ad ck rsize rval risP cnt look bad u.1 inr u.2 hld) ([.ref (ad 11), .int p0, .long p1, .long p2, .int p3, .int p4] : List Value).toArray s) (F0 m 402 ls [.int z0, .ref (ad 11)]) := by
    intro x1 x2 x4 x8 z0 rsize rval risP cnt look bad byZ inr rpl hld H locs ls hw hP hD hS hl
    obtain ⟨hz_36, hw⟩ := hw
    refine va_put (D := (dC, dI)) (ci := 5) (v := .int z0) (ty := .boolean) (C := R_R) (T := T_R) (N := 16) hx hb hts in_R ty_R ty_R_ok nm_R hown hK hP hD hS 0 rfl rfl 9 (by decide) (hts _ ux_97) (fun _ h9 => h9) rfl (by decide +kernel) (vz_n hz_36) (vz_f hz_36) (Nat.le_of_ble_eq_true rfl) d_R_join_402 (fun H locs hP hD hS => ?_)
    have hP : va_P (dC, dI) vwCl (wd_R_join ad ck rsize rval risP cnt look bad z0 inr rpl hld) H := hP
    have hD : va_D A (wd_R_join ad ck rsize rval risP cnt look bad z0 inr rpl hld) := hD
    refine lv_lload hx hb d_R_join_405 (lv_at hl 2 rfl) ?_
    refine lv_lconst (v := 0) hx hb d_R_join_407 (by decide) ?_
    refine W.lcmp hx hb d_R_join_408 ?_
    obtain ⟨hwt, hwf⟩ := hw
    refine lv_if_ne (tgt := 416) hx hb d_R_join_409 (by decide) (fun c_37 => ?_) (fun c_37 => ?_)
    · have hw := hwf c_37
      refine lv_iload_n hx hb d_R_join_416 rfl (lv_at hl 0 rfl) ?_
      refine lv_bipush (v := 16) hx hb d_R_join_417 (by decide) ?_
      obtain ⟨hwt, hwf⟩ := hw
      refine lv_icmp_ne (tgt := 433) hx hb d_R_join_419 (by decide) (fun c_38 => ?_) (fun c_38 => ?_)
      · have hw := hwf c_38
        refine lv_lload_n hx hb d_R_join_433 rfl (lv_at hl 1 rfl) ?_
        refine lv_lload hx hb d_R_join_434 (lv_at hl 2 rfl) ?_
        refine lv_lload_n hx hb d_R_join_436 rfl (lv_at hl 1 rfl) ?_
        refine lv_lload hx hb d_R_join_437 (lv_at hl 2 rfl) ?_
        refine lv_iload hx hb d_R_join_439 (lv_at hl 3 rfl) ?_
        refine k_callSl (As := [.long x2, .long x4, .int x8]) (rest := [.long x4, .long x2]) (fun (u : Unit) => wd_R_join ad ck rsize rval risP cnt look bad z0 inr rpl hld) ⟨hx, hb, hml, hown, hts⟩ (kc_R_quotient l dC dI ad ck x2 x4 x8 (hw := hw)) (va_cwS 3 hts (gS ux_98 ux_100 ux_49 ux_99) rfl rfl rfl hd_R_quotient ⟨Nat.le_of_ble_eq_true rfl, Nat.le_of_ble_eq_true rfl⟩) hK hP hD hS hA k_x0c trivial [] [0] [0] rfl rfl (by decide) (by decide) (fun _ => rfl) rfl hl.1 rfl (lv_room (Nat.le_of_ble_eq_true rfl)) d_R_join_441 ⟨Nat.zero_le _, Nat.zero_le _⟩ ?_
        intro r_39 u H locs hw hP hD hS
        have hP : va_P (dC, dI) vwCl (wd_R_join ad ck rsize rval risP cnt look bad z0 inr rpl hld) H := hP
        have hD : va_D A (wd_R_join ad ck rsize rval risP cnt look bad z0 inr rpl hld) := hD
        try dsimp only at hw
        refine lv_lmul hx hb d_R_join_444 ?_
        refine lv_lsub hx hb d_R_join_445 ?_
        exact W.lret (v := (x2 - (x4 * r_39))) hx hb hr (fun t ht hW => ⟨⟨(x2 - (x4 * r_39)), (z0, rpl), rfl, hw, by rw [ht]; exact hP, va_K.moved hW.alike hK, hD⟩, hS.F ht⟩) hS.2.2 d_R_join_446
      · have hw := hwt c_38
        refine lv_lload_n hx hb d_R_join_422 rfl (lv_at hl 1 rfl) ?_
        refine lv_lload hx hb d_R_join_423 (lv_at hl 2 rfl) ?_
        refine lv_iload hx hb d_R_join_425 (lv_at hl 3 rfl) ?_
        refine k_callSl (As := [.long x2, .long x4, .int x8]) (rest := []) (fun (u : Unit) => wd_R_join ad ck rsize rval risP cnt look bad z0 inr rpl hld) ⟨hx, hb, hml, hown, hts⟩ (kc_R_quotient l dC dI ad ck x2 x4 x8 (hw := hw)) (va_cwS 3 hts (gS ux_98 ux_100 ux_49 ux_99) rfl rfl rfl hd_R_quotient ⟨Nat.le_of_ble_eq_true rfl, Nat.le_of_ble_eq_true rfl⟩) hK hP hD hS hA k_x0c trivial [] [0] [0] rfl rfl (by decide) (by decide) (fun _ => rfl) rfl hl.1 rfl (lv_room (Nat.le_of_ble_eq_true rfl)) d_R_join_427 ⟨Nat.zero_le _, Nat.zero_le _⟩ ?_
        intro r_40 u H locs hw hP hD hS
        have hP : va_P (dC, dI) vwCl (wd_R_join ad ck rsize rval risP cnt look bad z0 inr rpl hld) H := hP
        have hD : va_D A (wd_R_join ad ck rsize rval risP cnt look bad z0 inr rpl hld) := hD
        try dsimp only at hw
        refine lv_goto (tgt := 446) hx hb d_R_join_430 (by decide) ?_
        exact W.lret (v := r_40) hx hb hr (fun t ht hW => ⟨⟨r_40, (z0, rpl), rfl, hw, by rw [ht]; exact hP, va_K.moved hW.alike hK, hD⟩, hS.F ht⟩) hS.2.2 d_R_join_446
    · have hw := hwt c_37
      refine lv_lconst (v := 0) hx hb d_R_join_412 (by decide) ?_
      refine lv_goto (tgt := 446) hx hb d_R_join_413 (by decide) ?_
      exact W.lret (v := 0) hx hb hr (fun t ht hW => ⟨⟨0, (z0, rpl), rfl, hw, by rw [ht]; exact hP, va_K.moved hW.alike hK, hD⟩, hS.F ht⟩) hS.2.2 d_R_join_446
  have L_106 : ∀ (x1 : Int32) (x2 : Int64) (x4 : Int64) (x7 : Int32) (x8 : Int32) (x9 : Int32) (z0 : Int32) (rsize : Int32) (rval : Int64) (risP : Int32) (cnt : Int32) (look : Int32) (bad : Int32) (byZ : Int32) (inr : Int32) (rpl : Int32) (hld : Int32) (H : Heap) (locs : List Loc) (ls : Array Slot), w_R_join_106 post x1 x2 x4 x7 x8 x9 z0 rsize rval risP cnt look bad byZ inr rpl hld → va_P (dC, dI) vwCl (wd_R_join ad ck rsize rval risP cnt look bad byZ inr rpl hld) H → va_D A (wd_R_join ad ck rsize rval risP cnt look bad byZ inr rpl hld) → va_S A s.heap H locs → lv_has ls 11 [(0, .ref (ad 11)), (1, .int x1), (2, .long x2), (4, .long x4), (7, .int x7), (8, .int x8), (9, .int x9)] → W p l e (headSpec ws_R_join ({ frames := 1, cells := 0, slots := 0, locals := 30 } : Room)).room s m ([.ref (ad 11), .int p0, .long p1, .long p2, .int p3, .int p4] : List Value).toArray below meth c H locs 0 0 (k_Ql below (dC, dI) vwCl (TYr ck) A (fun (r : Int64) (u : Int32 × Int32) => post r u.1 u.2) (fun (u : Int32 × Int32) => wd_R_join ad ck rsize rval risP cnt look bad u.1 inr u.2 hld) ([.ref (ad 11), .int p0, .long p1, .long p2, .int p3, .int p4] : List Value).toArray s) (F0 m 106 ls [.int z0]) := by
    intro x1 x2 x4 x7 x8 x9 z0 rsize rval risP cnt look bad byZ inr rpl hld H locs ls hw hP hD hS hl
    refine lv_istore (lv' := [(10, .int z0), (0, .ref (ad 11)), (1, .int x1), (2, .long x2), (4, .long x4), (7, .int x7), (8, .int x8), (9, .int x9)]) hx hb d_R_join_106 hl (by decide) rfl (fun ls hl => ?_)
    refine lv_iload_n hx hb d_R_join_108 rfl (lv_at hl 2 rfl) ?_
    obtain ⟨hwt, hwf⟩ := hw
    by_cases c_6 : x1 = 0
    · have hw := hwt c_6
      refine lv_tableIn (off := 79) (tgt := 188) hx hb d_R_join_109 (by rw [c_6]; decide) (by rw [c_6]; decide) (by rw [c_6]; decide) (by decide) ?_
      refine lv_lload_n hx hb d_R_join_188 rfl (lv_at hl 3 rfl) ?_
      refine lv_lconst (v := 0) hx hb d_R_join_189 (by decide) ?_
      refine W.lcmp hx hb d_R_join_190 ?_
      obtain ⟨hwt, hwf⟩ := hw
      refine lv_if_ne (tgt := 201) hx hb d_R_join_191 (by decide) (fun c_7 => ?_) (fun c_7 => ?_)
      · have hw := hwf c_7
        refine lv_lconst (v := 1) hx hb d_R_join_201 (by decide) ?_
        refine lv_goto (tgt := 206) hx hb d_R_join_202 (by decide) ?_
        exact W.lret (v := 1) hx hb hr (fun t ht hW => ⟨⟨1, (byZ, rpl), rfl, hw, by rw [ht]; exact hP, va_K.moved hW.alike hK, hD⟩, hS.F ht⟩) hS.2.2 d_R_join_206
      · have hw := hwt c_7
        refine lv_lload hx hb d_R_join_194 (lv_at hl 4 rfl) ?_
        refine lv_lconst (v := 0) hx hb d_R_join_196 (by decide) ?_
        refine W.lcmp hx hb d_R_join_197 ?_
        obtain ⟨hwt, hwf⟩ := hw
        refine lv_if_eq (tgt := 205) hx hb d_R_join_198 (by decide) (fun c_8 => ?_) (fun c_8 => ?_)
        · have hw := hwt c_8
          refine lv_lconst (v := 0) hx hb d_R_join_205 (by decide) ?_
          exact W.lret (v := 0) hx hb hr (fun t ht hW => ⟨⟨0, (byZ, rpl), rfl, hw, by rw [ht]; exact hP, va_K.moved hW.alike hK, hD⟩, hS.F ht⟩) hS.2.2 d_R_join_206
        · have hw := hwf c_8
          refine lv_lconst (v := 1) hx hb d_R_join_201 (by decide) ?_
          refine lv_goto (tgt := 206) hx hb d_R_join_202 (by decide) ?_
          exact W.lret (v := 1) hx hb hr (fun t ht hW => ⟨⟨1, (byZ, rpl), rfl, hw, by rw [ht]; exact hP, va_K.moved hW.alike hK, hD⟩, hS.F ht⟩) hS.2.2 d_R_join_206
    · have hw := hwf c_6
      obtain ⟨hwt, hwf⟩ := hw
      by_cases c_9 : x1 = 1
      · have hw := hwt c_9
        refine lv_tableIn (off := 98) (tgt := 207) hx hb d_R_join_109 (by rw [c_9]; decide) (by rw [c_9]; decide) (by rw [c_9]; decide) (by decide) ?_
        refine lv_lload_n hx hb d_R_join_207 rfl (lv_at hl 3 rfl) ?_
        refine lv_lconst (v := 0) hx hb d_R_join_208 (by decide) ?_
        refine W.lcmp hx hb d_R_join_209 ?_
        obtain ⟨hwt, hwf⟩ := hw
        refine lv_if_eq (tgt := 224) hx hb d_R_join_210 (by decide) (fun c_10 => ?_) (fun c_10 => ?_)
        · have hw := hwt c_10
          refine lv_lconst (v := 0) hx hb d_R_join_224 (by decide) ?_
          exact W.lret (v := 0) hx hb hr (fun t ht hW => ⟨⟨0, (byZ, rpl), rfl, hw, by rw [ht]; exact hP, va_K.moved hW.alike hK, hD⟩, hS.F ht⟩) hS.2.2 d_R_join_225
        · have hw := hwf c_10
          refine lv_lload hx hb d_R_join_213 (lv_at hl 4 rfl) ?_
          refine lv_lconst (v := 0) hx hb d_R_join_215 (by decide) ?_
          refine W.lcmp hx hb d_R_join_216 ?_
          obtain ⟨hwt, hwf⟩ := hw
          refine lv_if_eq (tgt := 224) hx hb d_R_join_217 (by decide) (fun c_11 => ?_) (fun c_11 => ?_)
          · have hw := hwt c_11
            refine lv_lconst (v := 0) hx hb d_R_join_224 (by decide) ?_
            exact W.lret (v := 0) hx hb hr (fun t ht hW => ⟨⟨0, (byZ, rpl), rfl, hw, by rw [ht]; exact hP, va_K.moved hW.alike hK, hD⟩, hS.F ht⟩) hS.2.2 d_R_join_225
          · have hw := hwf c_11
            refine lv_lconst (v := 1) hx hb d_R_join_220 (by decide) ?_
            refine lv_goto (tgt := 225) hx hb d_R_join_221 (by decide) ?_
            exact W.lret (v := 1) hx hb hr (fun t ht hW => ⟨⟨1, (byZ, rpl), rfl, hw, by rw [ht]; exact hP, va_K.moved hW.alike hK, hD⟩, hS.F ht⟩) hS.2.2 d_R_join_225
      · have hw := hwf c_9
        obtain ⟨hwt, hwf⟩ := hw
        by_cases c_12 : x1 = 2
        · have hw := hwt c_12
          refine lv_tableIn (off := 117) (tgt := 226) hx hb d_R_join_109 (by rw [c_12]; decide) (by rw [c_12]; decide) (by rw [c_12]; decide) (by decide) ?_
          refine lv_lload_n hx hb d_R_join_226 rfl (lv_at hl 3 rfl) ?_
          refine lv_lload hx hb d_R_join_227 (lv_at hl 4 rfl) ?_
          refine lv_lor hx hb d_R_join_229 ?_
          exact W.lret (v := (x2 ||| x4)) hx hb hr (fun t ht hW => ⟨⟨(x2 ||| x4), (byZ, rpl), rfl, hw, by rw [ht]; exact hP, va_K.moved hW.alike hK, hD⟩, hS.F ht⟩) hS.2.2 d_R_join_230
        · have hw := hwf c_12
          obtain ⟨hwt, hwf⟩ := hw
          by_cases c_13 : x1 = 3
          · have hw := hwt c_13
            refine lv_tableIn (off := 122) (tgt := 231) hx hb d_R_join_109 (by rw [c_13]; decide) (by rw [c_13]; decide) (by rw [c_13]; decide) (by decide) ?_
            refine lv_lload_n hx hb d_R_join_231 rfl (lv_at hl 3 rfl) ?_
            refine lv_lload hx hb d_R_join_232 (lv_at hl 4 rfl) ?_
            refine lv_lxor hx hb d_R_join_234 ?_
            exact W.lret (v := (x2 ^^^ x4)) hx hb hr (fun t ht hW => ⟨⟨(x2 ^^^ x4), (byZ, rpl), rfl, hw, by rw [ht]; exact hP, va_K.moved hW.alike hK, hD⟩, hS.F ht⟩) hS.2.2 d_R_join_235
          · have hw := hwf c_13
            obtain ⟨hwt, hwf⟩ := hw
            by_cases c_14 : x1 = 4
            · have hw := hwt c_14
              refine lv_tableIn (off := 127) (tgt := 236) hx hb d_R_join_109 (by rw [c_14]; decide) (by rw [c_14]; decide) (by rw [c_14]; decide) (by decide) ?_
              refine lv_lload_n hx hb d_R_join_236 rfl (lv_at hl 3 rfl) ?_
              refine lv_lload hx hb d_R_join_237 (lv_at hl 4 rfl) ?_
              refine lv_land hx hb d_R_join_239 ?_
              exact W.lret (v := (x2 &&& x4)) hx hb hr (fun t ht hW => ⟨⟨(x2 &&& x4), (byZ, rpl), rfl, hw, by rw [ht]; exact hP, va_K.moved hW.alike hK, hD⟩, hS.F ht⟩) hS.2.2 d_R_join_240
            · have hw := hwf c_14
              obtain ⟨hwt, hwf⟩ := hw
              by_cases c_15 : x1 = 5
              · have hw := hwt c_15
                refine lv_tableIn (off := 132) (tgt := 241) hx hb d_R_join_109 (by rw [c_15]; decide) (by rw [c_15]; decide) (by rw [c_15]; decide) (by decide) ?_
                refine lv_lload_n hx hb d_R_join_241 rfl (lv_at hl 3 rfl) ?_
                refine lv_lload hx hb d_R_join_242 (lv_at hl 4 rfl) ?_
                refine W.lcmp hx hb d_R_join_244 ?_
                obtain ⟨hwt, hwf⟩ := hw
                refine lv_if_ne (tgt := 252) hx hb d_R_join_245 (by decide) (fun c_16 => ?_) (fun c_16 => ?_)
                · have hw := hwf c_16
                  refine lv_lconst (v := 0) hx hb d_R_join_252 (by decide) ?_
                  exact W.lret (v := 0) hx hb hr (fun t ht hW => ⟨⟨0, (byZ, rpl), rfl, hw, by rw [ht]; exact hP, va_K.moved hW.alike hK, hD⟩, hS.F ht⟩) hS.2.2 d_R_join_253
                · have hw := hwt c_16
                  refine lv_lconst (v := 1) hx hb d_R_join_248 (by decide) ?_
                  refine lv_goto (tgt := 253) hx hb d_R_join_249 (by decide) ?_
                  exact W.lret (v := 1) hx hb hr (fun t ht hW => ⟨⟨1, (byZ, rpl), rfl, hw, by rw [ht]; exact hP, va_K.moved hW.alike hK, hD⟩, hS.F ht⟩) hS.2.2 d_R_join_253
              · have hw := hwf c_15
                obtain ⟨hwt, hwf⟩ := hw
                by_cases c_17 : x1 = 6
                · have hw := hwt c_17
                  refine lv_tableIn (off := 145) (tgt := 254) hx hb d_R_join_109 (by rw [c_17]; decide) (by rw [c_17]; decide) (by rw [c_17]; decide) (by decide) ?_
                  refine lv_lload_n hx hb d_R_join_254 rfl (lv_at hl 3 rfl) ?_
                  refine lv_lload hx hb d_R_join_255 (lv_at hl 4 rfl) ?_
                  refine W.lcmp hx hb d_R_join_257 ?_
                  obtain ⟨hwt, hwf⟩ := hw
                  refine lv_if_eq (tgt := 265) hx hb d_R_join_258 (by decide) (fun c_18 => ?_) (fun c_18 => ?_)
                  · have hw := hwt c_18
                    refine lv_lconst (v := 0) hx hb d_R_join_265 (by decide) ?_
                    exact W.lret (v := 0) hx hb hr (fun t ht hW => ⟨⟨0, (byZ, rpl), rfl, hw, by rw [ht]; exact hP, va_K.moved hW.alike hK, hD⟩, hS.F ht⟩) hS.2.2 d_R_join_266
                  · have hw := hwf c_18
                    refine lv_lconst (v := 1) hx hb d_R_join_261 (by decide) ?_
                    refine lv_goto (tgt := 266) hx hb d_R_join_262 (by decide) ?_
                    exact W.lret (v := 1) hx hb hr (fun t ht hW => ⟨⟨1, (byZ, rpl), rfl, hw, by rw [ht]; exact hP, va_K.moved hW.alike hK, hD⟩, hS.F ht⟩) hS.2.2 d_R_join_266
                · have hw := hwf c_17
                  obtain ⟨hwt, hwf⟩ := hw
                  by_cases c_19 : x1 = 7
                  · have hw := hwt c_19
                    refine lv_tableIn (off := 158) (tgt := 267) hx hb d_R_join_109 (by rw [c_19]; decide) (by rw [c_19]; decide) (by rw [c_19]; decide) (by decide) ?_
                    refine lv_iload hx hb d_R_join_267 (lv_at hl 0 rfl) ?_
                    obtain ⟨hwt, hwf⟩ := hw
                    refine lv_if_eq (tgt := 276) hx hb d_R_join_269 (by decide) (fun c_20 => ?_) (fun c_20 => ?_)
                    · have hw := hwt c_20
                      refine lv_lconst (v := 0) hx hb d_R_join_276 (by decide) ?_
                      exact W.lret (v := 0) hx hb hr (fun t ht hW => ⟨⟨0, (byZ, rpl), rfl, hw, by rw [ht]; exact hP, va_K.moved hW.alike hK, hD⟩, hS.F ht⟩) hS.2.2 d_R_join_277
                    · have hw := hwf c_20
                      refine lv_lconst (v := 1) hx hb d_R_join_272 (by decide) ?_
                      refine lv_goto (tgt := 277) hx hb d_R_join_273 (by decide) ?_
                      exact W.lret (v := 1) hx hb hr (fun t ht hW => ⟨⟨1, (byZ, rpl), rfl, hw, by rw [ht]; exact hP, va_K.moved hW.alike hK, hD⟩, hS.F ht⟩) hS.2.2 d_R_join_277
                  · have hw := hwf c_19
                    obtain ⟨hwt, hwf⟩ := hw
                    by_cases c_21 : x1 = 8
                    · have hw := hwt c_21
                      refine lv_tableIn (off := 169) (tgt := 278) hx hb d_R_join_109 (by rw [c_21]; decide) (by rw [c_21]; decide) (by rw [c_21]; decide) (by decide) ?_
                      refine lv_iload hx hb d_R_join_278 (lv_at hl 0 rfl) ?_
                      obtain ⟨hwt, hwf⟩ := hw
                      refine lv_if_ne (tgt := 294) hx hb d_R_join_280 (by decide) (fun c_22 => ?_) (fun c_22 => ?_)
                      · have hw := hwf c_22
                        refine lv_lconst (v := 0) hx hb d_R_join_294 (by decide) ?_
                        exact W.lret (v := 0) hx hb hr (fun t ht hW => ⟨⟨0, (byZ, rpl), rfl, hw, by rw [ht]; exact hP, va_K.moved hW.alike hK, hD⟩, hS.F ht⟩) hS.2.2 d_R_join_295
                      · have hw := hwt c_22
                        refine lv_lload_n hx hb d_R_join_283 rfl (lv_at hl 3 rfl) ?_
                        refine lv_lload hx hb d_R_join_284 (lv_at hl 4 rfl) ?_
                        refine W.lcmp hx hb d_R_join_286 ?_
                        obtain ⟨hwt, hwf⟩ := hw
                        refine lv_if_eq (tgt := 294) hx hb d_R_join_287 (by decide) (fun c_23 => ?_) (fun c_23 => ?_)
                        · have hw := hwt c_23
                          refine lv_lconst (v := 0) hx hb d_R_join_294 (by decide) ?_
                          exact W.lret (v := 0) hx hb hr (fun t ht hW => ⟨⟨0, (byZ, rpl), rfl, hw, by rw [ht]; exact hP, va_K.moved hW.alike hK, hD⟩, hS.F ht⟩) hS.2.2 d_R_join_295
                        · have hw := hwf c_23
                          refine lv_lconst (v := 1) hx hb d_R_join_290 (by decide) ?_
                          refine lv_goto (tgt := 295) hx hb d_R_join_291 (by decide) ?_
                          exact W.lret (v := 1) hx hb hr (fun t ht hW => ⟨⟨1, (byZ, rpl), rfl, hw, by rw [ht]; exact hP, va_K.moved hW.alike hK, hD⟩, hS.F ht⟩) hS.2.2 d_R_join_295
                    · have hw := hwf c_21
                      obtain ⟨hwt, hwf⟩ := hw
                      by_cases c_24 : x1 = 9
                      · have hw := hwt c_24
                        refine lv_tableIn (off := 187) (tgt := 296) hx hb d_R_join_109 (by rw [c_24]; decide) (by rw [c_24]; decide) (by rw [c_24]; decide) (by decide) ?_
                        refine lv_iload hx hb d_R_join_296 (lv_at hl 0 rfl) ?_
                        obtain ⟨hwt, hwf⟩ := hw
                        refine lv_if_ne (tgt := 308) hx hb d_R_join_298 (by decide) (fun c_25 => ?_) (fun c_25 => ?_)
                        · have hw := hwf c_25
                          refine lv_lconst (v := 1) hx hb d_R_join_308 (by decide) ?_
                          refine lv_goto (tgt := 313) hx hb d_R_join_309 (by decide) ?_
                          exact W.lret (v := 1) hx hb hr (fun t ht hW => ⟨⟨1, (byZ, rpl), rfl, hw, by rw [ht]; exact hP, va_K.moved hW.alike hK, hD⟩, hS.F ht⟩) hS.2.2 d_R_join_313
                        · have hw := hwt c_25
                          refine lv_lload_n hx hb d_R_join_301 rfl (lv_at hl 3 rfl) ?_
                          refine lv_lload hx hb d_R_join_302 (lv_at hl 4 rfl) ?_
                          refine W.lcmp hx hb d_R_join_304 ?_
                          obtain ⟨hwt, hwf⟩ := hw
                          refine lv_if_ne (tgt := 312) hx hb d_R_join_305 (by decide) (fun c_26 => ?_) (fun c_26 => ?_)
                          · have hw := hwf c_26
                            refine lv_lconst (v := 0) hx hb d_R_join_312 (by decide) ?_
                            exact W.lret (v := 0) hx hb hr (fun t ht hW => ⟨⟨0, (byZ, rpl), rfl, hw, by rw [ht]; exact hP, va_K.moved hW.alike hK, hD⟩, hS.F ht⟩) hS.2.2 d_R_join_313
                          · have hw := hwt c_26
                            refine lv_lconst (v := 1) hx hb d_R_join_308 (by decide) ?_
                            refine lv_goto (tgt := 313) hx hb d_R_join_309 (by decide) ?_
                            exact W.lret (v := 1) hx hb hr (fun t ht hW => ⟨⟨1, (byZ, rpl), rfl, hw, by rw [ht]; exact hP, va_K.moved hW.alike hK, hD⟩, hS.F ht⟩) hS.2.2 d_R_join_313
                      · have hw := hwf c_24
                        obtain ⟨hwt, hwf⟩ := hw
                        by_cases c_27 : x1 = 10
                        · have hw := hwt c_27
                          refine lv_tableIn (off := 205) (tgt := 314) hx hb d_R_join_109 (by rw [c_27]; decide) (by rw [c_27]; decide) (by rw [c_27]; decide) (by decide) ?_
                          refine lv_iload hx hb d_R_join_314 (lv_at hl 0 rfl) ?_
                          obtain ⟨hwt, hwf⟩ := hw
                          refine lv_if_eq (tgt := 323) hx hb d_R_join_316 (by decide) (fun c_28 => ?_) (fun c_28 => ?_)
                          · have hw := hwt c_28
                            refine lv_lconst (v := 1) hx hb d_R_join_323 (by decide) ?_
                            exact W.lret (v := 1) hx hb hr (fun t ht hW => ⟨⟨1, (byZ, rpl), rfl, hw, by rw [ht]; exact hP, va_K.moved hW.alike hK, hD⟩, hS.F ht⟩) hS.2.2 d_R_join_324
                          · have hw := hwf c_28
                            refine lv_lconst (v := 0) hx hb d_R_join_319 (by decide) ?_
                            refine lv_goto (tgt := 324) hx hb d_R_join_320 (by decide) ?_
                            exact W.lret (v := 0) hx hb hr (fun t ht hW => ⟨⟨0, (byZ, rpl), rfl, hw, by rw [ht]; exact hP, va_K.moved hW.alike hK, hD⟩, hS.F ht⟩) hS.2.2 d_R_join_324
                        · have hw := hwf c_27
                          obtain ⟨hwt, hwf⟩ := hw
                          by_cases c_29 : x1 = 11
                          · have hw := hwt c_29
                            refine lv_tableIn (off := 216) (tgt := 325) hx hb d_R_join_109 (by rw [c_29]; decide) (by rw [c_29]; decide) (by rw [c_29]; decide) (by decide) ?_
                            refine lv_lload_n hx hb d_R_join_325 rfl (lv_at hl 3 rfl) ?_
                            refine lv_lload hx hb d_R_join_326 (lv_at hl 4 rfl) ?_
                            refine lv_ldc2 (v := 63) hx hb hown (hts _ ux_96) d_R_join_328 ?_
                            refine lv_land hx hb d_R_join_331 ?_
                            refine lv_l2i (v := (x4 &&& 63).toInt32) hx hb d_R_join_332 rfl ?_
                            refine lv_lshl (v := (x2 <<< (((x4 &&& 63).toInt32).toInt64 &&& 63))) hx hb d_R_join_333 rfl ?_
                            exact W.lret (v := (x2 <<< (((x4 &&& 63).toInt32).toInt64 &&& 63))) hx hb hr (fun t ht hW => ⟨⟨(x2 <<< (((x4 &&& 63).toInt32).toInt64 &&& 63)), (byZ, rpl), rfl, hw, by rw [ht]; exact hP, va_K.moved hW.alike hK, hD⟩, hS.F ht⟩) hS.2.2 d_R_join_334
                          · have hw := hwf c_29
                            obtain ⟨hwt, hwf⟩ := hw
                            by_cases c_30 : x1 = 12
                            · have hw := hwt c_30
                              refine lv_tableIn (off := 226) (tgt := 335) hx hb d_R_join_109 (by rw [c_30]; decide) (by rw [c_30]; decide) (by rw [c_30]; decide) (by decide) ?_
                              refine lv_iload hx hb d_R_join_335 (lv_at hl 7 rfl) ?_
                              obtain ⟨hwt, hwf⟩ := hw
                              refine lv_if_eq (tgt := 352) hx hb d_R_join_337 (by decide) (fun c_31 => ?_) (fun c_31 => ?_)
                              · have hw := hwt c_31
                                refine lv_lload_n hx hb d_R_join_352 rfl (lv_at hl 3 rfl) ?_
                                refine lv_lload hx hb d_R_join_353 (lv_at hl 4 rfl) ?_
                                refine lv_ldc2 (v := 63) hx hb hown (hts _ ux_96) d_R_join_355 ?_
                                refine lv_land hx hb d_R_join_358 ?_
                                refine lv_l2i (v := (x4 &&& 63).toInt32) hx hb d_R_join_359 rfl ?_
                                refine lv_lshr (v := (x2 >>> (((x4 &&& 63).toInt32).toInt64 &&& 63))) hx hb d_R_join_360 rfl ?_
                                exact W.lret (v := (x2 >>> (((x4 &&& 63).toInt32).toInt64 &&& 63))) hx hb hr (fun t ht hW => ⟨⟨(x2 >>> (((x4 &&& 63).toInt32).toInt64 &&& 63)), (byZ, rpl), rfl, hw, by rw [ht]; exact hP, va_K.moved hW.alike hK, hD⟩, hS.F ht⟩) hS.2.2 d_R_join_361
                              · have hw := hwf c_31
                                refine lv_lload_n hx hb d_R_join_340 rfl (lv_at hl 3 rfl) ?_
                                refine lv_lload hx hb d_R_join_341 (lv_at hl 4 rfl) ?_
                                refine lv_ldc2 (v := 63) hx hb hown (hts _ ux_96) d_R_join_343 ?_
                                refine lv_land hx hb d_R_join_346 ?_
                                refine lv_l2i (v := (x4 &&& 63).toInt32) hx hb d_R_join_347 rfl ?_
                                refine lv_lushr (v := (x2.toUInt64 >>> (((x4 &&& 63).toInt32).toInt64.toUInt64 &&& Int64.toUInt64 63)).toInt64) hx hb d_R_join_348 rfl ?_
                                refine lv_goto (tgt := 361) hx hb d_R_join_349 (by decide) ?_
                                exact W.lret (v := ((x2.toUInt64 >>> (((x4 &&& 63).toInt32).toInt64.toUInt64 &&& Int64.toUInt64 63)).toInt64)) hx hb hr (fun t ht hW => ⟨⟨((x2.toUInt64 >>> (((x4 &&& 63).toInt32).toInt64.toUInt64 &&& Int64.toUInt64 63)).toInt64), (byZ, rpl), rfl, hw, by rw [ht]; exact hP, va_K.moved hW.alike hK, hD⟩, hS.F ht⟩) hS.2.2 d_R_join_361
                            · have hw := hwf c_30
                              obtain ⟨hwt, hwf⟩ := hw
                              by_cases c_32 : x1 = 13
                              · have hw := hwt c_32
                                refine lv_tableIn (off := 253) (tgt := 362) hx hb d_R_join_109 (by rw [c_32]; decide) (by rw [c_32]; decide) (by rw [c_32]; decide) (by decide) ?_
                                refine lv_lload_n hx hb d_R_join_362 rfl (lv_at hl 3 rfl) ?_
                                refine lv_lload hx hb d_R_join_363 (lv_at hl 4 rfl) ?_
                                refine lv_ladd hx hb d_R_join_365 ?_
                                exact W.lret (v := (x2 + x4)) hx hb hr (fun t ht hW => ⟨⟨(x2 + x4), (byZ, rpl), rfl, hw, by rw [ht]; exact hP, va_K.moved hW.alike hK, hD⟩, hS.F ht⟩) hS.2.2 d_R_join_366
                              · have hw := hwf c_32
                                obtain ⟨hwt, hwf⟩ := hw
                                by_cases c_33 : x1 = 14
                                · have hw := hwt c_33
                                  refine lv_tableIn (off := 258) (tgt := 367) hx hb d_R_join_109 (by rw [c_33]; decide) (by rw [c_33]; decide) (by rw [c_33]; decide) (by decide) ?_
                                  refine lv_lload_n hx hb d_R_join_367 rfl (lv_at hl 3 rfl) ?_
                                  refine lv_lload hx hb d_R_join_368 (lv_at hl 4 rfl) ?_
                                  refine lv_lsub hx hb d_R_join_370 ?_
                                  exact W.lret (v := (x2 - x4)) hx hb hr (fun t ht hW => ⟨⟨(x2 - x4), (byZ, rpl), rfl, hw, by rw [ht]; exact hP, va_K.moved hW.alike hK, hD⟩, hS.F ht⟩) hS.2.2 d_R_join_371
                                · have hw := hwf c_33
                                  obtain ⟨hwt, hwf⟩ := hw
                                  by_cases c_34 : x1 = 15
                                  · have hw := hwt c_34
                                    refine lv_tableIn (off := 263) (tgt := 372) hx hb d_R_join_109 (by rw [c_34]; decide) (by rw [c_34]; decide) (by rw [c_34]; decide) (by decide) ?_
                                    refine lv_lload_n hx hb d_R_join_372 rfl (lv_at hl 3 rfl) ?_
                                    refine lv_lload hx hb d_R_join_373 (lv_at hl 4 rfl) ?_
                                    refine lv_lmul hx hb d_R_join_375 ?_
                                    exact W.lret (v := (x2 * x4)) hx hb hr (fun t ht hW => ⟨⟨(x2 * x4), (byZ, rpl), rfl, hw, by rw [ht]; exact hP, va_K.moved hW.alike hK, hD⟩, hS.F ht⟩) hS.2.2 d_R_join_376
                                  · have hw := hwf c_34
                                    have nc_6 := lv_neT c_6 (show (0 : Int32).toInt = 0 from rfl)
                                    have nc_9 := lv_neT c_9 (show (1 : Int32).toInt = 1 from rfl)
                                    have nc_12 := lv_neT c_12 (show (2 : Int32).toInt = 2 from rfl)
                                    have nc_13 := lv_neT c_13 (show (3 : Int32).toInt = 3 from rfl)
                                    have nc_14 := lv_neT c_14 (show (4 : Int32).toInt = 4 from rfl)
                                    have nc_15 := lv_neT c_15 (show (5 : Int32).toInt = 5 from rfl)
                                    have nc_17 := lv_neT c_17 (show (6 : Int32).toInt = 6 from rfl)
                                    have nc_19 := lv_neT c_19 (show (7 : Int32).toInt = 7 from rfl)
                                    have nc_21 := lv_neT c_21 (show (8 : Int32).toInt = 8 from rfl)
                                    have nc_24 := lv_neT c_24 (show (9 : Int32).toInt = 9 from rfl)
                                    have nc_27 := lv_neT c_27 (show (10 : Int32).toInt = 10 from rfl)
                                    have nc_29 := lv_neT c_29 (show (11 : Int32).toInt = 11 from rfl)
                                    have nc_30 := lv_neT c_30 (show (12 : Int32).toInt = 12 from rfl)
                                    have nc_32 := lv_neT c_32 (show (13 : Int32).toInt = 13 from rfl)
                                    have nc_33 := lv_neT c_33 (show (14 : Int32).toInt = 14 from rfl)
                                    have nc_34 := lv_neT c_34 (show (15 : Int32).toInt = 15 from rfl)
                                    refine lv_tableOut (tgt := 377) hx hb d_R_join_109 (by omega) (by decide) ?_
                                    refine lv_aload_n hx hb d_R_join_377 rfl (lv_at hl 1 rfl) ?_
                                    refine lv_aload_n hx hb d_R_join_378 rfl (lv_at hl 1 rfl) ?_
                                    refine va_get (D := (dC, dI)) (ci := 5) (v := .int byZ) (C := R_R) (T := T_R) (N := 16) hx hb hts in_R hown hK hP 0 rfl rfl 9 (by decide) (hts _ ux_97) (fun _ h9 => h9) rfl d_R_join_379 ?_
                                    obtain ⟨hwt, hwf⟩ := hw
                                    refine lv_if_ne (tgt := 397) hx hb d_R_join_382 (by decide) (fun c_35 => ?_) (fun c_35 => ?_)
                                    · have hw := hwf c_35
                                      refine lv_iconst (v := 1) hx hb d_R_join_397 (by decide) ?_
                                      refine lv_goto (tgt := 402) hx hb d_R_join_398 (by decide) ?_
                                      exact L_402 x1 x2 x4 x8 1 rsize rval risP cnt look bad byZ inr rpl hld _ _ _ hw hP hD hS (lv_sub hl [2, 3, 4, 6] rfl)
                                    · have hw := hwt c_35
                                      refine lv_iload hx hb d_R_join_385 (lv_at hl 5 rfl) ?_
                                      obtain ⟨hwt, hwf⟩ := hw
                                      refine lv_if_eq (tgt := 401) hx hb d_R_join_387 (by decide) (fun c_41 => ?_) (fun c_41 => ?_)
                                      · have hw := hwt c_41
                                        refine lv_iconst (v := 0) hx hb d_R_join_401 (by decide) ?_
                                        exact L_402 x1 x2 x4 x8 0 rsize rval risP cnt look bad byZ inr rpl hld _ _ _ hw hP hD hS (lv_sub hl [2, 3, 4, 6] rfl)
                                      · have hw := hwf c_41
                                        refine lv_lload hx hb d_R_join_390 (lv_at hl 4 rfl) ?_
                                        refine lv_lconst (v := 0) hx hb d_R_join_392 (by decide) ?_
                                        refine W.lcmp hx hb d_R_join_393 ?_
                                        obtain ⟨hwt, hwf⟩ := hw
                                        refine lv_if_ne (tgt := 401) hx hb d_R_join_394 (by decide) (fun c_42 => ?_) (fun c_42 => ?_)
                                        · have hw := hwf c_42
                                          refine lv_iconst (v := 0) hx hb d_R_join_401 (by decide) ?_
                                          exact L_402 x1 x2 x4 x8 0 rsize rval risP cnt look bad byZ inr rpl hld _ _ _ hw hP hD hS (lv_sub hl [2, 3, 4, 6] rfl)
                                        · have hw := hwt c_42
                                          refine lv_iconst (v := 1) hx hb d_R_join_397 (by decide) ?_
                                          refine lv_goto (tgt := 402) hx hb d_R_join_398 (by decide) ?_
                                          exact L_402 x1 x2 x4 x8 1 rsize rval risP cnt look bad byZ inr rpl hld _ _ _ hw hP hD hS (lv_sub hl [2, 3, 4, 6] rfl)
  have L_63 : ∀ (x1 : Int32) (x2 : Int64) (x4 : Int64) (x7 : Int32) (x8 : Int32) (x9 : Int32) (z0 : Int32) (rsize : Int32) (rval : Int64) (risP : Int32) (cnt : Int32) (look : Int32) (bad : Int32) (byZ : Int32) (inr : Int32) (rpl : Int32) (hld : Int32) (H : Heap) (locs : List Loc) (ls : Array Slot), w_R_join_63 post x1 x2 x4 x7 x8 x9 z0 rsize rval risP cnt look bad byZ inr rpl hld → va_P (dC, dI) vwCl (wd_R_join ad ck rsize rval risP cnt look bad byZ inr rpl hld) H → va_D A (wd_R_join ad ck rsize rval risP cnt look bad byZ inr rpl hld) → va_S A s.heap H locs → lv_has ls 11 [(0, .ref (ad 11)), (1, .int x1), (2, .long x2), (4, .long x4), (7, .int x7), (8, .int x8), (9, .int x9)] → W p l e (headSpec ws_R_join ({ frames := 1, cells := 0, slots := 0, locals := 30 } : Room)).room s m ([.ref (ad 11), .int p0, .long p1, .long p2, .int p3, .int p4] : List Value).toArray below meth c H locs 0 0 (k_Ql below (dC, dI) vwCl (TYr ck) A (fun (r : Int64) (u : Int32 × Int32) => post r u.1 u.2) (fun (u : Int32 × Int32) => wd_R_join ad ck rsize rval risP cnt look bad u.1 inr u.2 hld) ([.ref (ad 11), .int p0, .long p1, .long p2, .int p3, .int p4] : List Value).toArray s) (F0 m 63 ls [.int z0, .ref (ad 11)]) := by
    intro x1 x2 x4 x7 x8 x9 z0 rsize rval risP cnt look bad byZ inr rpl hld H locs ls hw hP hD hS hl
    obtain ⟨hz_3, hw⟩ := hw
    refine va_put (D := (dC, dI)) (ci := 5) (v := .int z0) (ty := .boolean) (C := R_R) (T := T_R) (N := 16) hx hb hts in_R ty_R ty_R_ok nm_R hown hK hP hD hS 0 rfl rfl 11 (by decide) (hts _ ux_95) (fun _ h9 => h9) rfl (by decide +kernel) (vz_n hz_3) (vz_f hz_3) (Nat.le_of_ble_eq_true rfl) d_R_join_63 (fun H locs hP hD hS => ?_)
    have hP : va_P (dC, dI) vwCl (wd_R_join ad ck rsize rval risP cnt look bad byZ inr z0 hld) H := hP
    have hD : va_D A (wd_R_join ad ck rsize rval risP cnt look bad byZ inr z0 hld) := hD
    refine lv_iload hx hb d_R_join_66 (lv_at hl 5 rfl) ?_
    obtain ⟨hwt, hwf⟩ := hw
    refine lv_if_eq (tgt := 94) hx hb d_R_join_68 (by decide) (fun c_4 => ?_) (fun c_4 => ?_)
    · have hw := hwt c_4
      refine lv_lload_n hx hb d_R_join_94 rfl (lv_at hl 2 rfl) ?_
      refine lv_lload hx hb d_R_join_95 (lv_at hl 3 rfl) ?_
      refine W.lcmp hx hb d_R_join_97 ?_
      obtain ⟨hwt, hwf⟩ := hw
      refine lv_if_ge (tgt := 105) hx hb d_R_join_98 (by decide) (fun c_5 => ?_) (fun c_5 => ?_)
      · have hw := hwt c_5
        refine lv_iconst (v := 0) hx hb d_R_join_105 (by decide) ?_
        exact L_106 x1 x2 x4 x7 x8 x9 0 rsize rval risP cnt look bad byZ inr z0 hld _ _ _ hw hP hD hS (lv_sub hl [0, 1, 2, 3, 4, 5, 6] rfl)
      · have hw := hwf c_5
        refine lv_iconst (v := 1) hx hb d_R_join_101 (by decide) ?_
        refine lv_goto (tgt := 106) hx hb d_R_join_102 (by decide) ?_
        exact L_106 x1 x2 x4 x7 x8 x9 1 rsize rval risP cnt look bad byZ inr z0 hld _ _ _ hw hP hD hS (lv_sub hl [0, 1, 2, 3, 4, 5, 6] rfl)
    · have hw := hwf c_4
      refine lv_lload_n hx hb d_R_join_71 rfl (lv_at hl 2 rfl) ?_
      refine lv_ldc2 (v := (-9223372036854775808)) hx hb hown (hts _ ux_94) d_R_join_72 ?_
      refine lv_ladd hx hb d_R_join_75 ?_
      refine lv_lload hx hb d_R_join_76 (lv_at hl 3 rfl) ?_
      refine lv_ldc2 (v := (-9223372036854775808)) hx hb hown (hts _ ux_94) d_R_join_78 ?_
      refine lv_ladd hx hb d_R_join_81 ?_
      refine W.lcmp hx hb d_R_join_82 ?_
      obtain ⟨hwt, hwf⟩ := hw
      refine lv_if_ge (tgt := 90) hx hb d_R_join_83 (by decide) (fun c_43 => ?_) (fun c_43 => ?_)
      · have hw := hwt c_43
        refine lv_iconst (v := 0) hx hb d_R_join_90 (by decide) ?_
        refine lv_goto (tgt := 106) hx hb d_R_join_91 (by decide) ?_
        exact L_106 x1 x2 x4 x7 x8 x9 0 rsize rval risP cnt look bad byZ inr z0 hld _ _ _ hw hP hD hS (lv_sub hl [0, 1, 2, 3, 4, 5, 6] rfl)
      · have hw := hwf c_43
        refine lv_iconst (v := 1) hx hb d_R_join_86 (by decide) ?_
        refine lv_goto (tgt := 106) hx hb d_R_join_87 (by decide) ?_
        exact L_106 x1 x2 x4 x7 x8 x9 1 rsize rval risP cnt look bad byZ inr z0 hld _ _ _ hw hP hD hS (lv_sub hl [0, 1, 2, 3, 4, 5, 6] rfl)
  have L_17 : ∀ (x1 : Int32) (x2 : Int64) (x4 : Int64) (x6 : Int32) (x7 : Int32) (z0 : Int32) (rsize : Int32) (rval : Int64) (risP : Int32) (cnt : Int32) (look : Int32) (bad : Int32) (byZ : Int32) (inr : Int32) (rpl : Int32) (hld : Int32) (H : Heap) (locs : List Loc) (ls : Array Slot), w_R_join_17 post x1 x2 x4 x6 x7 z0 rsize rval risP cnt look bad byZ inr rpl hld → va_P (dC, dI) vwCl (wd_R_join ad ck rsize rval risP cnt look bad byZ inr rpl hld) H → va_D A (wd_R_join ad ck rsize rval risP cnt look bad byZ inr rpl hld) → va_S A s.heap H locs → lv_has ls 11 [(0, .ref (ad 11)), (1, .int x1), (2, .long x2), (4, .long x4), (6, .int x6), (7, .int x7)] → W p l e (headSpec ws_R_join ({ frames := 1, cells := 0, slots := 0, locals := 30 } : Room)).room s m ([.ref (ad 11), .int p0, .long p1, .long p2, .int p3, .int p4] : List Value).toArray below meth c H locs 0 0 (k_Ql below (dC, dI) vwCl (TYr ck) A (fun (r : Int64) (u : Int32 × Int32) => post r u.1 u.2) (fun (u : Int32 × Int32) => wd_R_join ad ck rsize rval risP cnt look bad u.1 inr u.2 hld) ([.ref (ad 11), .int p0, .long p1, .long p2, .int p3, .int p4] : List Value).toArray s) (F0 m 17 ls [.int z0]) := by
    intro x1 x2 x4 x6 x7 z0 rsize rval risP cnt look bad byZ inr rpl hld H locs ls hw hP hD hS hl
    refine lv_istore (lv' := [(8, .int z0), (0, .ref (ad 11)), (1, .int x1), (2, .long x2), (4, .long x4), (6, .int x6), (7, .int x7)]) hx hb d_R_join_17 hl (by decide) rfl (fun ls hl => ?_)
    refine lv_iload hx hb d_R_join_19 (lv_at hl 5 rfl) ?_
    refine lv_istore (lv' := [(9, .int x6), (8, .int z0), (0, .ref (ad 11)), (1, .int x1), (2, .long x2), (4, .long x4), (6, .int x6), (7, .int x7)]) hx hb d_R_join_21 hl (by decide) rfl (fun ls hl => ?_)
    refine lv_aload_n hx hb d_R_join_23 rfl (lv_at hl 2 rfl) ?_
    refine lv_iload_n hx hb d_R_join_24 rfl (lv_at hl 3 rfl) ?_
    refine lv_iconst (v := 2) hx hb d_R_join_25 (by decide) ?_
    obtain ⟨hwt, hwf⟩ := hw
    refine lv_icmp_lt (tgt := 40) hx hb d_R_join_26 (by decide) (fun c_2 => ?_) (fun c_2 => ?_)
    · have hw := hwt c_2
      refine lv_iconst (v := 0) hx hb d_R_join_40 (by decide) ?_
      refine lv_goto (tgt := 63) hx hb d_R_join_41 (by decide) ?_
      exact L_63 x1 x2 x4 x7 z0 x6 0 rsize rval risP cnt look bad byZ inr rpl hld _ _ _ hw hP hD hS (lv_sub hl [2, 3, 4, 5, 7, 1, 0] rfl)
    · have hw := hwf c_2
      refine lv_iload_n hx hb d_R_join_29 rfl (lv_at hl 3 rfl) ?_
      refine lv_iconst (v := 4) hx hb d_R_join_30 (by decide) ?_
      obtain ⟨hwt, hwf⟩ := hw
      refine lv_icmp_le (tgt := 44) hx hb d_R_join_31 (by decide) (fun c_44 => ?_) (fun c_44 => ?_)
      · have hw := hwt c_44
        refine lv_iload_n hx hb d_R_join_44 rfl (lv_at hl 3 rfl) ?_
        refine lv_bipush (v := 11) hx hb d_R_join_45 (by decide) ?_
        obtain ⟨hwt, hwf⟩ := hw
        refine lv_icmp_eq (tgt := 56) hx hb d_R_join_47 (by decide) (fun c_45 => ?_) (fun c_45 => ?_)
        · have hw := hwt c_45
          refine lv_iload hx hb d_R_join_56 (lv_at hl 0 rfl) ?_
          refine lv_goto (tgt := 63) hx hb d_R_join_58 (by decide) ?_
          exact L_63 x1 x2 x4 x7 z0 x6 x6 rsize rval risP cnt look bad byZ inr rpl hld _ _ _ hw hP hD hS (lv_sub hl [2, 3, 4, 5, 7, 1, 0] rfl)
        · have hw := hwf c_45
          refine lv_iload_n hx hb d_R_join_50 rfl (lv_at hl 3 rfl) ?_
          refine lv_bipush (v := 12) hx hb d_R_join_51 (by decide) ?_
          obtain ⟨hwt, hwf⟩ := hw
          refine lv_icmp_ne (tgt := 61) hx hb d_R_join_53 (by decide) (fun c_46 => ?_) (fun c_46 => ?_)
          · have hw := hwf c_46
            refine lv_iload hx hb d_R_join_61 (lv_at hl 1 rfl) ?_
            exact L_63 x1 x2 x4 x7 z0 x6 z0 rsize rval risP cnt look bad byZ inr rpl hld _ _ _ hw hP hD hS (lv_sub hl [2, 3, 4, 5, 7, 1, 0] rfl)
          · have hw := hwt c_46
            refine lv_iload hx hb d_R_join_56 (lv_at hl 0 rfl) ?_
            refine lv_goto (tgt := 63) hx hb d_R_join_58 (by decide) ?_
            exact L_63 x1 x2 x4 x7 z0 x6 x6 rsize rval risP cnt look bad byZ inr rpl hld _ _ _ hw hP hD hS (lv_sub hl [2, 3, 4, 5, 7, 1, 0] rfl)
      · have hw := hwf c_44
        refine lv_iload_n hx hb d_R_join_34 rfl (lv_at hl 3 rfl) ?_
        refine lv_bipush (v := 11) hx hb d_R_join_35 (by decide) ?_
        obtain ⟨hwt, hwf⟩ := hw
        refine lv_icmp_ge (tgt := 44) hx hb d_R_join_37 (by decide) (fun c_47 => ?_) (fun c_47 => ?_)
        · have hw := hwt c_47
          refine lv_iload_n hx hb d_R_join_44 rfl (lv_at hl 3 rfl) ?_
          refine lv_bipush (v := 11) hx hb d_R_join_45 (by decide) ?_
          obtain ⟨hwt, hwf⟩ := hw
          refine lv_icmp_eq (tgt := 56) hx hb d_R_join_47 (by decide) (fun c_48 => ?_) (fun c_48 => ?_)
          · have hw := hwt c_48
            refine lv_iload hx hb d_R_join_56 (lv_at hl 0 rfl) ?_
            refine lv_goto (tgt := 63) hx hb d_R_join_58 (by decide) ?_
            exact L_63 x1 x2 x4 x7 z0 x6 x6 rsize rval risP cnt look bad byZ inr rpl hld _ _ _ hw hP hD hS (lv_sub hl [2, 3, 4, 5, 7, 1, 0] rfl)
          · have hw := hwf c_48
            refine lv_iload_n hx hb d_R_join_50 rfl (lv_at hl 3 rfl) ?_
            refine lv_bipush (v := 12) hx hb d_R_join_51 (by decide) ?_
            obtain ⟨hwt, hwf⟩ := hw
            refine lv_icmp_ne (tgt := 61) hx hb d_R_join_53 (by decide) (fun c_49 => ?_) (fun c_49 => ?_)
            · have hw := hwf c_49
              refine lv_iload hx hb d_R_join_61 (lv_at hl 1 rfl) ?_
              exact L_63 x1 x2 x4 x7 z0 x6 z0 rsize rval risP cnt look bad byZ inr rpl hld _ _ _ hw hP hD hS (lv_sub hl [2, 3, 4, 5, 7, 1, 0] rfl)
            · have hw := hwt c_49
              refine lv_iload hx hb d_R_join_56 (lv_at hl 0 rfl) ?_
              refine lv_goto (tgt := 63) hx hb d_R_join_58 (by decide) ?_
              exact L_63 x1 x2 x4 x7 z0 x6 x6 rsize rval risP cnt look bad byZ inr rpl hld _ _ _ hw hP hD hS (lv_sub hl [2, 3, 4, 5, 7, 1, 0] rfl)
        · have hw := hwf c_47
          refine lv_iconst (v := 0) hx hb d_R_join_40 (by decide) ?_
          refine lv_goto (tgt := 63) hx hb d_R_join_41 (by decide) ?_
          exact L_63 x1 x2 x4 x7 z0 x6 0 rsize rval risP cnt look bad byZ inr rpl hld _ _ _ hw hP hD hS (lv_sub hl [2, 3, 4, 5, 7, 1, 0] rfl)
  refine lv_iload hx hb d_R_join_0 (lv_at hl 4 rfl) ?_
  obtain ⟨hwt, hwf⟩ := hw
  refine lv_if_ne (tgt := 12) hx hb d_R_join_2 (by decide) (fun c_1 => ?_) (fun c_1 => ?_)
  · have hw := hwf c_1
    refine lv_iconst (v := 1) hx hb d_R_join_12 (by decide) ?_
    refine lv_goto (tgt := 17) hx hb d_R_join_13 (by decide) ?_
    exact L_17 p0 p1 p2 p3 p4 1 rsize rval risP cnt look bad byZ inr rpl hld _ _ _ hw hP hD hS (lv_sub hl [0, 1, 2, 3, 4, 5] rfl)
  · have hw := hwt c_1
    refine lv_aload_n hx hb d_R_join_5 rfl (lv_at hl 0 rfl) ?_
    refine va_get (D := (dC, dI)) (ci := 5) (v := .int rpl) (C := R_R) (T := T_R) (N := 16) hx hb hts in_R hown hK hP 0 rfl rfl 11 (by decide) (hts _ ux_95) (fun _ h9 => h9) rfl d_R_join_6 ?_
    obtain ⟨hwt, hwf⟩ := hw
    refine lv_if_eq (tgt := 16) hx hb d_R_join_9 (by decide) (fun c_50 => ?_) (fun c_50 => ?_)
    · have hw := hwt c_50
      refine lv_iconst (v := 0) hx hb d_R_join_16 (by decide) ?_
      exact L_17 p0 p1 p2 p3 p4 0 rsize rval risP cnt look bad byZ inr rpl hld _ _ _ hw hP hD hS (lv_sub hl [0, 1, 2, 3, 4, 5] rfl)
    · have hw := hwf c_50
      refine lv_iconst (v := 1) hx hb d_R_join_12 (by decide) ?_
      refine lv_goto (tgt := 17) hx hb d_R_join_13 (by decide) ?_
      exact L_17 p0 p1 p2 p3 p4 1 rsize rval risP cnt look bad byZ inr rpl hld _ _ _ hw hP hD hS (lv_sub hl [0, 1, 2, 3, 4, 5] rfl)

abbrev wd_R_settle (ad : Nat → Nat) (ck : Nat → ClassId) (rsize : Int32) (rval : Int64) (risP : Int32) (cnt : Int32) (look : Int32) (bad : Int32) (byZ : Int32) (inr : Int32) (rpl : Int32) (hld : Int32) (hSg : Nat → Int32) (hVl : Nat → Int64) (hPl : Nat → Int32) : va_W := [(ad 11, .inr (5, [.int rsize, .ref (ad 12), .long rval, .int risP, .int cnt, .ref (ad 13), .ref (ad 14), .int look, .int bad, .int byZ, .int inr, .int rpl, .int hld, .ref (ad 15), .ref (ad 16), .ref (ad 17)])), (ad 15, .inl (ck 9, 800, .inl hSg)), (ad 16, .inl (ck 10, 800, .inr (.inl hVl))), (ad 17, .inl (ck 11, 800, .inl hPl))]
def wp_R_settle (post : Int64 → Int32 → Int32 → Int32 → Prop) (rsize : Int32) (rval : Int64) (risP : Int32) (cnt : Int32) (look : Int32) (bad : Int32) (byZ : Int32) (inr : Int32) (rpl : Int32) (hld : Int32) (hSg : Nat → Int32) (hVl : Nat → Int64) (hPl : Nat → Int32) (p0 : Int64) (p1 : Int32) (p2 : Int32) : Prop := ∀ hld_1 : Int32, hld_1 = (hld - 1) → (vp_in hld_1 800 ∧ (vp_in hld_1 800 ∧ (vp_in hld_1 800 ∧ (wp_R_isNeeded (fun (r_5 : Int32) => wp_R_join (fun (r_6 : Int64) (byZ_7 : Int32) (rpl_8 : Int32) => post r_6 byZ_7 rpl_8 hld_1) rsize rval risP cnt look bad byZ inr rpl hld_1 (hSg hld_1.toNatClampNeg) (hVl hld_1.toNatClampNeg) p0 (hPl hld_1.toNatClampNeg) r_5) rsize rval risP cnt look bad byZ inr rpl hld_1 hSg hVl p1 p2))))
set_option maxHeartbeats 4000000 in
set_option maxRecDepth 100000 in
theorem kc_R_settle (l : Launch) (dC : Nat → ClassId) (dI : Nat → Nat → Nat) (ad : Nat → Nat) (ck : Nat → ClassId) (rsize : Int32) (rval : Int64) (risP : Int32) (cnt : Int32) (look : Int32) (bad : Int32) (byZ : Int32) (inr : Int32) (rpl : Int32) (hld : Int32) (hSg : Nat → Int32) (hVl : Nat → Int64) (hPl : Nat → Int32) (p0 : Int64) (p1 : Int32) (p2 : Int32) {post : Int64 → Int32 → Int32 → Int32 → Prop} (hw : wp_R_settle post rsize rval risP cnt look bad byZ inr rpl hld hSg hVl hPl p0 p1 p2) : k_Cl l y_R_settle ws_R_settle ({ frames := 2, cells := 0, slots := 0, locals := 60 } : Room) (dC, dI) vwCl (TYr ck) k_x0 [.ref (ad 11), .long p0, .int p1, .int p2] (wd_R_settle ad ck rsize rval risP cnt look bad byZ inr rpl hld hSg hVl hPl) (fun (r : Int64) (u : Int32 × Int32 × Int32) => post r u.1 u.2.1 u.2.2) (fun (u : Int32 × Int32 × Int32) => wd_R_settle ad ck rsize rval risP cnt look bad u.1 inr u.2.1 u.2.2 hSg hVl hPl) := by
  intro sz
  refine Met.ofW (cc := c_R_settle) (maxL := 5) (ret := (some .long)) (by decide) rfl ?_
  intro p e s m args below meth c s₁ B hml hv
  obtain ⟨rfl, hsz, hP, hK, hD0, hX⟩ := hv
  have hx := B.exec
  have hb := B.bytes
  have hr := B.returns
  have hts : ∀ w ∈ TB, w.before _ s = true := fun w h => atoms_spec (ws := ws_R_settle) B.pre w (List.mem_cons_of_mem _ h)
  have hown : s.vm.findClass R_R = some m.cls := findClass_of_methodNamed B.named
  have hlocks := B.notSynchronized
  subst hsz
  have hD := hD0.self (sz := s.heap.size)
  generalize hAe : va_A (wd_R_settle ad ck rsize rval risP cnt look bad byZ inr rpl hld hSg hVl hPl) s.heap.size = A at hD hX ⊢
  have hA : ∀ q : Nat, s.heap.size ≤ q → A q := fun q h => by rw [← hAe]; exact Or.inr h
  have hS : va_S A s.heap s.heap [] := va_S.rf
  have hP : va_P (dC, dI) vwCl (wd_R_settle ad ck rsize rval risP cnt look bad byZ inr rpl hld hSg hVl hPl) s.heap := hP
  have hl := lv_entry ([.ref (ad 11), .long p0, .int p1, .int p2]) (n := 5) (Nat.le_of_ble_eq_true rfl)
  rw [lg_entry_eq]
  generalize (lg_sl ([.ref (ad 11), .long p0, .int p1, .int p2]) ++ List.replicate (5 - (lg_sl ([.ref (ad 11), .long p0, .int p1, .int p2])).length) Slot.unset).toArray = ls at hl ⊢
  have hl : lv_has ls 5 [(0, .ref (ad 11)), (1, .long p0), (3, .int p1), (4, .int p2)] := hl
  refine lv_aload_n hx hb d_R_settle_0 rfl (lv_at hl 0 rfl) ?_
  refine lv_dup hx hb d_R_settle_1 rfl ?_
  refine va_get (D := (dC, dI)) (ci := 5) (v := .int hld) (C := R_R) (T := T_R) (N := 16) hx hb hts in_R hown hK hP 0 rfl rfl 12 (by decide) (hts _ ux_91) (fun _ h9 => h9) rfl d_R_settle_2 ?_
  refine lv_iconst (v := 1) hx hb d_R_settle_5 (by decide) ?_
  refine lv_isub hx hb d_R_settle_6 ?_
  refine lv_topi (fun hld_1 ehld_1 => ?_)
  have hw := hw hld_1 ehld_1
  refine va_put (D := (dC, dI)) (ci := 5) (v := .int hld_1) (ty := .int) (C := R_R) (T := T_R) (N := 16) hx hb hts in_R ty_R ty_R_ok nm_R hown hK hP hD hS 0 rfl rfl 12 (by decide) (hts _ ux_91) (fun _ h9 => h9) rfl (by decide +kernel) rfl rfl (Nat.le_of_ble_eq_true rfl) d_R_settle_7 (fun H locs hP hD hS => ?_)
  have hP : va_P (dC, dI) vwCl (wd_R_settle ad ck rsize rval risP cnt look bad byZ inr rpl hld_1 hSg hVl hPl) H := hP
  have hD : va_D A (wd_R_settle ad ck rsize rval risP cnt look bad byZ inr rpl hld_1 hSg hVl hPl) := hD
  refine lv_aload_n hx hb d_R_settle_10 rfl (lv_at hl 0 rfl) ?_
  refine lv_aload_n hx hb d_R_settle_11 rfl (lv_at hl 0 rfl) ?_
  refine va_get (D := (dC, dI)) (ci := 5) (v := .ref (ad 15)) (C := R_R) (T := T_R) (N := 16) hx hb hts in_R hown hK hP 0 rfl rfl 13 (by decide) (hts _ ux_92) (fun _ h9 => h9) rfl d_R_settle_12 ?_
  refine lv_aload_n hx hb d_R_settle_15 rfl (lv_at hl 0 rfl) ?_
  refine va_get (D := (dC, dI)) (ci := 5) (v := .int hld_1) (C := R_R) (T := T_R) (N := 16) hx hb hts in_R hown hK hP 0 rfl rfl 12 (by decide) (hts _ ux_91) (fun _ h9 => h9) rfl d_R_settle_16 ?_
  obtain ⟨hi_2, hw⟩ := hw
  refine va_iald hx hb hK hP 1 3 rfl rfl hi_2 d_R_settle_19 ?_
  refine lv_aload_n hx hb d_R_settle_20 rfl (lv_at hl 0 rfl) ?_
  refine va_get (D := (dC, dI)) (ci := 5) (v := .ref (ad 16)) (C := R_R) (T := T_R) (N := 16) hx hb hts in_R hown hK hP 0 rfl rfl 14 (by decide) (hts _ ux_93) (fun _ h9 => h9) rfl d_R_settle_21 ?_
  refine lv_aload_n hx hb d_R_settle_24 rfl (lv_at hl 0 rfl) ?_
  refine va_get (D := (dC, dI)) (ci := 5) (v := .int hld_1) (C := R_R) (T := T_R) (N := 16) hx hb hts in_R hown hK hP 0 rfl rfl 12 (by decide) (hts _ ux_91) (fun _ h9 => h9) rfl d_R_settle_25 ?_
  obtain ⟨hi_3, hw⟩ := hw
  refine va_lald hx hb hK hP 2 4 rfl rfl hi_3 d_R_settle_28 ?_
  refine lv_lload_n hx hb d_R_settle_29 rfl (lv_at hl 1 rfl) ?_
  refine lv_aload_n hx hb d_R_settle_30 rfl (lv_at hl 0 rfl) ?_
  refine va_get (D := (dC, dI)) (ci := 5) (v := .ref (ad 17)) (C := R_R) (T := T_R) (N := 16) hx hb hts in_R hown hK hP 0 rfl rfl 15 (by decide) (hts _ ux_101) (fun _ h9 => h9) rfl d_R_settle_31 ?_
  refine lv_aload_n hx hb d_R_settle_34 rfl (lv_at hl 0 rfl) ?_
  refine va_get (D := (dC, dI)) (ci := 5) (v := .int hld_1) (C := R_R) (T := T_R) (N := 16) hx hb hts in_R hown hK hP 0 rfl rfl 12 (by decide) (hts _ ux_91) (fun _ h9 => h9) rfl d_R_settle_35 ?_
  obtain ⟨hi_4, hw⟩ := hw
  refine va_zald hx hb hK hP 3 5 rfl rfl hi_4 d_R_settle_38 ?_
  refine lv_aload_n hx hb d_R_settle_39 rfl (lv_at hl 0 rfl) ?_
  refine lv_iload_n hx hb d_R_settle_40 rfl (lv_at hl 2 rfl) ?_
  refine lv_iload hx hb d_R_settle_41 (lv_at hl 3 rfl) ?_
  refine k_callVi (As := [.int p1, .int p2]) (rest := [.int (hPl hld_1.toNatClampNeg), .long p0, .long (hVl hld_1.toNatClampNeg), .int (hSg hld_1.toNatClampNeg), .ref (ad 11)]) (fun (u : Unit) => wd_R_settle ad ck rsize rval risP cnt look bad byZ inr rpl hld_1 hSg hVl hPl) ⟨hx, hb, hml, hown, hts⟩ (kc_R_isNeeded l dC dI ad ck rsize rval risP cnt look bad byZ inr rpl hld_1 hSg hVl p1 p2 (hw := hw)) (cwV 2 hts (gV ux_102 ux_104 ux_105 ux_49 ux_103) rfl rfl rfl hd_R_isNeeded ⟨Nat.le_of_ble_eq_true rfl, Nat.le_of_ble_eq_true rfl⟩) hK hP hD hS hA k_x0c trivial [0, 1, 2] [3] [1, 2, 3, 0] rfl rfl (by decide) (by decide) (fun _ => rfl) (va_recv hK hP (ci := 5) (q0 := 0) rfl rfl) rfl hl.1 rfl (lv_room (Nat.le_of_ble_eq_true rfl)) d_R_settle_43 ⟨Nat.zero_le _, Nat.zero_le _⟩ ?_
  intro r_5 u H locs hw hP hD hS
  have hP : va_P (dC, dI) vwCl (wd_R_settle ad ck rsize rval risP cnt look bad byZ inr rpl hld_1 hSg hVl hPl) H := hP
  have hD : va_D A (wd_R_settle ad ck rsize rval risP cnt look bad byZ inr rpl hld_1 hSg hVl hPl) := hD
  try dsimp only at hw
  refine k_callVl (As := [.int (hSg hld_1.toNatClampNeg), .long (hVl hld_1.toNatClampNeg), .long p0, .int (hPl hld_1.toNatClampNeg), .int r_5]) (rest := []) (fun (u : Int32 × Int32) => wd_R_settle ad ck rsize rval risP cnt look bad u.1 inr u.2 hld_1 hSg hVl hPl) ⟨hx, hb, hml, hown, hts⟩ (kc_R_join l dC dI ad ck rsize rval risP cnt look bad byZ inr rpl hld_1 (hSg hld_1.toNatClampNeg) (hVl hld_1.toNatClampNeg) p0 (hPl hld_1.toNatClampNeg) r_5 (hw := hw)) (cwV 5 hts (gV ux_106 ux_108 ux_109 ux_49 ux_107) rfl rfl rfl hd_R_join ⟨Nat.le_of_ble_eq_true rfl, Nat.le_of_ble_eq_true rfl⟩) hK hP hD hS hA k_x0c trivial [0] [1, 2, 3] [3, 0, 1, 2] rfl rfl (by decide) (by decide) (fun _ => rfl) (va_recv hK hP (ci := 5) (q0 := 0) rfl rfl) rfl hl.1 rfl (lv_room (Nat.le_of_ble_eq_true rfl)) d_R_settle_46 ⟨Nat.zero_le _, Nat.zero_le _⟩ ?_
  intro r_6 u H locs hw hP hD hS
  obtain ⟨byZ_7, rpl_8⟩ := u
  have hP : va_P (dC, dI) vwCl (wd_R_settle ad ck rsize rval risP cnt look bad byZ_7 inr rpl_8 hld_1 hSg hVl hPl) H := hP
  have hD : va_D A (wd_R_settle ad ck rsize rval risP cnt look bad byZ_7 inr rpl_8 hld_1 hSg hVl hPl) := hD
  try dsimp only at hw
  exact W.lret (v := r_6) hx hb hr (fun t ht hW => ⟨⟨r_6, (byZ_7, rpl_8, hld_1), rfl, hw, by rw [ht]; exact hP, va_K.moved hW.alike hK, hD⟩, hS.F ht⟩) hS.2.2 d_R_settle_49

abbrev wd_R_digitOf (ad : Nat → Nat) (ck : Nat → ClassId)  : va_W := []
def wp_R_digitOf (post : Int32 → Prop)  (p0 : Int32) : Prop := wp_R_isDigit (fun (r_1 : Int32) => (r_1 = 0 → ((p0 < 97 → ((p0 < 65 → (post 99)) ∧ (¬ p0 < 65 → ((70 < p0 → (post 99)) ∧ (¬ 70 < p0 → (post (p0 - 55))))))) ∧ (¬ p0 < 97 → ((102 < p0 → ((p0 < 65 → (post 99)) ∧ (¬ p0 < 65 → ((70 < p0 → (post 99)) ∧ (¬ 70 < p0 → (post (p0 - 55))))))) ∧ (¬ 102 < p0 → (post (p0 - 87))))))) ∧ (¬ r_1 = 0 → (post (p0 - 48)))) p0
set_option maxHeartbeats 4000000 in
set_option maxRecDepth 100000 in
theorem kc_R_digitOf (l : Launch) (dC : Nat → ClassId) (dI : Nat → Nat → Nat) (ad : Nat → Nat) (ck : Nat → ClassId)  (p0 : Int32) {post : Int32 → Prop} (hw : wp_R_digitOf post  p0) : k_Ci l y_R_digitOf ws_R_digitOf ({ frames := 1, cells := 0, slots := 0, locals := 20 } : Room) (dC, dI) vwCl (TYr ck) k_x0 [.int p0] ([]) (fun (r : Int32) (u : Unit) => post r ) (fun (u : Unit) => []) := by
  intro sz
  refine Met.ofW (cc := c_R_digitOf) (maxL := 1) (ret := (some .int)) (by decide) rfl ?_
  intro p e s m args below meth c s₁ B hml hv
  obtain ⟨rfl, hsz, hP, hK, hD0, hX⟩ := hv
  have hx := B.exec
  have hb := B.bytes
  have hr := B.returns
  have hts : ∀ w ∈ TB, w.before _ s = true := fun w h => atoms_spec (ws := ws_R_digitOf) B.pre w (List.mem_cons_of_mem _ h)
  have hown : s.vm.findClass R_R = some m.cls := findClass_of_methodNamed B.named
  have hlocks := B.notSynchronized
  subst hsz
  have hD := hD0.self (sz := s.heap.size)
  generalize hAe : va_A ([]) s.heap.size = A at hD hX ⊢
  have hA : ∀ q : Nat, s.heap.size ≤ q → A q := fun q h => by rw [← hAe]; exact Or.inr h
  have hS : va_S A s.heap s.heap [] := va_S.rf
  have hP : va_P (dC, dI) vwCl ([]) s.heap := hP
  have hl := lv_entry ([.int p0]) (n := 1) (Nat.le_of_ble_eq_true rfl)
  rw [lg_entry_eq]
  generalize (lg_sl ([.int p0]) ++ List.replicate (1 - (lg_sl ([.int p0])).length) Slot.unset).toArray = ls at hl ⊢
  have hl : lv_has ls 1 [(0, .int p0)] := hl
  refine lv_iload_n hx hb d_R_digitOf_0 rfl (lv_at hl 0 rfl) ?_
  refine k_callSi (As := [.int p0]) (rest := []) (fun (u : Unit) => []) ⟨hx, hb, hml, hown, hts⟩ (kc_R_isDigit l dC dI ad ck p0 (hw := hw)) (va_cwS 1 hts (gS ux_61 ux_63 ux_49 ux_62) rfl rfl rfl hd_R_isDigit ⟨Nat.le_of_ble_eq_true rfl, Nat.le_of_ble_eq_true rfl⟩) hK hP hD hS hA k_x0c trivial [] [] [] rfl rfl (by decide) (by decide) (fun _ => rfl) rfl hl.1 rfl (lv_room (Nat.le_of_ble_eq_true rfl)) d_R_digitOf_1 ⟨Nat.zero_le _, Nat.zero_le _⟩ ?_
  intro r_1 u H locs hw hP hD hS
  have hP : va_P (dC, dI) vwCl ([]) H := hP
  have hD : va_D A ([]) := hD
  try dsimp only at hw
  obtain ⟨hwt, hwf⟩ := hw
  refine lv_if_eq (tgt := 14) hx hb d_R_digitOf_4 (by decide) (fun c_2 => ?_) (fun c_2 => ?_)
  · have hw := hwt c_2
    refine lv_iload_n hx hb d_R_digitOf_14 rfl (lv_at hl 0 rfl) ?_
    refine lv_bipush (v := 97) hx hb d_R_digitOf_15 (by decide) ?_
    obtain ⟨hwt, hwf⟩ := hw
    refine lv_icmp_lt (tgt := 33) hx hb d_R_digitOf_17 (by decide) (fun c_3 => ?_) (fun c_3 => ?_)
    · have hw := hwt c_3
      refine lv_iload_n hx hb d_R_digitOf_33 rfl (lv_at hl 0 rfl) ?_
      refine lv_bipush (v := 65) hx hb d_R_digitOf_34 (by decide) ?_
      obtain ⟨hwt, hwf⟩ := hw
      refine lv_icmp_lt (tgt := 52) hx hb d_R_digitOf_36 (by decide) (fun c_4 => ?_) (fun c_4 => ?_)
      · have hw := hwt c_4
        refine lv_bipush (v := 99) hx hb d_R_digitOf_52 (by decide) ?_
        exact W.iret (v := 99) hx hb hr (fun t ht hW => ⟨⟨99, (), rfl, hw, by rw [ht]; exact hP, va_K.moved hW.alike hK, hD⟩, hS.F ht⟩) hS.2.2 d_R_digitOf_54
      · have hw := hwf c_4
        refine lv_iload_n hx hb d_R_digitOf_39 rfl (lv_at hl 0 rfl) ?_
        refine lv_bipush (v := 70) hx hb d_R_digitOf_40 (by decide) ?_
        obtain ⟨hwt, hwf⟩ := hw
        refine lv_icmp_gt (tgt := 52) hx hb d_R_digitOf_42 (by decide) (fun c_5 => ?_) (fun c_5 => ?_)
        · have hw := hwt c_5
          refine lv_bipush (v := 99) hx hb d_R_digitOf_52 (by decide) ?_
          exact W.iret (v := 99) hx hb hr (fun t ht hW => ⟨⟨99, (), rfl, hw, by rw [ht]; exact hP, va_K.moved hW.alike hK, hD⟩, hS.F ht⟩) hS.2.2 d_R_digitOf_54
        · have hw := hwf c_5
          refine lv_iload_n hx hb d_R_digitOf_45 rfl (lv_at hl 0 rfl) ?_
          refine lv_bipush (v := 55) hx hb d_R_digitOf_46 (by decide) ?_
          refine lv_isub hx hb d_R_digitOf_48 ?_
          refine lv_goto (tgt := 54) hx hb d_R_digitOf_49 (by decide) ?_
          exact W.iret (v := (p0 - 55)) hx hb hr (fun t ht hW => ⟨⟨(p0 - 55), (), rfl, hw, by rw [ht]; exact hP, va_K.moved hW.alike hK, hD⟩, hS.F ht⟩) hS.2.2 d_R_digitOf_54
    · have hw := hwf c_3
      refine lv_iload_n hx hb d_R_digitOf_20 rfl (lv_at hl 0 rfl) ?_
      refine lv_bipush (v := 102) hx hb d_R_digitOf_21 (by decide) ?_
      obtain ⟨hwt, hwf⟩ := hw
      refine lv_icmp_gt (tgt := 33) hx hb d_R_digitOf_23 (by decide) (fun c_6 => ?_) (fun c_6 => ?_)
      · have hw := hwt c_6
        refine lv_iload_n hx hb d_R_digitOf_33 rfl (lv_at hl 0 rfl) ?_
        refine lv_bipush (v := 65) hx hb d_R_digitOf_34 (by decide) ?_
        obtain ⟨hwt, hwf⟩ := hw
        refine lv_icmp_lt (tgt := 52) hx hb d_R_digitOf_36 (by decide) (fun c_7 => ?_) (fun c_7 => ?_)
        · have hw := hwt c_7
          refine lv_bipush (v := 99) hx hb d_R_digitOf_52 (by decide) ?_
          exact W.iret (v := 99) hx hb hr (fun t ht hW => ⟨⟨99, (), rfl, hw, by rw [ht]; exact hP, va_K.moved hW.alike hK, hD⟩, hS.F ht⟩) hS.2.2 d_R_digitOf_54
        · have hw := hwf c_7
          refine lv_iload_n hx hb d_R_digitOf_39 rfl (lv_at hl 0 rfl) ?_
          refine lv_bipush (v := 70) hx hb d_R_digitOf_40 (by decide) ?_
          obtain ⟨hwt, hwf⟩ := hw
          refine lv_icmp_gt (tgt := 52) hx hb d_R_digitOf_42 (by decide) (fun c_8 => ?_) (fun c_8 => ?_)
          · have hw := hwt c_8
            refine lv_bipush (v := 99) hx hb d_R_digitOf_52 (by decide) ?_
            exact W.iret (v := 99) hx hb hr (fun t ht hW => ⟨⟨99, (), rfl, hw, by rw [ht]; exact hP, va_K.moved hW.alike hK, hD⟩, hS.F ht⟩) hS.2.2 d_R_digitOf_54
          · have hw := hwf c_8
            refine lv_iload_n hx hb d_R_digitOf_45 rfl (lv_at hl 0 rfl) ?_
            refine lv_bipush (v := 55) hx hb d_R_digitOf_46 (by decide) ?_
            refine lv_isub hx hb d_R_digitOf_48 ?_
            refine lv_goto (tgt := 54) hx hb d_R_digitOf_49 (by decide) ?_
            exact W.iret (v := (p0 - 55)) hx hb hr (fun t ht hW => ⟨⟨(p0 - 55), (), rfl, hw, by rw [ht]; exact hP, va_K.moved hW.alike hK, hD⟩, hS.F ht⟩) hS.2.2 d_R_digitOf_54
      · have hw := hwf c_6
        refine lv_iload_n hx hb d_R_digitOf_26 rfl (lv_at hl 0 rfl) ?_
        refine lv_bipush (v := 87) hx hb d_R_digitOf_27 (by decide) ?_
        refine lv_isub hx hb d_R_digitOf_29 ?_
        refine lv_goto (tgt := 54) hx hb d_R_digitOf_30 (by decide) ?_
        exact W.iret (v := (p0 - 87)) hx hb hr (fun t ht hW => ⟨⟨(p0 - 87), (), rfl, hw, by rw [ht]; exact hP, va_K.moved hW.alike hK, hD⟩, hS.F ht⟩) hS.2.2 d_R_digitOf_54
  · have hw := hwf c_2
    refine lv_iload_n hx hb d_R_digitOf_7 rfl (lv_at hl 0 rfl) ?_
    refine lv_bipush (v := 48) hx hb d_R_digitOf_8 (by decide) ?_
    refine lv_isub hx hb d_R_digitOf_10 ?_
    refine lv_goto (tgt := 54) hx hb d_R_digitOf_11 (by decide) ?_
    exact W.iret (v := (p0 - 48)) hx hb hr (fun t ht hW => ⟨⟨(p0 - 48), (), rfl, hw, by rw [ht]; exact hP, va_K.moved hW.alike hK, hD⟩, hS.F ht⟩) hS.2.2 d_R_digitOf_54
def f_R_digitOf (p0 : Int32) : Int32 := (if (f_R_isDigit p0) = 0 then (if p0 < 97 then (if p0 < 65 then 99 else (if 70 < p0 then 99 else (p0 - 55))) else (if 102 < p0 then (if p0 < 65 then 99 else (if 70 < p0 then 99 else (p0 - 55))) else (p0 - 87))) else (p0 - 48))
theorem q_R_digitOf {post : Int32 → Prop} {p0 : Int32} (h : post (f_R_digitOf p0)) : wp_R_digitOf post p0 := by
  unfold wp_R_digitOf
  refine q_R_isDigit ?_
  refine br_c (fun c1 => ?_) (fun c1 => ?_)
  · refine br_c (fun c2 => ?_) (fun c2 => ?_)
    · refine br_c (fun c3 => ?_) (fun c3 => ?_)
      · rw [f_R_digitOf, if_pos c1, if_pos c2, if_pos c3] at h; exact h
      · refine br_c (fun c4 => ?_) (fun c4 => ?_)
        · rw [f_R_digitOf, if_pos c1, if_pos c2, if_neg c3, if_pos c4] at h; exact h
        · rw [f_R_digitOf, if_pos c1, if_pos c2, if_neg c3, if_neg c4] at h; exact h
    · refine br_c (fun c5 => ?_) (fun c5 => ?_)
      · refine br_c (fun c6 => ?_) (fun c6 => ?_)
        · rw [f_R_digitOf, if_pos c1, if_neg c2, if_pos c5, if_pos c6] at h; exact h
        · refine br_c (fun c7 => ?_) (fun c7 => ?_)
          · rw [f_R_digitOf, if_pos c1, if_neg c2, if_pos c5, if_neg c6, if_pos c7] at h; exact h
          · rw [f_R_digitOf, if_pos c1, if_neg c2, if_pos c5, if_neg c6, if_neg c7] at h; exact h
      · rw [f_R_digitOf, if_pos c1, if_neg c2, if_neg c5] at h; exact h
  · rw [f_R_digitOf, if_neg c1] at h; exact h

abbrev wd_R_numberOf (ad : Nat → Nat) (ck : Nat → ClassId) (rsize : Int32) (rval : Int64) (risP : Int32) (cnt : Int32) (look : Int32) (bad : Int32) (byZ : Int32) (inr : Int32) (rpl : Int32) (hld : Int32) (store : Nat → Int32) (tAt : Nat → Int32) (tSz : Nat → Int32) : va_W := [(ad 11, .inr (5, [.int rsize, .ref (ad 12), .long rval, .int risP, .int cnt, .ref (ad 13), .ref (ad 14), .int look, .int bad, .int byZ, .int inr, .int rpl, .int hld, .ref (ad 15), .ref (ad 16), .ref (ad 17)])), (ad 12, .inl (ck 6, 4096, .inl store)), (ad 13, .inl (ck 7, 4096, .inl tAt)), (ad 14, .inl (ck 8, 4096, .inl tSz))]
def w_R_numberOf_357 (post : Int64 → Int32 → Int32 → Prop) (x4 : Int32) (x7 : Int64) (x9 : Int32) (x10 : Int32) (x11 : Int32) (x13 : Int32) (z0 : Int32) (rsize : Int32) (rval : Int64) (risP : Int32) (cnt : Int32) (look : Int32) (bad : Int32) (byZ : Int32) (inr : Int32) (rpl : Int32) (hld : Int32) (store : Nat → Int32) (tAt : Nat → Int32) (tSz : Nat → Int32) : Prop := vz z0 ∧ ((bad = 0 → ((x10 = 0 → ((x13 = 0 → (post x7 1 z0)) ∧ (¬ x13 = 0 → ((x9 = 0 → ((0 ≤ (lg_cmp x7 0) → (post x7 0 z0)) ∧ (¬ 0 ≤ (lg_cmp x7 0) → ((x11 = 0 → ((x4 = 10 → (post x7 1 z0)) ∧ (¬ x4 = 10 → (post x7 0 z0)))) ∧ (¬ x11 = 0 → (post x7 0 z0)))))) ∧ (¬ x9 = 0 → (post x7 1 z0)))))) ∧ (¬ x10 = 0 → (post x7 1 z0)))) ∧ (¬ bad = 0 → (post x7 1 z0)))
def w_R_numberOf_235 (post : Int64 → Int32 → Int32 → Prop) (x1 : Int32) (x2 : Int32) (x4 : Int32) (x7 : Int64) (x9 : Int32) (x10 : Int32) (rsize : Int32) (rval : Int64) (risP : Int32) (cnt : Int32) (look : Int32) (bad : Int32) (byZ : Int32) (inr : Int32) (rpl : Int32) (hld : Int32) (store : Nat → Int32) (tAt : Nat → Int32) (tSz : Nat → Int32) : Nat → Int32 → Int32 → Int32 → Int32 → Prop
  | 0 => fun _ _ _ _ => False
  | n + 1 => fun x5 x11 x12 x13 => (x2 ≤ x5 → ((x11 = 0 → ((0 ≤ (lg_cmp x7 0) → (w_R_numberOf_357 post x4 x7 x9 x10 x11 x13 0 rsize rval risP cnt look bad byZ inr rpl hld store tAt tSz)) ∧ (¬ 0 ≤ (lg_cmp x7 0) → (w_R_numberOf_357 post x4 x7 x9 x10 x11 x13 1 rsize rval risP cnt look bad byZ inr rpl hld store tAt tSz)))) ∧ (¬ x11 = 0 → (w_R_numberOf_357 post x4 x7 x9 x10 x11 x13 1 rsize rval risP cnt look bad byZ inr rpl hld store tAt tSz)))) ∧ (¬ x2 ≤ x5 → ((x13 = 0 → ((x11 = 0 → ((0 ≤ (lg_cmp x7 0) → (w_R_numberOf_357 post x4 x7 x9 x10 x11 x13 0 rsize rval risP cnt look bad byZ inr rpl hld store tAt tSz)) ∧ (¬ 0 ≤ (lg_cmp x7 0) → (w_R_numberOf_357 post x4 x7 x9 x10 x11 x13 1 rsize rval risP cnt look bad byZ inr rpl hld store tAt tSz)))) ∧ (¬ x11 = 0 → (w_R_numberOf_357 post x4 x7 x9 x10 x11 x13 1 rsize rval risP cnt look bad byZ inr rpl hld store tAt tSz)))) ∧ (¬ x13 = 0 → (wp_R_byteOf (fun (r_24 : Int32) => ((r_24 ||| 32) = 117 → ((x11 = 0 → (∀ x5_43 : Int32, x5_43 = x5 + 1 → (w_R_numberOf_235 post x1 x2 x4 x7 x9 x10 rsize rval risP cnt look bad byZ inr rpl hld store tAt tSz n x5_43 1 x12 x13))) ∧ (¬ x11 = 0 → (((r_24 ||| 32) = 108 → ((x12 = 0 → ((x2 ≤ (x5 + 1) → (∀ x5_38 : Int32, x5_38 = (x5 + 1) → (w_R_numberOf_235 post x1 x2 x4 x7 x9 x10 rsize rval risP cnt look bad byZ inr rpl hld store tAt tSz n x5_38 x11 1 x13))) ∧ (¬ x2 ≤ (x5 + 1) → (wp_R_byteOf (fun (r_39 : Int32) => (r_39 = r_24 → (∀ x5_42 : Int32, x5_42 = (x5 + 2) → (w_R_numberOf_235 post x1 x2 x4 x7 x9 x10 rsize rval risP cnt look bad byZ inr rpl hld store tAt tSz n x5_42 x11 2 x13))) ∧ (¬ r_39 = r_24 → (∀ x5_41 : Int32, x5_41 = (x5 + 1) → (w_R_numberOf_235 post x1 x2 x4 x7 x9 x10 rsize rval risP cnt look bad byZ inr rpl hld store tAt tSz n x5_41 x11 1 x13)))) rsize rval risP cnt look bad byZ inr rpl hld store tAt x1 (x5 + 1))))) ∧ (¬ x12 = 0 → (w_R_numberOf_235 post x1 x2 x4 x7 x9 x10 rsize rval risP cnt look bad byZ inr rpl hld store tAt tSz n x5 x11 x12 0)))) ∧ (¬ (r_24 ||| 32) = 108 → (w_R_numberOf_235 post x1 x2 x4 x7 x9 x10 rsize rval risP cnt look bad byZ inr rpl hld store tAt tSz n x5 x11 x12 0)))))) ∧ (¬ (r_24 ||| 32) = 117 → (((r_24 ||| 32) = 108 → ((x12 = 0 → ((x2 ≤ (x5 + 1) → (∀ x5_29 : Int32, x5_29 = (x5 + 1) → (w_R_numberOf_235 post x1 x2 x4 x7 x9 x10 rsize rval risP cnt look bad byZ inr rpl hld store tAt tSz n x5_29 x11 1 x13))) ∧ (¬ x2 ≤ (x5 + 1) → (wp_R_byteOf (fun (r_30 : Int32) => (r_30 = r_24 → (∀ x5_33 : Int32, x5_33 = (x5 + 2) → (w_R_numberOf_235 post x1 x2 x4 x7 x9 x10 rsize rval risP cnt look bad byZ inr rpl hld store tAt tSz n x5_33 x11 2 x13))) ∧ (¬ r_30 = r_24 → (∀ x5_32 : Int32, x5_32 = (x5 + 1) → (w_R_numberOf_235 post x1 x2 x4 x7 x9 x10 rsize rval risP cnt look bad byZ inr rpl hld store tAt tSz n x5_32 x11 1 x13)))) rsize rval risP cnt look bad byZ inr rpl hld store tAt x1 (x5 + 1))))) ∧ (¬ x12 = 0 → (w_R_numberOf_235 post x1 x2 x4 x7 x9 x10 rsize rval risP cnt look bad byZ inr rpl hld store tAt tSz n x5 x11 x12 0)))) ∧ (¬ (r_24 ||| 32) = 108 → (w_R_numberOf_235 post x1 x2 x4 x7 x9 x10 rsize rval risP cnt look bad byZ inr rpl hld store tAt tSz n x5 x11 x12 0))))) rsize rval risP cnt look bad byZ inr rpl hld store tAt x1 x5))))
def w_R_numberOf_212 (post : Int64 → Int32 → Int32 → Prop) (x1 : Int32) (x2 : Int32) (x4 : Int32) (x5 : Int32) (x6 : Int32) (x7 : Int64) (x9 : Int32) (rsize : Int32) (rval : Int64) (risP : Int32) (cnt : Int32) (look : Int32) (bad : Int32) (byZ : Int32) (inr : Int32) (rpl : Int32) (hld : Int32) (store : Nat → Int32) (tAt : Nat → Int32) (tSz : Nat → Int32) : Prop := (x5 = x6 → (∃ fu235 : Nat, w_R_numberOf_235 post x1 x2 x4 x7 x9 1 rsize rval risP cnt look bad byZ inr rpl hld store tAt tSz fu235 x5 0 0 1)) ∧ (¬ x5 = x6 → (∃ fu235 : Nat, w_R_numberOf_235 post x1 x2 x4 x7 x9 0 rsize rval risP cnt look bad byZ inr rpl hld store tAt tSz fu235 x5 0 0 1))
def w_R_numberOf_93 (post : Int64 → Int32 → Int32 → Prop) (x1 : Int32) (x2 : Int32) (x4 : Int32) (x6 : Int32) (rsize : Int32) (rval : Int64) (risP : Int32) (cnt : Int32) (look : Int32) (bad : Int32) (byZ : Int32) (inr : Int32) (rpl : Int32) (hld : Int32) (store : Nat → Int32) (tAt : Nat → Int32) (tSz : Nat → Int32) : Nat → Int32 → Int64 → Int32 → Prop
  | 0 => fun _ _ _ => False
  | n + 1 => fun x5 x7 x9 => (x2 ≤ x5 → (w_R_numberOf_212 post x1 x2 x4 x5 x6 x7 x9 rsize rval risP cnt look bad byZ inr rpl hld store tAt tSz)) ∧ (¬ x2 ≤ x5 → (wp_R_byteOf (fun (r_44 : Int32) => wp_R_digitOf (fun (r_45 : Int32) => (x4 ≤ r_45 → (w_R_numberOf_212 post x1 x2 x4 x5 x6 x7 x9 rsize rval risP cnt look bad byZ inr rpl hld store tAt tSz)) ∧ (¬ x4 ≤ r_45 → (wp_R_quotient (fun (r_47 : Int64) => wp_R_byteOf (fun (r_48 : Int32) => wp_R_digitOf (fun (r_49 : Int32) => (x9 = 0 → ((0 < (lg_cmp (x7 + (-9223372036854775808)) (r_47 + (-9223372036854775808))) → (∀ x7_54 : Int64, x7_54 = ((x7 * x4.toInt64) + r_49.toInt64) → (∀ x5_55 : Int32, x5_55 = x5 + 1 → (w_R_numberOf_93 post x1 x2 x4 x6 rsize rval risP cnt look bad byZ inr rpl hld store tAt tSz n x5_55 x7_54 1)))) ∧ (¬ 0 < (lg_cmp (x7 + (-9223372036854775808)) (r_47 + (-9223372036854775808))) → (((lg_cmp x7 r_47) = 0 → ((x4 = 10 → ((r_49 ≤ 5 → (∀ x7_66 : Int64, x7_66 = ((x7 * x4.toInt64) + r_49.toInt64) → (∀ x5_67 : Int32, x5_67 = x5 + 1 → (w_R_numberOf_93 post x1 x2 x4 x6 rsize rval risP cnt look bad byZ inr rpl hld store tAt tSz n x5_67 x7_66 0)))) ∧ (¬ r_49 ≤ 5 → (∀ x7_68 : Int64, x7_68 = ((x7 * x4.toInt64) + r_49.toInt64) → (∀ x5_69 : Int32, x5_69 = x5 + 1 → (w_R_numberOf_93 post x1 x2 x4 x6 rsize rval risP cnt look bad byZ inr rpl hld store tAt tSz n x5_69 x7_68 1)))))) ∧ (¬ x4 = 10 → ((r_49 ≤ (x4 - 1) → (∀ x7_61 : Int64, x7_61 = ((x7 * x4.toInt64) + r_49.toInt64) → (∀ x5_62 : Int32, x5_62 = x5 + 1 → (w_R_numberOf_93 post x1 x2 x4 x6 rsize rval risP cnt look bad byZ inr rpl hld store tAt tSz n x5_62 x7_61 0)))) ∧ (¬ r_49 ≤ (x4 - 1) → (∀ x7_63 : Int64, x7_63 = ((x7 * x4.toInt64) + r_49.toInt64) → (∀ x5_64 : Int32, x5_64 = x5 + 1 → (w_R_numberOf_93 post x1 x2 x4 x6 rsize rval risP cnt look bad byZ inr rpl hld store tAt tSz n x5_64 x7_63 1)))))))) ∧ (¬ (lg_cmp x7 r_47) = 0 → (∀ x7_57 : Int64, x7_57 = ((x7 * x4.toInt64) + r_49.toInt64) → (∀ x5_58 : Int32, x5_58 = x5 + 1 → (w_R_numberOf_93 post x1 x2 x4 x6 rsize rval risP cnt look bad byZ inr rpl hld store tAt tSz n x5_58 x7_57 0)))))))) ∧ (¬ x9 = 0 → (∀ x7_51 : Int64, x7_51 = ((x7 * x4.toInt64) + r_49.toInt64) → (∀ x5_52 : Int32, x5_52 = x5 + 1 → (w_R_numberOf_93 post x1 x2 x4 x6 rsize rval risP cnt look bad byZ inr rpl hld store tAt tSz n x5_52 x7_51 1))))) r_48) rsize rval risP cnt look bad byZ inr rpl hld store tAt x1 x5) (-1) x4.toInt64 1))) r_44) rsize rval risP cnt look bad byZ inr rpl hld store tAt x1 x5))
def w_R_numberOf_70 (post : Int64 → Int32 → Int32 → Prop) (x1 : Int32) (x2 : Int32) (x3 : Int32) (z0 : Int32) (rsize : Int32) (rval : Int64) (risP : Int32) (cnt : Int32) (look : Int32) (bad : Int32) (byZ : Int32) (inr : Int32) (rpl : Int32) (hld : Int32) (store : Nat → Int32) (tAt : Nat → Int32) (tSz : Nat → Int32) : Prop := (x3 = 0 → (∃ fu93 : Nat, w_R_numberOf_93 post x1 x2 z0 0 rsize rval risP cnt look bad byZ inr rpl hld store tAt tSz fu93 0 0 0)) ∧ (¬ x3 = 0 → (∃ fu93 : Nat, w_R_numberOf_93 post x1 x2 z0 2 rsize rval risP cnt look bad byZ inr rpl hld store tAt tSz fu93 2 0 0))
def w_R_numberOf_42 (post : Int64 → Int32 → Int32 → Prop) (x1 : Int32) (x2 : Int32) (z0 : Int32) (rsize : Int32) (rval : Int64) (risP : Int32) (cnt : Int32) (look : Int32) (bad : Int32) (byZ : Int32) (inr : Int32) (rpl : Int32) (hld : Int32) (store : Nat → Int32) (tAt : Nat → Int32) (tSz : Nat → Int32) : Prop := (z0 = 0 → (wp_R_byteOf (fun (r_5 : Int32) => (r_5 = 48 → (w_R_numberOf_70 post x1 x2 z0 8 rsize rval risP cnt look bad byZ inr rpl hld store tAt tSz)) ∧ (¬ r_5 = 48 → (w_R_numberOf_70 post x1 x2 z0 10 rsize rval risP cnt look bad byZ inr rpl hld store tAt tSz))) rsize rval risP cnt look bad byZ inr rpl hld store tAt x1 0)) ∧ (¬ z0 = 0 → (w_R_numberOf_70 post x1 x2 z0 16 rsize rval risP cnt look bad byZ inr rpl hld store tAt tSz))
def wp_R_numberOf (post : Int64 → Int32 → Int32 → Prop) (rsize : Int32) (rval : Int64) (risP : Int32) (cnt : Int32) (look : Int32) (bad : Int32) (byZ : Int32) (inr : Int32) (rpl : Int32) (hld : Int32) (store : Nat → Int32) (tAt : Nat → Int32) (tSz : Nat → Int32) (p0 : Int32) : Prop := vp_in p0 4096 ∧ (∀ x2_2 : Int32, x2_2 = (tSz p0.toNatClampNeg) → ((x2_2 ≤ 2 → (w_R_numberOf_42 post p0 x2_2 0 rsize rval risP cnt look bad byZ inr rpl hld store tAt tSz)) ∧ (¬ x2_2 ≤ 2 → (wp_R_byteOf (fun (r_70 : Int32) => (r_70 = 48 → (wp_R_byteOf (fun (r_72 : Int32) => ((r_72 ||| 32) = 120 → (w_R_numberOf_42 post p0 x2_2 1 rsize rval risP cnt look bad byZ inr rpl hld store tAt tSz)) ∧ (¬ (r_72 ||| 32) = 120 → (w_R_numberOf_42 post p0 x2_2 0 rsize rval risP cnt look bad byZ inr rpl hld store tAt tSz))) rsize rval risP cnt look bad byZ inr rpl hld store tAt p0 1)) ∧ (¬ r_70 = 48 → (w_R_numberOf_42 post p0 x2_2 0 rsize rval risP cnt look bad byZ inr rpl hld store tAt tSz))) rsize rval risP cnt look bad byZ inr rpl hld store tAt p0 0))))
set_option maxHeartbeats 4000000 in
set_option maxRecDepth 100000 in
theorem kc_R_numberOf (l : Launch) (dC : Nat → ClassId) (dI : Nat → Nat → Nat) (ad : Nat → Nat) (ck : Nat → ClassId) (rsize : Int32) (rval : Int64) (risP : Int32) (cnt : Int32) (look : Int32) (bad : Int32) (byZ : Int32) (inr : Int32) (rpl : Int32) (hld : Int32) (store : Nat → Int32) (tAt : Nat → Int32) (tSz : Nat → Int32) (p0 : Int32) {post : Int64 → Int32 → Int32 → Prop} (hw : wp_R_numberOf post rsize rval risP cnt look bad byZ inr rpl hld store tAt tSz p0) : k_Cl l y_R_numberOf ws_R_numberOf ({ frames := 2, cells := 0, slots := 0, locals := 40 } : Room) (dC, dI) vwCl (TYr ck) k_x0 [.ref (ad 11), .int p0] (wd_R_numberOf ad ck rsize rval risP cnt look bad byZ inr rpl hld store tAt tSz) (fun (r : Int64) (u : Int32 × Int32) => post r u.1 u.2) (fun (u : Int32 × Int32) => wd_R_numberOf ad ck rsize rval risP cnt look u.1 byZ inr u.2 hld store tAt tSz) := by
  intro sz
  refine Met.ofW (cc := c_R_numberOf) (maxL := 15) (ret := (some .long)) (by decide) rfl ?_
  intro p e s m args below meth c s₁ B hml hv
  obtain ⟨rfl, hsz, hP, hK, hD0, hX⟩ := hv
  have hx := B.exec
  have hb := B.bytes
  have hr := B.returns
  have hts : ∀ w ∈ TB, w.before _ s = true := fun w h => atoms_spec (ws := ws_R_numberOf) B.pre w (List.mem_cons_of_mem _ h)
  have hown : s.vm.findClass R_R = some m.cls := findClass_of_methodNamed B.named
  have hlocks := B.notSynchronized
  subst hsz
  have hD := hD0.self (sz := s.heap.size)
  generalize hAe : va_A (wd_R_numberOf ad ck rsize rval risP cnt look bad byZ inr rpl hld store tAt tSz) s.heap.size = A at hD hX ⊢
  have hA : ∀ q : Nat, s.heap.size ≤ q → A q := fun q h => by rw [← hAe]; exact Or.inr h
  have hS : va_S A s.heap s.heap [] := va_S.rf
  have hP : va_P (dC, dI) vwCl (wd_R_numberOf ad ck rsize rval risP cnt look bad byZ inr rpl hld store tAt tSz) s.heap := hP
  have hl := lv_entry ([.ref (ad 11), .int p0]) (n := 15) (Nat.le_of_ble_eq_true rfl)
  rw [lg_entry_eq]
  generalize (lg_sl ([.ref (ad 11), .int p0]) ++ List.replicate (15 - (lg_sl ([.ref (ad 11), .int p0])).length) Slot.unset).toArray = ls at hl ⊢
  have hl : lv_has ls 15 [(0, .ref (ad 11)), (1, .int p0)] := hl
  have L_357 : ∀ (x4 : Int32) (x7 : Int64) (x9 : Int32) (x10 : Int32) (x11 : Int32) (x13 : Int32) (z0 : Int32) (rsize : Int32) (rval : Int64) (risP : Int32) (cnt : Int32) (look : Int32) (bad : Int32) (byZ : Int32) (inr : Int32) (rpl : Int32) (hld : Int32) (store : Nat → Int32) (tAt : Nat → Int32) (tSz : Nat → Int32) (H : Heap) (locs : List Loc) (ls : Array Slot), w_R_numberOf_357 post x4 x7 x9 x10 x11 x13 z0 rsize rval risP cnt look bad byZ inr rpl hld store tAt tSz → va_P (dC, dI) vwCl (wd_R_numberOf ad ck rsize rval risP cnt look bad byZ inr rpl hld store tAt tSz) H → va_D A (wd_R_numberOf ad ck rsize rval risP cnt look bad byZ inr rpl hld store tAt tSz) → va_S A s.heap H locs → lv_has ls 15 [(0, .ref (ad 11)), (4, .int x4), (7, .long x7), (9, .int x9), (10, .int x10), (11, .int x11), (13, .int x13)] → W p l e (headSpec ws_R_numberOf ({ frames := 2, cells := 0, slots := 0, locals := 40 } : Room)).room s m ([.ref (ad 11), .int p0] : List Value).toArray below meth c H locs 0 0 (k_Ql below (dC, dI) vwCl (TYr ck) A (fun (r : Int64) (u : Int32 × Int32) => post r u.1 u.2) (fun (u : Int32 × Int32) => wd_R_numberOf ad ck rsize rval risP cnt look u.1 byZ inr u.2 hld store tAt tSz) ([.ref (ad 11), .int p0] : List Value).toArray s) (F0 m 357 ls [.int z0, .ref (ad 11)]) := by
    intro x4 x7 x9 x10 x11 x13 z0 rsize rval risP cnt look bad byZ inr rpl hld store tAt tSz H locs ls hw hP hD hS hl
    obtain ⟨hz_12, hw⟩ := hw
    refine va_put (D := (dC, dI)) (ci := 5) (v := .int z0) (ty := .boolean) (C := R_R) (T := T_R) (N := 16) hx hb hts in_R ty_R ty_R_ok nm_R hown hK hP hD hS 0 rfl rfl 11 (by decide) (hts _ ux_95) (fun _ h9 => h9) rfl (by decide +kernel) (vz_n hz_12) (vz_f hz_12) (Nat.le_of_ble_eq_true rfl) d_R_numberOf_357 (fun H locs hP hD hS => ?_)
    have hP : va_P (dC, dI) vwCl (wd_R_numberOf ad ck rsize rval risP cnt look bad byZ inr z0 hld store tAt tSz) H := hP
    have hD : va_D A (wd_R_numberOf ad ck rsize rval risP cnt look bad byZ inr z0 hld store tAt tSz) := hD
    refine lv_aload_n hx hb d_R_numberOf_360 rfl (lv_at hl 0 rfl) ?_
    refine lv_aload_n hx hb d_R_numberOf_361 rfl (lv_at hl 0 rfl) ?_
    refine va_get (D := (dC, dI)) (ci := 5) (v := .int bad) (C := R_R) (T := T_R) (N := 16) hx hb hts in_R hown hK hP 0 rfl rfl 8 (by decide) (hts _ ux_110) (fun _ h9 => h9) rfl d_R_numberOf_362 ?_
    obtain ⟨hwt, hwf⟩ := hw
    refine lv_if_ne (tgt := 402) hx hb d_R_numberOf_365 (by decide) (fun c_13 => ?_) (fun c_13 => ?_)
    · have hw := hwf c_13
      refine lv_iconst (v := 1) hx hb d_R_numberOf_402 (by decide) ?_
      refine lv_goto (tgt := 407) hx hb d_R_numberOf_403 (by decide) ?_
      refine va_put (D := (dC, dI)) (ci := 5) (v := .int 1) (ty := .boolean) (C := R_R) (T := T_R) (N := 16) hx hb hts in_R ty_R ty_R_ok nm_R hown hK hP hD hS 0 rfl rfl 8 (by decide) (hts _ ux_110) (fun _ h9 => h9) rfl (by decide +kernel) (by decide) (by decide) (Nat.le_of_ble_eq_true rfl) d_R_numberOf_407 (fun H locs hP hD hS => ?_)
      have hP : va_P (dC, dI) vwCl (wd_R_numberOf ad ck rsize rval risP cnt look 1 byZ inr z0 hld store tAt tSz) H := hP
      have hD : va_D A (wd_R_numberOf ad ck rsize rval risP cnt look 1 byZ inr z0 hld store tAt tSz) := hD
      refine lv_lload hx hb d_R_numberOf_410 (lv_at hl 2 rfl) ?_
      exact W.lret (v := x7) hx hb hr (fun t ht hW => ⟨⟨x7, (1, z0), rfl, hw, by rw [ht]; exact hP, va_K.moved hW.alike hK, hD⟩, hS.F ht⟩) hS.2.2 d_R_numberOf_412
    · have hw := hwt c_13
      refine lv_iload hx hb d_R_numberOf_368 (lv_at hl 4 rfl) ?_
      obtain ⟨hwt, hwf⟩ := hw
      refine lv_if_ne (tgt := 402) hx hb d_R_numberOf_370 (by decide) (fun c_14 => ?_) (fun c_14 => ?_)
      · have hw := hwf c_14
        refine lv_iconst (v := 1) hx hb d_R_numberOf_402 (by decide) ?_
        refine lv_goto (tgt := 407) hx hb d_R_numberOf_403 (by decide) ?_
        refine va_put (D := (dC, dI)) (ci := 5) (v := .int 1) (ty := .boolean) (C := R_R) (T := T_R) (N := 16) hx hb hts in_R ty_R ty_R_ok nm_R hown hK hP hD hS 0 rfl rfl 8 (by decide) (hts _ ux_110) (fun _ h9 => h9) rfl (by decide +kernel) (by decide) (by decide) (Nat.le_of_ble_eq_true rfl) d_R_numberOf_407 (fun H locs hP hD hS => ?_)
        have hP : va_P (dC, dI) vwCl (wd_R_numberOf ad ck rsize rval risP cnt look 1 byZ inr z0 hld store tAt tSz) H := hP
        have hD : va_D A (wd_R_numberOf ad ck rsize rval risP cnt look 1 byZ inr z0 hld store tAt tSz) := hD
        refine lv_lload hx hb d_R_numberOf_410 (lv_at hl 2 rfl) ?_
        exact W.lret (v := x7) hx hb hr (fun t ht hW => ⟨⟨x7, (1, z0), rfl, hw, by rw [ht]; exact hP, va_K.moved hW.alike hK, hD⟩, hS.F ht⟩) hS.2.2 d_R_numberOf_412
      · have hw := hwt c_14
        refine lv_iload hx hb d_R_numberOf_373 (lv_at hl 6 rfl) ?_
        obtain ⟨hwt, hwf⟩ := hw
        refine lv_if_eq (tgt := 402) hx hb d_R_numberOf_375 (by decide) (fun c_15 => ?_) (fun c_15 => ?_)
        · have hw := hwt c_15
          refine lv_iconst (v := 1) hx hb d_R_numberOf_402 (by decide) ?_
          refine lv_goto (tgt := 407) hx hb d_R_numberOf_403 (by decide) ?_
          refine va_put (D := (dC, dI)) (ci := 5) (v := .int 1) (ty := .boolean) (C := R_R) (T := T_R) (N := 16) hx hb hts in_R ty_R ty_R_ok nm_R hown hK hP hD hS 0 rfl rfl 8 (by decide) (hts _ ux_110) (fun _ h9 => h9) rfl (by decide +kernel) (by decide) (by decide) (Nat.le_of_ble_eq_true rfl) d_R_numberOf_407 (fun H locs hP hD hS => ?_)
          have hP : va_P (dC, dI) vwCl (wd_R_numberOf ad ck rsize rval risP cnt look 1 byZ inr z0 hld store tAt tSz) H := hP
          have hD : va_D A (wd_R_numberOf ad ck rsize rval risP cnt look 1 byZ inr z0 hld store tAt tSz) := hD
          refine lv_lload hx hb d_R_numberOf_410 (lv_at hl 2 rfl) ?_
          exact W.lret (v := x7) hx hb hr (fun t ht hW => ⟨⟨x7, (1, z0), rfl, hw, by rw [ht]; exact hP, va_K.moved hW.alike hK, hD⟩, hS.F ht⟩) hS.2.2 d_R_numberOf_412
        · have hw := hwf c_15
          refine lv_iload hx hb d_R_numberOf_378 (lv_at hl 3 rfl) ?_
          obtain ⟨hwt, hwf⟩ := hw
          refine lv_if_ne (tgt := 402) hx hb d_R_numberOf_380 (by decide) (fun c_16 => ?_) (fun c_16 => ?_)
          · have hw := hwf c_16
            refine lv_iconst (v := 1) hx hb d_R_numberOf_402 (by decide) ?_
            refine lv_goto (tgt := 407) hx hb d_R_numberOf_403 (by decide) ?_
            refine va_put (D := (dC, dI)) (ci := 5) (v := .int 1) (ty := .boolean) (C := R_R) (T := T_R) (N := 16) hx hb hts in_R ty_R ty_R_ok nm_R hown hK hP hD hS 0 rfl rfl 8 (by decide) (hts _ ux_110) (fun _ h9 => h9) rfl (by decide +kernel) (by decide) (by decide) (Nat.le_of_ble_eq_true rfl) d_R_numberOf_407 (fun H locs hP hD hS => ?_)
            have hP : va_P (dC, dI) vwCl (wd_R_numberOf ad ck rsize rval risP cnt look 1 byZ inr z0 hld store tAt tSz) H := hP
            have hD : va_D A (wd_R_numberOf ad ck rsize rval risP cnt look 1 byZ inr z0 hld store tAt tSz) := hD
            refine lv_lload hx hb d_R_numberOf_410 (lv_at hl 2 rfl) ?_
            exact W.lret (v := x7) hx hb hr (fun t ht hW => ⟨⟨x7, (1, z0), rfl, hw, by rw [ht]; exact hP, va_K.moved hW.alike hK, hD⟩, hS.F ht⟩) hS.2.2 d_R_numberOf_412
          · have hw := hwt c_16
            refine lv_lload hx hb d_R_numberOf_383 (lv_at hl 2 rfl) ?_
            refine lv_lconst (v := 0) hx hb d_R_numberOf_385 (by decide) ?_
            refine W.lcmp hx hb d_R_numberOf_386 ?_
            obtain ⟨hwt, hwf⟩ := hw
            refine lv_if_ge (tgt := 406) hx hb d_R_numberOf_387 (by decide) (fun c_17 => ?_) (fun c_17 => ?_)
            · have hw := hwt c_17
              refine lv_iconst (v := 0) hx hb d_R_numberOf_406 (by decide) ?_
              refine va_put (D := (dC, dI)) (ci := 5) (v := .int 0) (ty := .boolean) (C := R_R) (T := T_R) (N := 16) hx hb hts in_R ty_R ty_R_ok nm_R hown hK hP hD hS 0 rfl rfl 8 (by decide) (hts _ ux_110) (fun _ h9 => h9) rfl (by decide +kernel) (by decide) (by decide) (Nat.le_of_ble_eq_true rfl) d_R_numberOf_407 (fun H locs hP hD hS => ?_)
              have hP : va_P (dC, dI) vwCl (wd_R_numberOf ad ck rsize rval risP cnt look 0 byZ inr z0 hld store tAt tSz) H := hP
              have hD : va_D A (wd_R_numberOf ad ck rsize rval risP cnt look 0 byZ inr z0 hld store tAt tSz) := hD
              refine lv_lload hx hb d_R_numberOf_410 (lv_at hl 2 rfl) ?_
              exact W.lret (v := x7) hx hb hr (fun t ht hW => ⟨⟨x7, (0, z0), rfl, hw, by rw [ht]; exact hP, va_K.moved hW.alike hK, hD⟩, hS.F ht⟩) hS.2.2 d_R_numberOf_412
            · have hw := hwf c_17
              refine lv_iload hx hb d_R_numberOf_390 (lv_at hl 5 rfl) ?_
              obtain ⟨hwt, hwf⟩ := hw
              refine lv_if_ne (tgt := 406) hx hb d_R_numberOf_392 (by decide) (fun c_18 => ?_) (fun c_18 => ?_)
              · have hw := hwf c_18
                refine lv_iconst (v := 0) hx hb d_R_numberOf_406 (by decide) ?_
                refine va_put (D := (dC, dI)) (ci := 5) (v := .int 0) (ty := .boolean) (C := R_R) (T := T_R) (N := 16) hx hb hts in_R ty_R ty_R_ok nm_R hown hK hP hD hS 0 rfl rfl 8 (by decide) (hts _ ux_110) (fun _ h9 => h9) rfl (by decide +kernel) (by decide) (by decide) (Nat.le_of_ble_eq_true rfl) d_R_numberOf_407 (fun H locs hP hD hS => ?_)
                have hP : va_P (dC, dI) vwCl (wd_R_numberOf ad ck rsize rval risP cnt look 0 byZ inr z0 hld store tAt tSz) H := hP
                have hD : va_D A (wd_R_numberOf ad ck rsize rval risP cnt look 0 byZ inr z0 hld store tAt tSz) := hD
                refine lv_lload hx hb d_R_numberOf_410 (lv_at hl 2 rfl) ?_
                exact W.lret (v := x7) hx hb hr (fun t ht hW => ⟨⟨x7, (0, z0), rfl, hw, by rw [ht]; exact hP, va_K.moved hW.alike hK, hD⟩, hS.F ht⟩) hS.2.2 d_R_numberOf_412
              · have hw := hwt c_18
                refine lv_iload hx hb d_R_numberOf_395 (lv_at hl 1 rfl) ?_
                refine lv_bipush (v := 10) hx hb d_R_numberOf_397 (by decide) ?_
                obtain ⟨hwt, hwf⟩ := hw
                refine lv_icmp_ne (tgt := 406) hx hb d_R_numberOf_399 (by decide) (fun c_19 => ?_) (fun c_19 => ?_)
                · have hw := hwf c_19
                  refine lv_iconst (v := 0) hx hb d_R_numberOf_406 (by decide) ?_
                  refine va_put (D := (dC, dI)) (ci := 5) (v := .int 0) (ty := .boolean) (C := R_R) (T := T_R) (N := 16) hx hb hts in_R ty_R ty_R_ok nm_R hown hK hP hD hS 0 rfl rfl 8 (by decide) (hts _ ux_110) (fun _ h9 => h9) rfl (by decide +kernel) (by decide) (by decide) (Nat.le_of_ble_eq_true rfl) d_R_numberOf_407 (fun H locs hP hD hS => ?_)
                  have hP : va_P (dC, dI) vwCl (wd_R_numberOf ad ck rsize rval risP cnt look 0 byZ inr z0 hld store tAt tSz) H := hP
                  have hD : va_D A (wd_R_numberOf ad ck rsize rval risP cnt look 0 byZ inr z0 hld store tAt tSz) := hD
                  refine lv_lload hx hb d_R_numberOf_410 (lv_at hl 2 rfl) ?_
                  exact W.lret (v := x7) hx hb hr (fun t ht hW => ⟨⟨x7, (0, z0), rfl, hw, by rw [ht]; exact hP, va_K.moved hW.alike hK, hD⟩, hS.F ht⟩) hS.2.2 d_R_numberOf_412
                · have hw := hwt c_19
                  refine lv_iconst (v := 1) hx hb d_R_numberOf_402 (by decide) ?_
                  refine lv_goto (tgt := 407) hx hb d_R_numberOf_403 (by decide) ?_
                  refine va_put (D := (dC, dI)) (ci := 5) (v := .int 1) (ty := .boolean) (C := R_R) (T := T_R) (N := 16) hx hb hts in_R ty_R ty_R_ok nm_R hown hK hP hD hS 0 rfl rfl 8 (by decide) (hts _ ux_110) (fun _ h9 => h9) rfl (by decide +kernel) (by decide) (by decide) (Nat.le_of_ble_eq_true rfl) d_R_numberOf_407 (fun H locs hP hD hS => ?_)
                  have hP : va_P (dC, dI) vwCl (wd_R_numberOf ad ck rsize rval risP cnt look 1 byZ inr z0 hld store tAt tSz) H := hP
                  have hD : va_D A (wd_R_numberOf ad ck rsize rval risP cnt look 1 byZ inr z0 hld store tAt tSz) := hD
                  refine lv_lload hx hb d_R_numberOf_410 (lv_at hl 2 rfl) ?_
                  exact W.lret (v := x7) hx hb hr (fun t ht hW => ⟨⟨x7, (1, z0), rfl, hw, by rw [ht]; exact hP, va_K.moved hW.alike hK, hD⟩, hS.F ht⟩) hS.2.2 d_R_numberOf_412
  have L_235 : ∀ (x1 : Int32) (x2 : Int32) (x4 : Int32) (x7 : Int64) (x9 : Int32) (x10 : Int32) (rsize : Int32) (rval : Int64) (risP : Int32) (cnt : Int32) (look : Int32) (bad : Int32) (byZ : Int32) (inr : Int32) (rpl : Int32) (hld : Int32) (store : Nat → Int32) (tAt : Nat → Int32) (tSz : Nat → Int32) (n : Nat) (x5 : Int32) (x11 : Int32) (x12 : Int32) (x13 : Int32) (H : Heap) (locs : List Loc) (ls : Array Slot), w_R_numberOf_235 post x1 x2 x4 x7 x9 x10 rsize rval risP cnt look bad byZ inr rpl hld store tAt tSz n x5 x11 x12 x13 → va_P (dC, dI) vwCl (wd_R_numberOf ad ck rsize rval risP cnt look bad byZ inr rpl hld store tAt tSz) H → va_D A (wd_R_numberOf ad ck rsize rval risP cnt look bad byZ inr rpl hld store tAt tSz) → va_S A s.heap H locs → lv_has ls 15 [(0, .ref (ad 11)), (1, .int x1), (2, .int x2), (4, .int x4), (5, .int x5), (7, .long x7), (9, .int x9), (10, .int x10), (11, .int x11), (12, .int x12), (13, .int x13)] → W p l e (headSpec ws_R_numberOf ({ frames := 2, cells := 0, slots := 0, locals := 40 } : Room)).room s m ([.ref (ad 11), .int p0] : List Value).toArray below meth c H locs 0 0 (k_Ql below (dC, dI) vwCl (TYr ck) A (fun (r : Int64) (u : Int32 × Int32) => post r u.1 u.2) (fun (u : Int32 × Int32) => wd_R_numberOf ad ck rsize rval risP cnt look u.1 byZ inr u.2 hld store tAt tSz) ([.ref (ad 11), .int p0] : List Value).toArray s) (F0 m 235 ls []) := by
    intro x1 x2 x4 x7 x9 x10 rsize rval risP cnt look bad byZ inr rpl hld store tAt tSz n
    induction n with
    | zero =>
      intro x5 x11 x12 x13 H locs ls hw
      exact False.elim hw
    | succ n ih =>
      intro x5 x11 x12 x13 H locs ls hw hP hD hS hl
      refine lv_iload hx hb d_R_numberOf_235 (lv_at hl 4 rfl) ?_
      refine lv_iload_n hx hb d_R_numberOf_237 rfl (lv_at hl 2 rfl) ?_
      obtain ⟨hwt, hwf⟩ := hw
      refine lv_icmp_ge (tgt := 339) hx hb d_R_numberOf_238 (by decide) (fun c_10 => ?_) (fun c_10 => ?_)
      · have hw := hwt c_10
        refine lv_aload_n hx hb d_R_numberOf_339 rfl (lv_at hl 0 rfl) ?_
        refine lv_iload hx hb d_R_numberOf_340 (lv_at hl 8 rfl) ?_
        obtain ⟨hwt, hwf⟩ := hw
        refine lv_if_ne (tgt := 352) hx hb d_R_numberOf_342 (by decide) (fun c_11 => ?_) (fun c_11 => ?_)
        · have hw := hwf c_11
          refine lv_iconst (v := 1) hx hb d_R_numberOf_352 (by decide) ?_
          refine lv_goto (tgt := 357) hx hb d_R_numberOf_353 (by decide) ?_
          exact L_357 x4 x7 x9 x10 x11 x13 1 rsize rval risP cnt look bad byZ inr rpl hld store tAt tSz _ _ _ hw hP hD hS (lv_sub hl [0, 3, 5, 6, 7, 8, 10] rfl)
        · have hw := hwt c_11
          refine lv_lload hx hb d_R_numberOf_345 (lv_at hl 5 rfl) ?_
          refine lv_lconst (v := 0) hx hb d_R_numberOf_347 (by decide) ?_
          refine W.lcmp hx hb d_R_numberOf_348 ?_
          obtain ⟨hwt, hwf⟩ := hw
          refine lv_if_ge (tgt := 356) hx hb d_R_numberOf_349 (by decide) (fun c_20 => ?_) (fun c_20 => ?_)
          · have hw := hwt c_20
            refine lv_iconst (v := 0) hx hb d_R_numberOf_356 (by decide) ?_
            exact L_357 x4 x7 x9 x10 x11 x13 0 rsize rval risP cnt look bad byZ inr rpl hld store tAt tSz _ _ _ hw hP hD hS (lv_sub hl [0, 3, 5, 6, 7, 8, 10] rfl)
          · have hw := hwf c_20
            refine lv_iconst (v := 1) hx hb d_R_numberOf_352 (by decide) ?_
            refine lv_goto (tgt := 357) hx hb d_R_numberOf_353 (by decide) ?_
            exact L_357 x4 x7 x9 x10 x11 x13 1 rsize rval risP cnt look bad byZ inr rpl hld store tAt tSz _ _ _ hw hP hD hS (lv_sub hl [0, 3, 5, 6, 7, 8, 10] rfl)
      · have hw := hwf c_10
        refine lv_iload hx hb d_R_numberOf_241 (lv_at hl 10 rfl) ?_
        obtain ⟨hwt, hwf⟩ := hw
        refine lv_if_eq (tgt := 339) hx hb d_R_numberOf_243 (by decide) (fun c_21 => ?_) (fun c_21 => ?_)
        · have hw := hwt c_21
          refine lv_aload_n hx hb d_R_numberOf_339 rfl (lv_at hl 0 rfl) ?_
          refine lv_iload hx hb d_R_numberOf_340 (lv_at hl 8 rfl) ?_
          obtain ⟨hwt, hwf⟩ := hw
          refine lv_if_ne (tgt := 352) hx hb d_R_numberOf_342 (by decide) (fun c_22 => ?_) (fun c_22 => ?_)
          · have hw := hwf c_22
            refine lv_iconst (v := 1) hx hb d_R_numberOf_352 (by decide) ?_
            refine lv_goto (tgt := 357) hx hb d_R_numberOf_353 (by decide) ?_
            exact L_357 x4 x7 x9 x10 x11 x13 1 rsize rval risP cnt look bad byZ inr rpl hld store tAt tSz _ _ _ hw hP hD hS (lv_sub hl [0, 3, 5, 6, 7, 8, 10] rfl)
          · have hw := hwt c_22
            refine lv_lload hx hb d_R_numberOf_345 (lv_at hl 5 rfl) ?_
            refine lv_lconst (v := 0) hx hb d_R_numberOf_347 (by decide) ?_
            refine W.lcmp hx hb d_R_numberOf_348 ?_
            obtain ⟨hwt, hwf⟩ := hw
            refine lv_if_ge (tgt := 356) hx hb d_R_numberOf_349 (by decide) (fun c_23 => ?_) (fun c_23 => ?_)
            · have hw := hwt c_23
              refine lv_iconst (v := 0) hx hb d_R_numberOf_356 (by decide) ?_
              exact L_357 x4 x7 x9 x10 x11 x13 0 rsize rval risP cnt look bad byZ inr rpl hld store tAt tSz _ _ _ hw hP hD hS (lv_sub hl [0, 3, 5, 6, 7, 8, 10] rfl)
            · have hw := hwf c_23
              refine lv_iconst (v := 1) hx hb d_R_numberOf_352 (by decide) ?_
              refine lv_goto (tgt := 357) hx hb d_R_numberOf_353 (by decide) ?_
              exact L_357 x4 x7 x9 x10 x11 x13 1 rsize rval risP cnt look bad byZ inr rpl hld store tAt tSz _ _ _ hw hP hD hS (lv_sub hl [0, 3, 5, 6, 7, 8, 10] rfl)
        · have hw := hwf c_21
          refine lv_aload_n hx hb d_R_numberOf_246 rfl (lv_at hl 0 rfl) ?_
          refine lv_iload_n hx hb d_R_numberOf_247 rfl (lv_at hl 1 rfl) ?_
          refine lv_iload hx hb d_R_numberOf_248 (lv_at hl 4 rfl) ?_
          refine k_callVi (As := [.int x1, .int x5]) (rest := []) (fun (u : Unit) => wd_R_numberOf ad ck rsize rval risP cnt look bad byZ inr rpl hld store tAt tSz) ⟨hx, hb, hml, hown, hts⟩ (kc_R_byteOf l dC dI ad ck rsize rval risP cnt look bad byZ inr rpl hld store tAt x1 x5 (hw := hw)) (cwV 2 hts (gV ux_79 ux_81 ux_82 ux_49 ux_80) rfl rfl rfl hd_R_byteOf ⟨Nat.le_of_ble_eq_true rfl, Nat.le_of_ble_eq_true rfl⟩) hK hP hD hS hA k_x0c trivial [0, 1, 2] [3] [1, 2, 3, 0] rfl rfl (by decide) (by decide) (fun _ => rfl) (va_recv hK hP (ci := 5) (q0 := 0) rfl rfl) rfl hl.1 rfl (lv_room (Nat.le_of_ble_eq_true rfl)) d_R_numberOf_250 ⟨Nat.zero_le _, Nat.zero_le _⟩ ?_
          intro r_24 u H locs hw hP hD hS
          have hP : va_P (dC, dI) vwCl (wd_R_numberOf ad ck rsize rval risP cnt look bad byZ inr rpl hld store tAt tSz) H := hP
          have hD : va_D A (wd_R_numberOf ad ck rsize rval risP cnt look bad byZ inr rpl hld store tAt tSz) := hD
          try dsimp only at hw
          refine lv_istore (lv' := [(14, .int r_24), (0, .ref (ad 11)), (1, .int x1), (2, .int x2), (4, .int x4), (5, .int x5), (7, .long x7), (9, .int x9), (10, .int x10), (11, .int x11), (12, .int x12), (13, .int x13)]) hx hb d_R_numberOf_253 hl (by decide) rfl (fun ls hl => ?_)
          refine lv_iload hx hb d_R_numberOf_255 (lv_at hl 0 rfl) ?_
          refine lv_bipush (v := 32) hx hb d_R_numberOf_257 (by decide) ?_
          refine lv_ior hx hb d_R_numberOf_259 ?_
          refine lv_bipush (v := 117) hx hb d_R_numberOf_260 (by decide) ?_
          obtain ⟨hwt, hwf⟩ := hw
          refine lv_icmp_ne (tgt := 279) hx hb d_R_numberOf_262 (by decide) (fun c_25 => ?_) (fun c_25 => ?_)
          · have hw := hwf c_25
            refine lv_iload hx hb d_R_numberOf_279 (lv_at hl 0 rfl) ?_
            refine lv_bipush (v := 32) hx hb d_R_numberOf_281 (by decide) ?_
            refine lv_ior hx hb d_R_numberOf_283 ?_
            refine lv_bipush (v := 108) hx hb d_R_numberOf_284 (by decide) ?_
            obtain ⟨hwt, hwf⟩ := hw
            refine lv_icmp_ne (tgt := 333) hx hb d_R_numberOf_286 (by decide) (fun c_26 => ?_) (fun c_26 => ?_)
            · have hw := hwf c_26
              refine lv_iconst (v := 0) hx hb d_R_numberOf_333 (by decide) ?_
              refine lv_istore (lv' := [(13, .int 0), (14, .int r_24), (0, .ref (ad 11)), (1, .int x1), (2, .int x2), (4, .int x4), (5, .int x5), (7, .long x7), (9, .int x9), (10, .int x10), (11, .int x11), (12, .int x12)]) hx hb d_R_numberOf_334 hl (by decide) rfl (fun ls hl => ?_)
              refine lv_goto (tgt := 235) hx hb d_R_numberOf_336 (by decide) ?_
              exact ih x5 x11 x12 0 _ _ _ hw hP hD hS (lv_sub hl [2, 3, 4, 5, 6, 7, 8, 9, 10, 11, 0] rfl)
            · have hw := hwt c_26
              refine lv_iload hx hb d_R_numberOf_289 (lv_at hl 10 rfl) ?_
              obtain ⟨hwt, hwf⟩ := hw
              refine lv_if_ne (tgt := 333) hx hb d_R_numberOf_291 (by decide) (fun c_27 => ?_) (fun c_27 => ?_)
              · have hw := hwf c_27
                refine lv_iconst (v := 0) hx hb d_R_numberOf_333 (by decide) ?_
                refine lv_istore (lv' := [(13, .int 0), (14, .int r_24), (0, .ref (ad 11)), (1, .int x1), (2, .int x2), (4, .int x4), (5, .int x5), (7, .long x7), (9, .int x9), (10, .int x10), (11, .int x11), (12, .int x12)]) hx hb d_R_numberOf_334 hl (by decide) rfl (fun ls hl => ?_)
                refine lv_goto (tgt := 235) hx hb d_R_numberOf_336 (by decide) ?_
                exact ih x5 x11 x12 0 _ _ _ hw hP hD hS (lv_sub hl [2, 3, 4, 5, 6, 7, 8, 9, 10, 11, 0] rfl)
              · have hw := hwt c_27
                refine lv_iload hx hb d_R_numberOf_294 (lv_at hl 5 rfl) ?_
                refine lv_iconst (v := 1) hx hb d_R_numberOf_296 (by decide) ?_
                refine lv_iadd hx hb d_R_numberOf_297 ?_
                refine lv_iload_n hx hb d_R_numberOf_298 rfl (lv_at hl 3 rfl) ?_
                obtain ⟨hwt, hwf⟩ := hw
                refine lv_icmp_ge (tgt := 320) hx hb d_R_numberOf_299 (by decide) (fun c_28 => ?_) (fun c_28 => ?_)
                · have hw := hwt c_28
                  refine lv_iconst (v := 1) hx hb d_R_numberOf_320 (by decide) ?_
                  refine lv_istore (lv' := [(12, .int 1), (14, .int r_24), (0, .ref (ad 11)), (1, .int x1), (2, .int x2), (4, .int x4), (5, .int x5), (7, .long x7), (9, .int x9), (10, .int x10), (11, .int x11), (13, .int x13)]) hx hb d_R_numberOf_321 hl (by decide) rfl (fun ls hl => ?_)
                  refine lv_iload hx hb d_R_numberOf_323 (lv_at hl 6 rfl) ?_
                  refine lv_iload hx hb d_R_numberOf_325 (lv_at hl 0 rfl) ?_
                  refine lv_iadd hx hb d_R_numberOf_327 ?_
                  refine lv_topi (fun x5_29 ex5_29 => ?_)
                  have hw := hw x5_29 ex5_29
                  refine lv_istore (lv' := [(5, .int x5_29), (12, .int 1), (14, .int r_24), (0, .ref (ad 11)), (1, .int x1), (2, .int x2), (4, .int x4), (7, .long x7), (9, .int x9), (10, .int x10), (11, .int x11), (13, .int x13)]) hx hb d_R_numberOf_328 hl (by decide) rfl (fun ls hl => ?_)
                  refine lv_goto (tgt := 336) hx hb d_R_numberOf_330 (by decide) ?_
                  refine lv_goto (tgt := 235) hx hb d_R_numberOf_336 (by decide) ?_
                  exact ih x5_29 x11 1 x13 _ _ _ hw hP hD hS (lv_sub hl [3, 4, 5, 6, 0, 7, 8, 9, 10, 1, 11] rfl)
                · have hw := hwf c_28
                  refine lv_aload_n hx hb d_R_numberOf_302 rfl (lv_at hl 1 rfl) ?_
                  refine lv_iload_n hx hb d_R_numberOf_303 rfl (lv_at hl 2 rfl) ?_
                  refine lv_iload hx hb d_R_numberOf_304 (lv_at hl 5 rfl) ?_
                  refine lv_iconst (v := 1) hx hb d_R_numberOf_306 (by decide) ?_
                  refine lv_iadd hx hb d_R_numberOf_307 ?_
                  refine k_callVi (As := [.int x1, .int (x5 + 1)]) (rest := []) (fun (u : Unit) => wd_R_numberOf ad ck rsize rval risP cnt look bad byZ inr rpl hld store tAt tSz) ⟨hx, hb, hml, hown, hts⟩ (kc_R_byteOf l dC dI ad ck rsize rval risP cnt look bad byZ inr rpl hld store tAt x1 (x5 + 1) (hw := hw)) (cwV 2 hts (gV ux_79 ux_81 ux_82 ux_49 ux_80) rfl rfl rfl hd_R_byteOf ⟨Nat.le_of_ble_eq_true rfl, Nat.le_of_ble_eq_true rfl⟩) hK hP hD hS hA k_x0c trivial [0, 1, 2] [3] [1, 2, 3, 0] rfl rfl (by decide) (by decide) (fun _ => rfl) (va_recv hK hP (ci := 5) (q0 := 0) rfl rfl) rfl hl.1 rfl (lv_room (Nat.le_of_ble_eq_true rfl)) d_R_numberOf_308 ⟨Nat.zero_le _, Nat.zero_le _⟩ ?_
                  intro r_30 u H locs hw hP hD hS
                  have hP : va_P (dC, dI) vwCl (wd_R_numberOf ad ck rsize rval risP cnt look bad byZ inr rpl hld store tAt tSz) H := hP
                  have hD : va_D A (wd_R_numberOf ad ck rsize rval risP cnt look bad byZ inr rpl hld store tAt tSz) := hD
                  try dsimp only at hw
                  refine lv_iload hx hb d_R_numberOf_311 (lv_at hl 0 rfl) ?_
                  obtain ⟨hwt, hwf⟩ := hw
                  refine lv_icmp_ne (tgt := 320) hx hb d_R_numberOf_313 (by decide) (fun c_31 => ?_) (fun c_31 => ?_)
                  · have hw := hwf c_31
                    refine lv_iconst (v := 1) hx hb d_R_numberOf_320 (by decide) ?_
                    refine lv_istore (lv' := [(12, .int 1), (14, .int r_24), (0, .ref (ad 11)), (1, .int x1), (2, .int x2), (4, .int x4), (5, .int x5), (7, .long x7), (9, .int x9), (10, .int x10), (11, .int x11), (13, .int x13)]) hx hb d_R_numberOf_321 hl (by decide) rfl (fun ls hl => ?_)
                    refine lv_iload hx hb d_R_numberOf_323 (lv_at hl 6 rfl) ?_
                    refine lv_iload hx hb d_R_numberOf_325 (lv_at hl 0 rfl) ?_
                    refine lv_iadd hx hb d_R_numberOf_327 ?_
                    refine lv_topi (fun x5_32 ex5_32 => ?_)
                    have hw := hw x5_32 ex5_32
                    refine lv_istore (lv' := [(5, .int x5_32), (12, .int 1), (14, .int r_24), (0, .ref (ad 11)), (1, .int x1), (2, .int x2), (4, .int x4), (7, .long x7), (9, .int x9), (10, .int x10), (11, .int x11), (13, .int x13)]) hx hb d_R_numberOf_328 hl (by decide) rfl (fun ls hl => ?_)
                    refine lv_goto (tgt := 336) hx hb d_R_numberOf_330 (by decide) ?_
                    refine lv_goto (tgt := 235) hx hb d_R_numberOf_336 (by decide) ?_
                    exact ih x5_32 x11 1 x13 _ _ _ hw hP hD hS (lv_sub hl [3, 4, 5, 6, 0, 7, 8, 9, 10, 1, 11] rfl)
                  · have hw := hwt c_31
                    refine lv_iconst (v := 2) hx hb d_R_numberOf_316 (by decide) ?_
                    refine lv_goto (tgt := 321) hx hb d_R_numberOf_317 (by decide) ?_
                    refine lv_istore (lv' := [(12, .int 2), (14, .int r_24), (0, .ref (ad 11)), (1, .int x1), (2, .int x2), (4, .int x4), (5, .int x5), (7, .long x7), (9, .int x9), (10, .int x10), (11, .int x11), (13, .int x13)]) hx hb d_R_numberOf_321 hl (by decide) rfl (fun ls hl => ?_)
                    refine lv_iload hx hb d_R_numberOf_323 (lv_at hl 6 rfl) ?_
                    refine lv_iload hx hb d_R_numberOf_325 (lv_at hl 0 rfl) ?_
                    refine lv_iadd hx hb d_R_numberOf_327 ?_
                    refine lv_topi (fun x5_33 ex5_33 => ?_)
                    have hw := hw x5_33 ex5_33
                    refine lv_istore (lv' := [(5, .int x5_33), (12, .int 2), (14, .int r_24), (0, .ref (ad 11)), (1, .int x1), (2, .int x2), (4, .int x4), (7, .long x7), (9, .int x9), (10, .int x10), (11, .int x11), (13, .int x13)]) hx hb d_R_numberOf_328 hl (by decide) rfl (fun ls hl => ?_)
                    refine lv_goto (tgt := 336) hx hb d_R_numberOf_330 (by decide) ?_
                    refine lv_goto (tgt := 235) hx hb d_R_numberOf_336 (by decide) ?_
                    exact ih x5_33 x11 2 x13 _ _ _ hw hP hD hS (lv_sub hl [3, 4, 5, 6, 0, 7, 8, 9, 10, 1, 11] rfl)
          · have hw := hwt c_25
            refine lv_iload hx hb d_R_numberOf_265 (lv_at hl 9 rfl) ?_
            obtain ⟨hwt, hwf⟩ := hw
            refine lv_if_ne (tgt := 279) hx hb d_R_numberOf_267 (by decide) (fun c_34 => ?_) (fun c_34 => ?_)
            · have hw := hwf c_34
              refine lv_iload hx hb d_R_numberOf_279 (lv_at hl 0 rfl) ?_
              refine lv_bipush (v := 32) hx hb d_R_numberOf_281 (by decide) ?_
              refine lv_ior hx hb d_R_numberOf_283 ?_
              refine lv_bipush (v := 108) hx hb d_R_numberOf_284 (by decide) ?_
              obtain ⟨hwt, hwf⟩ := hw
              refine lv_icmp_ne (tgt := 333) hx hb d_R_numberOf_286 (by decide) (fun c_35 => ?_) (fun c_35 => ?_)
              · have hw := hwf c_35
                refine lv_iconst (v := 0) hx hb d_R_numberOf_333 (by decide) ?_
                refine lv_istore (lv' := [(13, .int 0), (14, .int r_24), (0, .ref (ad 11)), (1, .int x1), (2, .int x2), (4, .int x4), (5, .int x5), (7, .long x7), (9, .int x9), (10, .int x10), (11, .int x11), (12, .int x12)]) hx hb d_R_numberOf_334 hl (by decide) rfl (fun ls hl => ?_)
                refine lv_goto (tgt := 235) hx hb d_R_numberOf_336 (by decide) ?_
                exact ih x5 x11 x12 0 _ _ _ hw hP hD hS (lv_sub hl [2, 3, 4, 5, 6, 7, 8, 9, 10, 11, 0] rfl)
              · have hw := hwt c_35
                refine lv_iload hx hb d_R_numberOf_289 (lv_at hl 10 rfl) ?_
                obtain ⟨hwt, hwf⟩ := hw
                refine lv_if_ne (tgt := 333) hx hb d_R_numberOf_291 (by decide) (fun c_36 => ?_) (fun c_36 => ?_)
                · have hw := hwf c_36
                  refine lv_iconst (v := 0) hx hb d_R_numberOf_333 (by decide) ?_
                  refine lv_istore (lv' := [(13, .int 0), (14, .int r_24), (0, .ref (ad 11)), (1, .int x1), (2, .int x2), (4, .int x4), (5, .int x5), (7, .long x7), (9, .int x9), (10, .int x10), (11, .int x11), (12, .int x12)]) hx hb d_R_numberOf_334 hl (by decide) rfl (fun ls hl => ?_)
                  refine lv_goto (tgt := 235) hx hb d_R_numberOf_336 (by decide) ?_
                  exact ih x5 x11 x12 0 _ _ _ hw hP hD hS (lv_sub hl [2, 3, 4, 5, 6, 7, 8, 9, 10, 11, 0] rfl)
                · have hw := hwt c_36
                  refine lv_iload hx hb d_R_numberOf_294 (lv_at hl 5 rfl) ?_
                  refine lv_iconst (v := 1) hx hb d_R_numberOf_296 (by decide) ?_
                  refine lv_iadd hx hb d_R_numberOf_297 ?_
                  refine lv_iload_n hx hb d_R_numberOf_298 rfl (lv_at hl 3 rfl) ?_
                  obtain ⟨hwt, hwf⟩ := hw
                  refine lv_icmp_ge (tgt := 320) hx hb d_R_numberOf_299 (by decide) (fun c_37 => ?_) (fun c_37 => ?_)
                  · have hw := hwt c_37
                    refine lv_iconst (v := 1) hx hb d_R_numberOf_320 (by decide) ?_
                    refine lv_istore (lv' := [(12, .int 1), (14, .int r_24), (0, .ref (ad 11)), (1, .int x1), (2, .int x2), (4, .int x4), (5, .int x5), (7, .long x7), (9, .int x9), (10, .int x10), (11, .int x11), (13, .int x13)]) hx hb d_R_numberOf_321 hl (by decide) rfl (fun ls hl => ?_)
                    refine lv_iload hx hb d_R_numberOf_323 (lv_at hl 6 rfl) ?_
                    refine lv_iload hx hb d_R_numberOf_325 (lv_at hl 0 rfl) ?_
                    refine lv_iadd hx hb d_R_numberOf_327 ?_
                    refine lv_topi (fun x5_38 ex5_38 => ?_)
                    have hw := hw x5_38 ex5_38
                    refine lv_istore (lv' := [(5, .int x5_38), (12, .int 1), (14, .int r_24), (0, .ref (ad 11)), (1, .int x1), (2, .int x2), (4, .int x4), (7, .long x7), (9, .int x9), (10, .int x10), (11, .int x11), (13, .int x13)]) hx hb d_R_numberOf_328 hl (by decide) rfl (fun ls hl => ?_)
                    refine lv_goto (tgt := 336) hx hb d_R_numberOf_330 (by decide) ?_
                    refine lv_goto (tgt := 235) hx hb d_R_numberOf_336 (by decide) ?_
                    exact ih x5_38 x11 1 x13 _ _ _ hw hP hD hS (lv_sub hl [3, 4, 5, 6, 0, 7, 8, 9, 10, 1, 11] rfl)
                  · have hw := hwf c_37
                    refine lv_aload_n hx hb d_R_numberOf_302 rfl (lv_at hl 1 rfl) ?_
                    refine lv_iload_n hx hb d_R_numberOf_303 rfl (lv_at hl 2 rfl) ?_
                    refine lv_iload hx hb d_R_numberOf_304 (lv_at hl 5 rfl) ?_
                    refine lv_iconst (v := 1) hx hb d_R_numberOf_306 (by decide) ?_
                    refine lv_iadd hx hb d_R_numberOf_307 ?_
                    refine k_callVi (As := [.int x1, .int (x5 + 1)]) (rest := []) (fun (u : Unit) => wd_R_numberOf ad ck rsize rval risP cnt look bad byZ inr rpl hld store tAt tSz) ⟨hx, hb, hml, hown, hts⟩ (kc_R_byteOf l dC dI ad ck rsize rval risP cnt look bad byZ inr rpl hld store tAt x1 (x5 + 1) (hw := hw)) (cwV 2 hts (gV ux_79 ux_81 ux_82 ux_49 ux_80) rfl rfl rfl hd_R_byteOf ⟨Nat.le_of_ble_eq_true rfl, Nat.le_of_ble_eq_true rfl⟩) hK hP hD hS hA k_x0c trivial [0, 1, 2] [3] [1, 2, 3, 0] rfl rfl (by decide) (by decide) (fun _ => rfl) (va_recv hK hP (ci := 5) (q0 := 0) rfl rfl) rfl hl.1 rfl (lv_room (Nat.le_of_ble_eq_true rfl)) d_R_numberOf_308 ⟨Nat.zero_le _, Nat.zero_le _⟩ ?_
                    intro r_39 u H locs hw hP hD hS
                    have hP : va_P (dC, dI) vwCl (wd_R_numberOf ad ck rsize rval risP cnt look bad byZ inr rpl hld store tAt tSz) H := hP
                    have hD : va_D A (wd_R_numberOf ad ck rsize rval risP cnt look bad byZ inr rpl hld store tAt tSz) := hD
                    try dsimp only at hw
                    refine lv_iload hx hb d_R_numberOf_311 (lv_at hl 0 rfl) ?_
                    obtain ⟨hwt, hwf⟩ := hw
                    refine lv_icmp_ne (tgt := 320) hx hb d_R_numberOf_313 (by decide) (fun c_40 => ?_) (fun c_40 => ?_)
                    · have hw := hwf c_40
                      refine lv_iconst (v := 1) hx hb d_R_numberOf_320 (by decide) ?_
                      refine lv_istore (lv' := [(12, .int 1), (14, .int r_24), (0, .ref (ad 11)), (1, .int x1), (2, .int x2), (4, .int x4), (5, .int x5), (7, .long x7), (9, .int x9), (10, .int x10), (11, .int x11), (13, .int x13)]) hx hb d_R_numberOf_321 hl (by decide) rfl (fun ls hl => ?_)
                      refine lv_iload hx hb d_R_numberOf_323 (lv_at hl 6 rfl) ?_
                      refine lv_iload hx hb d_R_numberOf_325 (lv_at hl 0 rfl) ?_
                      refine lv_iadd hx hb d_R_numberOf_327 ?_
                      refine lv_topi (fun x5_41 ex5_41 => ?_)
                      have hw := hw x5_41 ex5_41
                      refine lv_istore (lv' := [(5, .int x5_41), (12, .int 1), (14, .int r_24), (0, .ref (ad 11)), (1, .int x1), (2, .int x2), (4, .int x4), (7, .long x7), (9, .int x9), (10, .int x10), (11, .int x11), (13, .int x13)]) hx hb d_R_numberOf_328 hl (by decide) rfl (fun ls hl => ?_)
                      refine lv_goto (tgt := 336) hx hb d_R_numberOf_330 (by decide) ?_
                      refine lv_goto (tgt := 235) hx hb d_R_numberOf_336 (by decide) ?_
                      exact ih x5_41 x11 1 x13 _ _ _ hw hP hD hS (lv_sub hl [3, 4, 5, 6, 0, 7, 8, 9, 10, 1, 11] rfl)
                    · have hw := hwt c_40
                      refine lv_iconst (v := 2) hx hb d_R_numberOf_316 (by decide) ?_
                      refine lv_goto (tgt := 321) hx hb d_R_numberOf_317 (by decide) ?_
                      refine lv_istore (lv' := [(12, .int 2), (14, .int r_24), (0, .ref (ad 11)), (1, .int x1), (2, .int x2), (4, .int x4), (5, .int x5), (7, .long x7), (9, .int x9), (10, .int x10), (11, .int x11), (13, .int x13)]) hx hb d_R_numberOf_321 hl (by decide) rfl (fun ls hl => ?_)
                      refine lv_iload hx hb d_R_numberOf_323 (lv_at hl 6 rfl) ?_
                      refine lv_iload hx hb d_R_numberOf_325 (lv_at hl 0 rfl) ?_
                      refine lv_iadd hx hb d_R_numberOf_327 ?_
                      refine lv_topi (fun x5_42 ex5_42 => ?_)
                      have hw := hw x5_42 ex5_42
                      refine lv_istore (lv' := [(5, .int x5_42), (12, .int 2), (14, .int r_24), (0, .ref (ad 11)), (1, .int x1), (2, .int x2), (4, .int x4), (7, .long x7), (9, .int x9), (10, .int x10), (11, .int x11), (13, .int x13)]) hx hb d_R_numberOf_328 hl (by decide) rfl (fun ls hl => ?_)
                      refine lv_goto (tgt := 336) hx hb d_R_numberOf_330 (by decide) ?_
                      refine lv_goto (tgt := 235) hx hb d_R_numberOf_336 (by decide) ?_
                      exact ih x5_42 x11 2 x13 _ _ _ hw hP hD hS (lv_sub hl [3, 4, 5, 6, 0, 7, 8, 9, 10, 1, 11] rfl)
            · have hw := hwt c_34
              refine lv_iconst (v := 1) hx hb d_R_numberOf_270 (by decide) ?_
              refine lv_istore (lv' := [(11, .int 1), (14, .int r_24), (0, .ref (ad 11)), (1, .int x1), (2, .int x2), (4, .int x4), (5, .int x5), (7, .long x7), (9, .int x9), (10, .int x10), (12, .int x12), (13, .int x13)]) hx hb d_R_numberOf_271 hl (by decide) rfl (fun ls hl => ?_)
              obtain ⟨x5_43, ex5_43⟩ : ∃ y : Int32, y = x5 + 1 := ⟨_, rfl⟩
              have hw := hw x5_43 ex5_43
              refine lv_iinc (v := x5_43) (lv' := [(5, .int x5_43), (11, .int 1), (14, .int r_24), (0, .ref (ad 11)), (1, .int x1), (2, .int x2), (4, .int x4), (7, .long x7), (9, .int x9), (10, .int x10), (12, .int x12), (13, .int x13)]) hx hb d_R_numberOf_273 hl (k := 6) rfl (by rw [ex5_43]; rfl) (by decide) rfl (fun ls hl => ?_)
              refine lv_goto (tgt := 336) hx hb d_R_numberOf_276 (by decide) ?_
              refine lv_goto (tgt := 235) hx hb d_R_numberOf_336 (by decide) ?_
              exact ih x5_43 1 x12 x13 _ _ _ hw hP hD hS (lv_sub hl [3, 4, 5, 6, 0, 7, 8, 9, 1, 10, 11] rfl)
  have L_212 : ∀ (x1 : Int32) (x2 : Int32) (x4 : Int32) (x5 : Int32) (x6 : Int32) (x7 : Int64) (x9 : Int32) (rsize : Int32) (rval : Int64) (risP : Int32) (cnt : Int32) (look : Int32) (bad : Int32) (byZ : Int32) (inr : Int32) (rpl : Int32) (hld : Int32) (store : Nat → Int32) (tAt : Nat → Int32) (tSz : Nat → Int32) (H : Heap) (locs : List Loc) (ls : Array Slot), w_R_numberOf_212 post x1 x2 x4 x5 x6 x7 x9 rsize rval risP cnt look bad byZ inr rpl hld store tAt tSz → va_P (dC, dI) vwCl (wd_R_numberOf ad ck rsize rval risP cnt look bad byZ inr rpl hld store tAt tSz) H → va_D A (wd_R_numberOf ad ck rsize rval risP cnt look bad byZ inr rpl hld store tAt tSz) → va_S A s.heap H locs → lv_has ls 15 [(0, .ref (ad 11)), (1, .int x1), (2, .int x2), (4, .int x4), (5, .int x5), (6, .int x6), (7, .long x7), (9, .int x9)] → W p l e (headSpec ws_R_numberOf ({ frames := 2, cells := 0, slots := 0, locals := 40 } : Room)).room s m ([.ref (ad 11), .int p0] : List Value).toArray below meth c H locs 0 0 (k_Ql below (dC, dI) vwCl (TYr ck) A (fun (r : Int64) (u : Int32 × Int32) => post r u.1 u.2) (fun (u : Int32 × Int32) => wd_R_numberOf ad ck rsize rval risP cnt look u.1 byZ inr u.2 hld store tAt tSz) ([.ref (ad 11), .int p0] : List Value).toArray s) (F0 m 212 ls []) := by
    intro x1 x2 x4 x5 x6 x7 x9 rsize rval risP cnt look bad byZ inr rpl hld store tAt tSz H locs ls hw hP hD hS hl
    refine lv_iload hx hb d_R_numberOf_212 (lv_at hl 4 rfl) ?_
    refine lv_iload hx hb d_R_numberOf_214 (lv_at hl 5 rfl) ?_
    obtain ⟨hwt, hwf⟩ := hw
    refine lv_icmp_ne (tgt := 223) hx hb d_R_numberOf_216 (by decide) (fun c_9 => ?_) (fun c_9 => ?_)
    · have hw := hwf c_9
      refine lv_iconst (v := 0) hx hb d_R_numberOf_223 (by decide) ?_
      refine lv_istore (lv' := [(10, .int 0), (0, .ref (ad 11)), (1, .int x1), (2, .int x2), (4, .int x4), (5, .int x5), (6, .int x6), (7, .long x7), (9, .int x9)]) hx hb d_R_numberOf_224 hl (by decide) rfl (fun ls hl => ?_)
      refine lv_iconst (v := 0) hx hb d_R_numberOf_226 (by decide) ?_
      refine lv_istore (lv' := [(11, .int 0), (10, .int 0), (0, .ref (ad 11)), (1, .int x1), (2, .int x2), (4, .int x4), (5, .int x5), (6, .int x6), (7, .long x7), (9, .int x9)]) hx hb d_R_numberOf_227 hl (by decide) rfl (fun ls hl => ?_)
      refine lv_iconst (v := 0) hx hb d_R_numberOf_229 (by decide) ?_
      refine lv_istore (lv' := [(12, .int 0), (11, .int 0), (10, .int 0), (0, .ref (ad 11)), (1, .int x1), (2, .int x2), (4, .int x4), (5, .int x5), (6, .int x6), (7, .long x7), (9, .int x9)]) hx hb d_R_numberOf_230 hl (by decide) rfl (fun ls hl => ?_)
      refine lv_iconst (v := 1) hx hb d_R_numberOf_232 (by decide) ?_
      refine lv_istore (lv' := [(13, .int 1), (12, .int 0), (11, .int 0), (10, .int 0), (0, .ref (ad 11)), (1, .int x1), (2, .int x2), (4, .int x4), (5, .int x5), (6, .int x6), (7, .long x7), (9, .int x9)]) hx hb d_R_numberOf_233 hl (by decide) rfl (fun ls hl => ?_)
      obtain ⟨fu235, hw⟩ := hw
      exact L_235 x1 x2 x4 x7 x9 0 rsize rval risP cnt look bad byZ inr rpl hld store tAt tSz fu235 x5 0 0 1 _ _ _ hw hP hD hS (lv_sub hl [4, 5, 6, 7, 8, 10, 11, 3, 2, 1, 0] rfl)
    · have hw := hwt c_9
      refine lv_iconst (v := 1) hx hb d_R_numberOf_219 (by decide) ?_
      refine lv_goto (tgt := 224) hx hb d_R_numberOf_220 (by decide) ?_
      refine lv_istore (lv' := [(10, .int 1), (0, .ref (ad 11)), (1, .int x1), (2, .int x2), (4, .int x4), (5, .int x5), (6, .int x6), (7, .long x7), (9, .int x9)]) hx hb d_R_numberOf_224 hl (by decide) rfl (fun ls hl => ?_)
      refine lv_iconst (v := 0) hx hb d_R_numberOf_226 (by decide) ?_
      refine lv_istore (lv' := [(11, .int 0), (10, .int 1), (0, .ref (ad 11)), (1, .int x1), (2, .int x2), (4, .int x4), (5, .int x5), (6, .int x6), (7, .long x7), (9, .int x9)]) hx hb d_R_numberOf_227 hl (by decide) rfl (fun ls hl => ?_)
      refine lv_iconst (v := 0) hx hb d_R_numberOf_229 (by decide) ?_
      refine lv_istore (lv' := [(12, .int 0), (11, .int 0), (10, .int 1), (0, .ref (ad 11)), (1, .int x1), (2, .int x2), (4, .int x4), (5, .int x5), (6, .int x6), (7, .long x7), (9, .int x9)]) hx hb d_R_numberOf_230 hl (by decide) rfl (fun ls hl => ?_)
      refine lv_iconst (v := 1) hx hb d_R_numberOf_232 (by decide) ?_
      refine lv_istore (lv' := [(13, .int 1), (12, .int 0), (11, .int 0), (10, .int 1), (0, .ref (ad 11)), (1, .int x1), (2, .int x2), (4, .int x4), (5, .int x5), (6, .int x6), (7, .long x7), (9, .int x9)]) hx hb d_R_numberOf_233 hl (by decide) rfl (fun ls hl => ?_)
      obtain ⟨fu235, hw⟩ := hw
      exact L_235 x1 x2 x4 x7 x9 1 rsize rval risP cnt look bad byZ inr rpl hld store tAt tSz fu235 x5 0 0 1 _ _ _ hw hP hD hS (lv_sub hl [4, 5, 6, 7, 8, 10, 11, 3, 2, 1, 0] rfl)
  have L_93 : ∀ (x1 : Int32) (x2 : Int32) (x4 : Int32) (x6 : Int32) (rsize : Int32) (rval : Int64) (risP : Int32) (cnt : Int32) (look : Int32) (bad : Int32) (byZ : Int32) (inr : Int32) (rpl : Int32) (hld : Int32) (store : Nat → Int32) (tAt : Nat → Int32) (tSz : Nat → Int32) (n : Nat) (x5 : Int32) (x7 : Int64) (x9 : Int32) (H : Heap) (locs : List Loc) (ls : Array Slot), w_R_numberOf_93 post x1 x2 x4 x6 rsize rval risP cnt look bad byZ inr rpl hld store tAt tSz n x5 x7 x9 → va_P (dC, dI) vwCl (wd_R_numberOf ad ck rsize rval risP cnt look bad byZ inr rpl hld store tAt tSz) H → va_D A (wd_R_numberOf ad ck rsize rval risP cnt look bad byZ inr rpl hld store tAt tSz) → va_S A s.heap H locs → lv_has ls 15 [(0, .ref (ad 11)), (1, .int x1), (2, .int x2), (4, .int x4), (5, .int x5), (6, .int x6), (7, .long x7), (9, .int x9)] → W p l e (headSpec ws_R_numberOf ({ frames := 2, cells := 0, slots := 0, locals := 40 } : Room)).room s m ([.ref (ad 11), .int p0] : List Value).toArray below meth c H locs 0 0 (k_Ql below (dC, dI) vwCl (TYr ck) A (fun (r : Int64) (u : Int32 × Int32) => post r u.1 u.2) (fun (u : Int32 × Int32) => wd_R_numberOf ad ck rsize rval risP cnt look u.1 byZ inr u.2 hld store tAt tSz) ([.ref (ad 11), .int p0] : List Value).toArray s) (F0 m 93 ls []) := by
    intro x1 x2 x4 x6 rsize rval risP cnt look bad byZ inr rpl hld store tAt tSz n
    induction n with
    | zero =>
      intro x5 x7 x9 H locs ls hw
      exact False.elim hw
    | succ n ih =>
      intro x5 x7 x9 H locs ls hw hP hD hS hl
      refine lv_iload hx hb d_R_numberOf_93 (lv_at hl 4 rfl) ?_
      refine lv_iload_n hx hb d_R_numberOf_95 rfl (lv_at hl 2 rfl) ?_
      obtain ⟨hwt, hwf⟩ := hw
      refine lv_icmp_ge (tgt := 212) hx hb d_R_numberOf_96 (by decide) (fun c_8 => ?_) (fun c_8 => ?_)
      · have hw := hwt c_8
        exact L_212 x1 x2 x4 x5 x6 x7 x9 rsize rval risP cnt look bad byZ inr rpl hld store tAt tSz _ _ _ hw hP hD hS (lv_sub hl [0, 1, 2, 3, 4, 5, 6, 7] rfl)
      · have hw := hwf c_8
        refine lv_aload_n hx hb d_R_numberOf_99 rfl (lv_at hl 0 rfl) ?_
        refine lv_iload_n hx hb d_R_numberOf_100 rfl (lv_at hl 1 rfl) ?_
        refine lv_iload hx hb d_R_numberOf_101 (lv_at hl 4 rfl) ?_
        refine k_callVi (As := [.int x1, .int x5]) (rest := []) (fun (u : Unit) => wd_R_numberOf ad ck rsize rval risP cnt look bad byZ inr rpl hld store tAt tSz) ⟨hx, hb, hml, hown, hts⟩ (kc_R_byteOf l dC dI ad ck rsize rval risP cnt look bad byZ inr rpl hld store tAt x1 x5 (hw := hw)) (cwV 2 hts (gV ux_79 ux_81 ux_82 ux_49 ux_80) rfl rfl rfl hd_R_byteOf ⟨Nat.le_of_ble_eq_true rfl, Nat.le_of_ble_eq_true rfl⟩) hK hP hD hS hA k_x0c trivial [0, 1, 2] [3] [1, 2, 3, 0] rfl rfl (by decide) (by decide) (fun _ => rfl) (va_recv hK hP (ci := 5) (q0 := 0) rfl rfl) rfl hl.1 rfl (lv_room (Nat.le_of_ble_eq_true rfl)) d_R_numberOf_103 ⟨Nat.zero_le _, Nat.zero_le _⟩ ?_
        intro r_44 u H locs hw hP hD hS
        have hP : va_P (dC, dI) vwCl (wd_R_numberOf ad ck rsize rval risP cnt look bad byZ inr rpl hld store tAt tSz) H := hP
        have hD : va_D A (wd_R_numberOf ad ck rsize rval risP cnt look bad byZ inr rpl hld store tAt tSz) := hD
        try dsimp only at hw
        refine k_callSi (As := [.int r_44]) (rest := []) (fun (u : Unit) => wd_R_numberOf ad ck rsize rval risP cnt look bad byZ inr rpl hld store tAt tSz) ⟨hx, hb, hml, hown, hts⟩ (kc_R_digitOf l dC dI ad ck r_44 (hw := hw)) (va_cwS 1 hts (gS ux_111 ux_113 ux_49 ux_112) rfl rfl rfl hd_R_digitOf ⟨Nat.le_of_ble_eq_true rfl, Nat.le_of_ble_eq_true rfl⟩) hK hP hD hS hA k_x0c trivial [] [0, 1, 2, 3] [0, 1, 2, 3] rfl rfl (by decide) (by decide) (fun _ => rfl) rfl hl.1 rfl (lv_room (Nat.le_of_ble_eq_true rfl)) d_R_numberOf_106 ⟨Nat.zero_le _, Nat.zero_le _⟩ ?_
        intro r_45 u H locs hw hP hD hS
        have hP : va_P (dC, dI) vwCl (wd_R_numberOf ad ck rsize rval risP cnt look bad byZ inr rpl hld store tAt tSz) H := hP
        have hD : va_D A (wd_R_numberOf ad ck rsize rval risP cnt look bad byZ inr rpl hld store tAt tSz) := hD
        try dsimp only at hw
        refine lv_iload hx hb d_R_numberOf_109 (lv_at hl 3 rfl) ?_
        obtain ⟨hwt, hwf⟩ := hw
        refine lv_icmp_ge (tgt := 212) hx hb d_R_numberOf_111 (by decide) (fun c_46 => ?_) (fun c_46 => ?_)
        · have hw := hwt c_46
          exact L_212 x1 x2 x4 x5 x6 x7 x9 rsize rval risP cnt look bad byZ inr rpl hld store tAt tSz _ _ _ hw hP hD hS (lv_sub hl [0, 1, 2, 3, 4, 5, 6, 7] rfl)
        · have hw := hwf c_46
          refine lv_ldc2 (v := (-1)) hx hb hown (hts _ ux_114) d_R_numberOf_114 ?_
          refine lv_iload hx hb d_R_numberOf_117 (lv_at hl 3 rfl) ?_
          refine lv_i2l (v := x4.toInt64) hx hb d_R_numberOf_119 rfl ?_
          refine lv_iconst (v := 1) hx hb d_R_numberOf_120 (by decide) ?_
          refine k_callSl (As := [.long (-1), .long x4.toInt64, .int 1]) (rest := []) (fun (u : Unit) => wd_R_numberOf ad ck rsize rval risP cnt look bad byZ inr rpl hld store tAt tSz) ⟨hx, hb, hml, hown, hts⟩ (kc_R_quotient l dC dI ad ck (-1) x4.toInt64 1 (hw := hw)) (va_cwS 3 hts (gS ux_98 ux_100 ux_49 ux_99) rfl rfl rfl hd_R_quotient ⟨Nat.le_of_ble_eq_true rfl, Nat.le_of_ble_eq_true rfl⟩) hK hP hD hS hA k_x0c trivial [] [0, 1, 2, 3] [0, 1, 2, 3] rfl rfl (by decide) (by decide) (fun _ => rfl) rfl hl.1 rfl (lv_room (Nat.le_of_ble_eq_true rfl)) d_R_numberOf_121 ⟨Nat.zero_le _, Nat.zero_le _⟩ ?_
          intro r_47 u H locs hw hP hD hS
          have hP : va_P (dC, dI) vwCl (wd_R_numberOf ad ck rsize rval risP cnt look bad byZ inr rpl hld store tAt tSz) H := hP
          have hD : va_D A (wd_R_numberOf ad ck rsize rval risP cnt look bad byZ inr rpl hld store tAt tSz) := hD
          try dsimp only at hw
          refine lv_lstore (lv' := [(10, .long r_47), (0, .ref (ad 11)), (1, .int x1), (2, .int x2), (4, .int x4), (5, .int x5), (6, .int x6), (7, .long x7), (9, .int x9)]) hx hb d_R_numberOf_124 hl (by decide) rfl (fun ls hl => ?_)
          refine lv_aload_n hx hb d_R_numberOf_126 rfl (lv_at hl 1 rfl) ?_
          refine lv_iload_n hx hb d_R_numberOf_127 rfl (lv_at hl 2 rfl) ?_
          refine lv_iload hx hb d_R_numberOf_128 (lv_at hl 5 rfl) ?_
          refine k_callVi (As := [.int x1, .int x5]) (rest := []) (fun (u : Unit) => wd_R_numberOf ad ck rsize rval risP cnt look bad byZ inr rpl hld store tAt tSz) ⟨hx, hb, hml, hown, hts⟩ (kc_R_byteOf l dC dI ad ck rsize rval risP cnt look bad byZ inr rpl hld store tAt x1 x5 (hw := hw)) (cwV 2 hts (gV ux_79 ux_81 ux_82 ux_49 ux_80) rfl rfl rfl hd_R_byteOf ⟨Nat.le_of_ble_eq_true rfl, Nat.le_of_ble_eq_true rfl⟩) hK hP hD hS hA k_x0c trivial [0, 1, 2] [3] [1, 2, 3, 0] rfl rfl (by decide) (by decide) (fun _ => rfl) (va_recv hK hP (ci := 5) (q0 := 0) rfl rfl) rfl hl.1 rfl (lv_room (Nat.le_of_ble_eq_true rfl)) d_R_numberOf_130 ⟨Nat.zero_le _, Nat.zero_le _⟩ ?_
          intro r_48 u H locs hw hP hD hS
          have hP : va_P (dC, dI) vwCl (wd_R_numberOf ad ck rsize rval risP cnt look bad byZ inr rpl hld store tAt tSz) H := hP
          have hD : va_D A (wd_R_numberOf ad ck rsize rval risP cnt look bad byZ inr rpl hld store tAt tSz) := hD
          try dsimp only at hw
          refine k_callSi (As := [.int r_48]) (rest := []) (fun (u : Unit) => wd_R_numberOf ad ck rsize rval risP cnt look bad byZ inr rpl hld store tAt tSz) ⟨hx, hb, hml, hown, hts⟩ (kc_R_digitOf l dC dI ad ck r_48 (hw := hw)) (va_cwS 1 hts (gS ux_111 ux_113 ux_49 ux_112) rfl rfl rfl hd_R_digitOf ⟨Nat.le_of_ble_eq_true rfl, Nat.le_of_ble_eq_true rfl⟩) hK hP hD hS hA k_x0c trivial [] [0, 1, 2, 3] [0, 1, 2, 3] rfl rfl (by decide) (by decide) (fun _ => rfl) rfl hl.1 rfl (lv_room (Nat.le_of_ble_eq_true rfl)) d_R_numberOf_133 ⟨Nat.zero_le _, Nat.zero_le _⟩ ?_
          intro r_49 u H locs hw hP hD hS
          have hP : va_P (dC, dI) vwCl (wd_R_numberOf ad ck rsize rval risP cnt look bad byZ inr rpl hld store tAt tSz) H := hP
          have hD : va_D A (wd_R_numberOf ad ck rsize rval risP cnt look bad byZ inr rpl hld store tAt tSz) := hD
          try dsimp only at hw
          refine lv_istore (lv' := [(12, .int r_49), (10, .long r_47), (0, .ref (ad 11)), (1, .int x1), (2, .int x2), (4, .int x4), (5, .int x5), (6, .int x6), (7, .long x7), (9, .int x9)]) hx hb d_R_numberOf_136 hl (by decide) rfl (fun ls hl => ?_)
          refine lv_iload hx hb d_R_numberOf_138 (lv_at hl 9 rfl) ?_
          obtain ⟨hwt, hwf⟩ := hw
          refine lv_if_ne (tgt := 187) hx hb d_R_numberOf_140 (by decide) (fun c_50 => ?_) (fun c_50 => ?_)
          · have hw := hwf c_50
            refine lv_iconst (v := 1) hx hb d_R_numberOf_187 (by decide) ?_
            refine lv_goto (tgt := 192) hx hb d_R_numberOf_188 (by decide) ?_
            refine lv_istore (lv' := [(9, .int 1), (12, .int r_49), (10, .long r_47), (0, .ref (ad 11)), (1, .int x1), (2, .int x2), (4, .int x4), (5, .int x5), (6, .int x6), (7, .long x7)]) hx hb d_R_numberOf_192 hl (by decide) rfl (fun ls hl => ?_)
            refine lv_lload hx hb d_R_numberOf_194 (lv_at hl 9 rfl) ?_
            refine lv_iload hx hb d_R_numberOf_196 (lv_at hl 6 rfl) ?_
            refine lv_i2l (v := x4.toInt64) hx hb d_R_numberOf_198 rfl ?_
            refine lv_lmul hx hb d_R_numberOf_199 ?_
            refine lv_iload hx hb d_R_numberOf_200 (lv_at hl 1 rfl) ?_
            refine lv_i2l (v := r_49.toInt64) hx hb d_R_numberOf_202 rfl ?_
            refine lv_ladd hx hb d_R_numberOf_203 ?_
            refine lv_topl (fun x7_51 ex7_51 => ?_)
            have hw := hw x7_51 ex7_51
            refine lv_lstore (lv' := [(7, .long x7_51), (9, .int 1), (12, .int r_49), (10, .long r_47), (0, .ref (ad 11)), (1, .int x1), (2, .int x2), (4, .int x4), (5, .int x5), (6, .int x6)]) hx hb d_R_numberOf_204 hl (by decide) rfl (fun ls hl => ?_)
            obtain ⟨x5_52, ex5_52⟩ : ∃ y : Int32, y = x5 + 1 := ⟨_, rfl⟩
            have hw := hw x5_52 ex5_52
            refine lv_iinc (v := x5_52) (lv' := [(5, .int x5_52), (7, .long x7_51), (9, .int 1), (12, .int r_49), (10, .long r_47), (0, .ref (ad 11)), (1, .int x1), (2, .int x2), (4, .int x4), (6, .int x6)]) hx hb d_R_numberOf_206 hl (k := 8) rfl (by rw [ex5_52]; rfl) (by decide) rfl (fun ls hl => ?_)
            refine lv_goto (tgt := 93) hx hb d_R_numberOf_209 (by decide) ?_
            exact ih x5_52 x7_51 1 _ _ _ hw hP hD hS (lv_sub hl [5, 6, 7, 8, 0, 9, 1, 2] rfl)
          · have hw := hwt c_50
            refine lv_lload hx hb d_R_numberOf_143 (lv_at hl 8 rfl) ?_
            refine lv_ldc2 (v := (-9223372036854775808)) hx hb hown (hts _ ux_94) d_R_numberOf_145 ?_
            refine lv_ladd hx hb d_R_numberOf_148 ?_
            refine lv_lload hx hb d_R_numberOf_149 (lv_at hl 1 rfl) ?_
            refine lv_ldc2 (v := (-9223372036854775808)) hx hb hown (hts _ ux_94) d_R_numberOf_151 ?_
            refine lv_ladd hx hb d_R_numberOf_154 ?_
            refine W.lcmp hx hb d_R_numberOf_155 ?_
            obtain ⟨hwt, hwf⟩ := hw
            refine lv_if_gt (tgt := 187) hx hb d_R_numberOf_156 (by decide) (fun c_53 => ?_) (fun c_53 => ?_)
            · have hw := hwt c_53
              refine lv_iconst (v := 1) hx hb d_R_numberOf_187 (by decide) ?_
              refine lv_goto (tgt := 192) hx hb d_R_numberOf_188 (by decide) ?_
              refine lv_istore (lv' := [(9, .int 1), (12, .int r_49), (10, .long r_47), (0, .ref (ad 11)), (1, .int x1), (2, .int x2), (4, .int x4), (5, .int x5), (6, .int x6), (7, .long x7)]) hx hb d_R_numberOf_192 hl (by decide) rfl (fun ls hl => ?_)
              refine lv_lload hx hb d_R_numberOf_194 (lv_at hl 9 rfl) ?_
              refine lv_iload hx hb d_R_numberOf_196 (lv_at hl 6 rfl) ?_
              refine lv_i2l (v := x4.toInt64) hx hb d_R_numberOf_198 rfl ?_
              refine lv_lmul hx hb d_R_numberOf_199 ?_
              refine lv_iload hx hb d_R_numberOf_200 (lv_at hl 1 rfl) ?_
              refine lv_i2l (v := r_49.toInt64) hx hb d_R_numberOf_202 rfl ?_
              refine lv_ladd hx hb d_R_numberOf_203 ?_
              refine lv_topl (fun x7_54 ex7_54 => ?_)
              have hw := hw x7_54 ex7_54
              refine lv_lstore (lv' := [(7, .long x7_54), (9, .int 1), (12, .int r_49), (10, .long r_47), (0, .ref (ad 11)), (1, .int x1), (2, .int x2), (4, .int x4), (5, .int x5), (6, .int x6)]) hx hb d_R_numberOf_204 hl (by decide) rfl (fun ls hl => ?_)
              obtain ⟨x5_55, ex5_55⟩ : ∃ y : Int32, y = x5 + 1 := ⟨_, rfl⟩
              have hw := hw x5_55 ex5_55
              refine lv_iinc (v := x5_55) (lv' := [(5, .int x5_55), (7, .long x7_54), (9, .int 1), (12, .int r_49), (10, .long r_47), (0, .ref (ad 11)), (1, .int x1), (2, .int x2), (4, .int x4), (6, .int x6)]) hx hb d_R_numberOf_206 hl (k := 8) rfl (by rw [ex5_55]; rfl) (by decide) rfl (fun ls hl => ?_)
              refine lv_goto (tgt := 93) hx hb d_R_numberOf_209 (by decide) ?_
              exact ih x5_55 x7_54 1 _ _ _ hw hP hD hS (lv_sub hl [5, 6, 7, 8, 0, 9, 1, 2] rfl)
            · have hw := hwf c_53
              refine lv_lload hx hb d_R_numberOf_159 (lv_at hl 8 rfl) ?_
              refine lv_lload hx hb d_R_numberOf_161 (lv_at hl 1 rfl) ?_
              refine W.lcmp hx hb d_R_numberOf_163 ?_
              obtain ⟨hwt, hwf⟩ := hw
              refine lv_if_ne (tgt := 191) hx hb d_R_numberOf_164 (by decide) (fun c_56 => ?_) (fun c_56 => ?_)
              · have hw := hwf c_56
                refine lv_iconst (v := 0) hx hb d_R_numberOf_191 (by decide) ?_
                refine lv_istore (lv' := [(9, .int 0), (12, .int r_49), (10, .long r_47), (0, .ref (ad 11)), (1, .int x1), (2, .int x2), (4, .int x4), (5, .int x5), (6, .int x6), (7, .long x7)]) hx hb d_R_numberOf_192 hl (by decide) rfl (fun ls hl => ?_)
                refine lv_lload hx hb d_R_numberOf_194 (lv_at hl 9 rfl) ?_
                refine lv_iload hx hb d_R_numberOf_196 (lv_at hl 6 rfl) ?_
                refine lv_i2l (v := x4.toInt64) hx hb d_R_numberOf_198 rfl ?_
                refine lv_lmul hx hb d_R_numberOf_199 ?_
                refine lv_iload hx hb d_R_numberOf_200 (lv_at hl 1 rfl) ?_
                refine lv_i2l (v := r_49.toInt64) hx hb d_R_numberOf_202 rfl ?_
                refine lv_ladd hx hb d_R_numberOf_203 ?_
                refine lv_topl (fun x7_57 ex7_57 => ?_)
                have hw := hw x7_57 ex7_57
                refine lv_lstore (lv' := [(7, .long x7_57), (9, .int 0), (12, .int r_49), (10, .long r_47), (0, .ref (ad 11)), (1, .int x1), (2, .int x2), (4, .int x4), (5, .int x5), (6, .int x6)]) hx hb d_R_numberOf_204 hl (by decide) rfl (fun ls hl => ?_)
                obtain ⟨x5_58, ex5_58⟩ : ∃ y : Int32, y = x5 + 1 := ⟨_, rfl⟩
                have hw := hw x5_58 ex5_58
                refine lv_iinc (v := x5_58) (lv' := [(5, .int x5_58), (7, .long x7_57), (9, .int 0), (12, .int r_49), (10, .long r_47), (0, .ref (ad 11)), (1, .int x1), (2, .int x2), (4, .int x4), (6, .int x6)]) hx hb d_R_numberOf_206 hl (k := 8) rfl (by rw [ex5_58]; rfl) (by decide) rfl (fun ls hl => ?_)
                refine lv_goto (tgt := 93) hx hb d_R_numberOf_209 (by decide) ?_
                exact ih x5_58 x7_57 0 _ _ _ hw hP hD hS (lv_sub hl [5, 6, 7, 8, 0, 9, 1, 2] rfl)
              · have hw := hwt c_56
                refine lv_iload hx hb d_R_numberOf_167 (lv_at hl 0 rfl) ?_
                refine lv_iload hx hb d_R_numberOf_169 (lv_at hl 5 rfl) ?_
                refine lv_bipush (v := 10) hx hb d_R_numberOf_171 (by decide) ?_
                obtain ⟨hwt, hwf⟩ := hw
                refine lv_icmp_ne (tgt := 180) hx hb d_R_numberOf_173 (by decide) (fun c_59 => ?_) (fun c_59 => ?_)
                · have hw := hwf c_59
                  refine lv_iload hx hb d_R_numberOf_180 (lv_at hl 5 rfl) ?_
                  refine lv_iconst (v := 1) hx hb d_R_numberOf_182 (by decide) ?_
                  refine lv_isub hx hb d_R_numberOf_183 ?_
                  obtain ⟨hwt, hwf⟩ := hw
                  refine lv_icmp_le (tgt := 191) hx hb d_R_numberOf_184 (by decide) (fun c_60 => ?_) (fun c_60 => ?_)
                  · have hw := hwt c_60
                    refine lv_iconst (v := 0) hx hb d_R_numberOf_191 (by decide) ?_
                    refine lv_istore (lv' := [(9, .int 0), (12, .int r_49), (10, .long r_47), (0, .ref (ad 11)), (1, .int x1), (2, .int x2), (4, .int x4), (5, .int x5), (6, .int x6), (7, .long x7)]) hx hb d_R_numberOf_192 hl (by decide) rfl (fun ls hl => ?_)
                    refine lv_lload hx hb d_R_numberOf_194 (lv_at hl 9 rfl) ?_
                    refine lv_iload hx hb d_R_numberOf_196 (lv_at hl 6 rfl) ?_
                    refine lv_i2l (v := x4.toInt64) hx hb d_R_numberOf_198 rfl ?_
                    refine lv_lmul hx hb d_R_numberOf_199 ?_
                    refine lv_iload hx hb d_R_numberOf_200 (lv_at hl 1 rfl) ?_
                    refine lv_i2l (v := r_49.toInt64) hx hb d_R_numberOf_202 rfl ?_
                    refine lv_ladd hx hb d_R_numberOf_203 ?_
                    refine lv_topl (fun x7_61 ex7_61 => ?_)
                    have hw := hw x7_61 ex7_61
                    refine lv_lstore (lv' := [(7, .long x7_61), (9, .int 0), (12, .int r_49), (10, .long r_47), (0, .ref (ad 11)), (1, .int x1), (2, .int x2), (4, .int x4), (5, .int x5), (6, .int x6)]) hx hb d_R_numberOf_204 hl (by decide) rfl (fun ls hl => ?_)
                    obtain ⟨x5_62, ex5_62⟩ : ∃ y : Int32, y = x5 + 1 := ⟨_, rfl⟩
                    have hw := hw x5_62 ex5_62
                    refine lv_iinc (v := x5_62) (lv' := [(5, .int x5_62), (7, .long x7_61), (9, .int 0), (12, .int r_49), (10, .long r_47), (0, .ref (ad 11)), (1, .int x1), (2, .int x2), (4, .int x4), (6, .int x6)]) hx hb d_R_numberOf_206 hl (k := 8) rfl (by rw [ex5_62]; rfl) (by decide) rfl (fun ls hl => ?_)
                    refine lv_goto (tgt := 93) hx hb d_R_numberOf_209 (by decide) ?_
                    exact ih x5_62 x7_61 0 _ _ _ hw hP hD hS (lv_sub hl [5, 6, 7, 8, 0, 9, 1, 2] rfl)
                  · have hw := hwf c_60
                    refine lv_iconst (v := 1) hx hb d_R_numberOf_187 (by decide) ?_
                    refine lv_goto (tgt := 192) hx hb d_R_numberOf_188 (by decide) ?_
                    refine lv_istore (lv' := [(9, .int 1), (12, .int r_49), (10, .long r_47), (0, .ref (ad 11)), (1, .int x1), (2, .int x2), (4, .int x4), (5, .int x5), (6, .int x6), (7, .long x7)]) hx hb d_R_numberOf_192 hl (by decide) rfl (fun ls hl => ?_)
                    refine lv_lload hx hb d_R_numberOf_194 (lv_at hl 9 rfl) ?_
                    refine lv_iload hx hb d_R_numberOf_196 (lv_at hl 6 rfl) ?_
                    refine lv_i2l (v := x4.toInt64) hx hb d_R_numberOf_198 rfl ?_
                    refine lv_lmul hx hb d_R_numberOf_199 ?_
                    refine lv_iload hx hb d_R_numberOf_200 (lv_at hl 1 rfl) ?_
                    refine lv_i2l (v := r_49.toInt64) hx hb d_R_numberOf_202 rfl ?_
                    refine lv_ladd hx hb d_R_numberOf_203 ?_
                    refine lv_topl (fun x7_63 ex7_63 => ?_)
                    have hw := hw x7_63 ex7_63
                    refine lv_lstore (lv' := [(7, .long x7_63), (9, .int 1), (12, .int r_49), (10, .long r_47), (0, .ref (ad 11)), (1, .int x1), (2, .int x2), (4, .int x4), (5, .int x5), (6, .int x6)]) hx hb d_R_numberOf_204 hl (by decide) rfl (fun ls hl => ?_)
                    obtain ⟨x5_64, ex5_64⟩ : ∃ y : Int32, y = x5 + 1 := ⟨_, rfl⟩
                    have hw := hw x5_64 ex5_64
                    refine lv_iinc (v := x5_64) (lv' := [(5, .int x5_64), (7, .long x7_63), (9, .int 1), (12, .int r_49), (10, .long r_47), (0, .ref (ad 11)), (1, .int x1), (2, .int x2), (4, .int x4), (6, .int x6)]) hx hb d_R_numberOf_206 hl (k := 8) rfl (by rw [ex5_64]; rfl) (by decide) rfl (fun ls hl => ?_)
                    refine lv_goto (tgt := 93) hx hb d_R_numberOf_209 (by decide) ?_
                    exact ih x5_64 x7_63 1 _ _ _ hw hP hD hS (lv_sub hl [5, 6, 7, 8, 0, 9, 1, 2] rfl)
                · have hw := hwt c_59
                  refine lv_iconst (v := 5) hx hb d_R_numberOf_176 (by decide) ?_
                  refine lv_goto (tgt := 184) hx hb d_R_numberOf_177 (by decide) ?_
                  obtain ⟨hwt, hwf⟩ := hw
                  refine lv_icmp_le (tgt := 191) hx hb d_R_numberOf_184 (by decide) (fun c_65 => ?_) (fun c_65 => ?_)
                  · have hw := hwt c_65
                    refine lv_iconst (v := 0) hx hb d_R_numberOf_191 (by decide) ?_
                    refine lv_istore (lv' := [(9, .int 0), (12, .int r_49), (10, .long r_47), (0, .ref (ad 11)), (1, .int x1), (2, .int x2), (4, .int x4), (5, .int x5), (6, .int x6), (7, .long x7)]) hx hb d_R_numberOf_192 hl (by decide) rfl (fun ls hl => ?_)
                    refine lv_lload hx hb d_R_numberOf_194 (lv_at hl 9 rfl) ?_
                    refine lv_iload hx hb d_R_numberOf_196 (lv_at hl 6 rfl) ?_
                    refine lv_i2l (v := x4.toInt64) hx hb d_R_numberOf_198 rfl ?_
                    refine lv_lmul hx hb d_R_numberOf_199 ?_
                    refine lv_iload hx hb d_R_numberOf_200 (lv_at hl 1 rfl) ?_
                    refine lv_i2l (v := r_49.toInt64) hx hb d_R_numberOf_202 rfl ?_
                    refine lv_ladd hx hb d_R_numberOf_203 ?_
                    refine lv_topl (fun x7_66 ex7_66 => ?_)
                    have hw := hw x7_66 ex7_66
                    refine lv_lstore (lv' := [(7, .long x7_66), (9, .int 0), (12, .int r_49), (10, .long r_47), (0, .ref (ad 11)), (1, .int x1), (2, .int x2), (4, .int x4), (5, .int x5), (6, .int x6)]) hx hb d_R_numberOf_204 hl (by decide) rfl (fun ls hl => ?_)
                    obtain ⟨x5_67, ex5_67⟩ : ∃ y : Int32, y = x5 + 1 := ⟨_, rfl⟩
                    have hw := hw x5_67 ex5_67
                    refine lv_iinc (v := x5_67) (lv' := [(5, .int x5_67), (7, .long x7_66), (9, .int 0), (12, .int r_49), (10, .long r_47), (0, .ref (ad 11)), (1, .int x1), (2, .int x2), (4, .int x4), (6, .int x6)]) hx hb d_R_numberOf_206 hl (k := 8) rfl (by rw [ex5_67]; rfl) (by decide) rfl (fun ls hl => ?_)
                    refine lv_goto (tgt := 93) hx hb d_R_numberOf_209 (by decide) ?_
                    exact ih x5_67 x7_66 0 _ _ _ hw hP hD hS (lv_sub hl [5, 6, 7, 8, 0, 9, 1, 2] rfl)
                  · have hw := hwf c_65
                    refine lv_iconst (v := 1) hx hb d_R_numberOf_187 (by decide) ?_
                    refine lv_goto (tgt := 192) hx hb d_R_numberOf_188 (by decide) ?_
                    refine lv_istore (lv' := [(9, .int 1), (12, .int r_49), (10, .long r_47), (0, .ref (ad 11)), (1, .int x1), (2, .int x2), (4, .int x4), (5, .int x5), (6, .int x6), (7, .long x7)]) hx hb d_R_numberOf_192 hl (by decide) rfl (fun ls hl => ?_)
                    refine lv_lload hx hb d_R_numberOf_194 (lv_at hl 9 rfl) ?_
                    refine lv_iload hx hb d_R_numberOf_196 (lv_at hl 6 rfl) ?_
                    refine lv_i2l (v := x4.toInt64) hx hb d_R_numberOf_198 rfl ?_
                    refine lv_lmul hx hb d_R_numberOf_199 ?_
                    refine lv_iload hx hb d_R_numberOf_200 (lv_at hl 1 rfl) ?_
                    refine lv_i2l (v := r_49.toInt64) hx hb d_R_numberOf_202 rfl ?_
                    refine lv_ladd hx hb d_R_numberOf_203 ?_
                    refine lv_topl (fun x7_68 ex7_68 => ?_)
                    have hw := hw x7_68 ex7_68
                    refine lv_lstore (lv' := [(7, .long x7_68), (9, .int 1), (12, .int r_49), (10, .long r_47), (0, .ref (ad 11)), (1, .int x1), (2, .int x2), (4, .int x4), (5, .int x5), (6, .int x6)]) hx hb d_R_numberOf_204 hl (by decide) rfl (fun ls hl => ?_)
                    obtain ⟨x5_69, ex5_69⟩ : ∃ y : Int32, y = x5 + 1 := ⟨_, rfl⟩
                    have hw := hw x5_69 ex5_69
                    refine lv_iinc (v := x5_69) (lv' := [(5, .int x5_69), (7, .long x7_68), (9, .int 1), (12, .int r_49), (10, .long r_47), (0, .ref (ad 11)), (1, .int x1), (2, .int x2), (4, .int x4), (6, .int x6)]) hx hb d_R_numberOf_206 hl (k := 8) rfl (by rw [ex5_69]; rfl) (by decide) rfl (fun ls hl => ?_)
                    refine lv_goto (tgt := 93) hx hb d_R_numberOf_209 (by decide) ?_
                    exact ih x5_69 x7_68 1 _ _ _ hw hP hD hS (lv_sub hl [5, 6, 7, 8, 0, 9, 1, 2] rfl)
  have L_70 : ∀ (x1 : Int32) (x2 : Int32) (x3 : Int32) (z0 : Int32) (rsize : Int32) (rval : Int64) (risP : Int32) (cnt : Int32) (look : Int32) (bad : Int32) (byZ : Int32) (inr : Int32) (rpl : Int32) (hld : Int32) (store : Nat → Int32) (tAt : Nat → Int32) (tSz : Nat → Int32) (H : Heap) (locs : List Loc) (ls : Array Slot), w_R_numberOf_70 post x1 x2 x3 z0 rsize rval risP cnt look bad byZ inr rpl hld store tAt tSz → va_P (dC, dI) vwCl (wd_R_numberOf ad ck rsize rval risP cnt look bad byZ inr rpl hld store tAt tSz) H → va_D A (wd_R_numberOf ad ck rsize rval risP cnt look bad byZ inr rpl hld store tAt tSz) → va_S A s.heap H locs → lv_has ls 15 [(0, .ref (ad 11)), (1, .int x1), (2, .int x2), (3, .int x3)] → W p l e (headSpec ws_R_numberOf ({ frames := 2, cells := 0, slots := 0, locals := 40 } : Room)).room s m ([.ref (ad 11), .int p0] : List Value).toArray below meth c H locs 0 0 (k_Ql below (dC, dI) vwCl (TYr ck) A (fun (r : Int64) (u : Int32 × Int32) => post r u.1 u.2) (fun (u : Int32 × Int32) => wd_R_numberOf ad ck rsize rval risP cnt look u.1 byZ inr u.2 hld store tAt tSz) ([.ref (ad 11), .int p0] : List Value).toArray s) (F0 m 70 ls [.int z0]) := by
    intro x1 x2 x3 z0 rsize rval risP cnt look bad byZ inr rpl hld store tAt tSz H locs ls hw hP hD hS hl
    refine lv_istore (lv' := [(4, .int z0), (0, .ref (ad 11)), (1, .int x1), (2, .int x2), (3, .int x3)]) hx hb d_R_numberOf_70 hl (by decide) rfl (fun ls hl => ?_)
    refine lv_iload_n hx hb d_R_numberOf_72 rfl (lv_at hl 4 rfl) ?_
    obtain ⟨hwt, hwf⟩ := hw
    refine lv_if_eq (tgt := 80) hx hb d_R_numberOf_73 (by decide) (fun c_7 => ?_) (fun c_7 => ?_)
    · have hw := hwt c_7
      refine lv_iconst (v := 0) hx hb d_R_numberOf_80 (by decide) ?_
      refine lv_istore (lv' := [(5, .int 0), (4, .int z0), (0, .ref (ad 11)), (1, .int x1), (2, .int x2), (3, .int x3)]) hx hb d_R_numberOf_81 hl (by decide) rfl (fun ls hl => ?_)
      refine lv_iload hx hb d_R_numberOf_83 (lv_at hl 0 rfl) ?_
      refine lv_istore (lv' := [(6, .int 0), (5, .int 0), (4, .int z0), (0, .ref (ad 11)), (1, .int x1), (2, .int x2), (3, .int x3)]) hx hb d_R_numberOf_85 hl (by decide) rfl (fun ls hl => ?_)
      refine lv_lconst (v := 0) hx hb d_R_numberOf_87 (by decide) ?_
      refine lv_lstore (lv' := [(7, .long 0), (6, .int 0), (5, .int 0), (4, .int z0), (0, .ref (ad 11)), (1, .int x1), (2, .int x2), (3, .int x3)]) hx hb d_R_numberOf_88 hl (by decide) rfl (fun ls hl => ?_)
      refine lv_iconst (v := 0) hx hb d_R_numberOf_90 (by decide) ?_
      refine lv_istore (lv' := [(9, .int 0), (7, .long 0), (6, .int 0), (5, .int 0), (4, .int z0), (0, .ref (ad 11)), (1, .int x1), (2, .int x2), (3, .int x3)]) hx hb d_R_numberOf_91 hl (by decide) rfl (fun ls hl => ?_)
      obtain ⟨fu93, hw⟩ := hw
      exact L_93 x1 x2 z0 0 rsize rval risP cnt look bad byZ inr rpl hld store tAt tSz fu93 0 0 0 _ _ _ hw hP hD hS (lv_sub hl [5, 6, 7, 4, 3, 2, 1, 0] rfl)
    · have hw := hwf c_7
      refine lv_iconst (v := 2) hx hb d_R_numberOf_76 (by decide) ?_
      refine lv_goto (tgt := 81) hx hb d_R_numberOf_77 (by decide) ?_
      refine lv_istore (lv' := [(5, .int 2), (4, .int z0), (0, .ref (ad 11)), (1, .int x1), (2, .int x2), (3, .int x3)]) hx hb d_R_numberOf_81 hl (by decide) rfl (fun ls hl => ?_)
      refine lv_iload hx hb d_R_numberOf_83 (lv_at hl 0 rfl) ?_
      refine lv_istore (lv' := [(6, .int 2), (5, .int 2), (4, .int z0), (0, .ref (ad 11)), (1, .int x1), (2, .int x2), (3, .int x3)]) hx hb d_R_numberOf_85 hl (by decide) rfl (fun ls hl => ?_)
      refine lv_lconst (v := 0) hx hb d_R_numberOf_87 (by decide) ?_
      refine lv_lstore (lv' := [(7, .long 0), (6, .int 2), (5, .int 2), (4, .int z0), (0, .ref (ad 11)), (1, .int x1), (2, .int x2), (3, .int x3)]) hx hb d_R_numberOf_88 hl (by decide) rfl (fun ls hl => ?_)
      refine lv_iconst (v := 0) hx hb d_R_numberOf_90 (by decide) ?_
      refine lv_istore (lv' := [(9, .int 0), (7, .long 0), (6, .int 2), (5, .int 2), (4, .int z0), (0, .ref (ad 11)), (1, .int x1), (2, .int x2), (3, .int x3)]) hx hb d_R_numberOf_91 hl (by decide) rfl (fun ls hl => ?_)
      obtain ⟨fu93, hw⟩ := hw
      exact L_93 x1 x2 z0 2 rsize rval risP cnt look bad byZ inr rpl hld store tAt tSz fu93 2 0 0 _ _ _ hw hP hD hS (lv_sub hl [5, 6, 7, 4, 3, 2, 1, 0] rfl)
  have L_42 : ∀ (x1 : Int32) (x2 : Int32) (z0 : Int32) (rsize : Int32) (rval : Int64) (risP : Int32) (cnt : Int32) (look : Int32) (bad : Int32) (byZ : Int32) (inr : Int32) (rpl : Int32) (hld : Int32) (store : Nat → Int32) (tAt : Nat → Int32) (tSz : Nat → Int32) (H : Heap) (locs : List Loc) (ls : Array Slot), w_R_numberOf_42 post x1 x2 z0 rsize rval risP cnt look bad byZ inr rpl hld store tAt tSz → va_P (dC, dI) vwCl (wd_R_numberOf ad ck rsize rval risP cnt look bad byZ inr rpl hld store tAt tSz) H → va_D A (wd_R_numberOf ad ck rsize rval risP cnt look bad byZ inr rpl hld store tAt tSz) → va_S A s.heap H locs → lv_has ls 15 [(0, .ref (ad 11)), (1, .int x1), (2, .int x2)] → W p l e (headSpec ws_R_numberOf ({ frames := 2, cells := 0, slots := 0, locals := 40 } : Room)).room s m ([.ref (ad 11), .int p0] : List Value).toArray below meth c H locs 0 0 (k_Ql below (dC, dI) vwCl (TYr ck) A (fun (r : Int64) (u : Int32 × Int32) => post r u.1 u.2) (fun (u : Int32 × Int32) => wd_R_numberOf ad ck rsize rval risP cnt look u.1 byZ inr u.2 hld store tAt tSz) ([.ref (ad 11), .int p0] : List Value).toArray s) (F0 m 42 ls [.int z0]) := by
    intro x1 x2 z0 rsize rval risP cnt look bad byZ inr rpl hld store tAt tSz H locs ls hw hP hD hS hl
    refine lv_istore_n (lv' := [(3, .int z0), (0, .ref (ad 11)), (1, .int x1), (2, .int x2)]) hx hb d_R_numberOf_42 rfl hl (by decide) rfl (fun ls hl => ?_)
    refine lv_iload_n hx hb d_R_numberOf_43 rfl (lv_at hl 0 rfl) ?_
    obtain ⟨hwt, hwf⟩ := hw
    refine lv_if_eq (tgt := 52) hx hb d_R_numberOf_44 (by decide) (fun c_4 => ?_) (fun c_4 => ?_)
    · have hw := hwt c_4
      refine lv_aload_n hx hb d_R_numberOf_52 rfl (lv_at hl 1 rfl) ?_
      refine lv_iload_n hx hb d_R_numberOf_53 rfl (lv_at hl 2 rfl) ?_
      refine lv_iconst (v := 0) hx hb d_R_numberOf_54 (by decide) ?_
      refine k_callVi (As := [.int x1, .int 0]) (rest := []) (fun (u : Unit) => wd_R_numberOf ad ck rsize rval risP cnt look bad byZ inr rpl hld store tAt tSz) ⟨hx, hb, hml, hown, hts⟩ (kc_R_byteOf l dC dI ad ck rsize rval risP cnt look bad byZ inr rpl hld store tAt x1 0 (hw := hw)) (cwV 2 hts (gV ux_79 ux_81 ux_82 ux_49 ux_80) rfl rfl rfl hd_R_byteOf ⟨Nat.le_of_ble_eq_true rfl, Nat.le_of_ble_eq_true rfl⟩) hK hP hD hS hA k_x0c trivial [0, 1, 2] [3] [1, 2, 3, 0] rfl rfl (by decide) (by decide) (fun _ => rfl) (va_recv hK hP (ci := 5) (q0 := 0) rfl rfl) rfl hl.1 rfl (lv_room (Nat.le_of_ble_eq_true rfl)) d_R_numberOf_55 ⟨Nat.zero_le _, Nat.zero_le _⟩ ?_
      intro r_5 u H locs hw hP hD hS
      have hP : va_P (dC, dI) vwCl (wd_R_numberOf ad ck rsize rval risP cnt look bad byZ inr rpl hld store tAt tSz) H := hP
      have hD : va_D A (wd_R_numberOf ad ck rsize rval risP cnt look bad byZ inr rpl hld store tAt tSz) := hD
      try dsimp only at hw
      refine lv_bipush (v := 48) hx hb d_R_numberOf_58 (by decide) ?_
      obtain ⟨hwt, hwf⟩ := hw
      refine lv_icmp_ne (tgt := 68) hx hb d_R_numberOf_60 (by decide) (fun c_6 => ?_) (fun c_6 => ?_)
      · have hw := hwf c_6
        refine lv_bipush (v := 10) hx hb d_R_numberOf_68 (by decide) ?_
        exact L_70 x1 x2 z0 10 rsize rval risP cnt look bad byZ inr rpl hld store tAt tSz _ _ _ hw hP hD hS (lv_sub hl [1, 2, 3, 0] rfl)
      · have hw := hwt c_6
        refine lv_bipush (v := 8) hx hb d_R_numberOf_63 (by decide) ?_
        refine lv_goto (tgt := 70) hx hb d_R_numberOf_65 (by decide) ?_
        exact L_70 x1 x2 z0 8 rsize rval risP cnt look bad byZ inr rpl hld store tAt tSz _ _ _ hw hP hD hS (lv_sub hl [1, 2, 3, 0] rfl)
    · have hw := hwf c_4
      refine lv_bipush (v := 16) hx hb d_R_numberOf_47 (by decide) ?_
      refine lv_goto (tgt := 70) hx hb d_R_numberOf_49 (by decide) ?_
      exact L_70 x1 x2 z0 16 rsize rval risP cnt look bad byZ inr rpl hld store tAt tSz _ _ _ hw hP hD hS (lv_sub hl [1, 2, 3, 0] rfl)
  refine lv_aload_n hx hb d_R_numberOf_0 rfl (lv_at hl 0 rfl) ?_
  refine va_get (D := (dC, dI)) (ci := 5) (v := .ref (ad 14)) (C := R_R) (T := T_R) (N := 16) hx hb hts in_R hown hK hP 0 rfl rfl 6 (by decide) (hts _ ux_74) (fun _ h9 => h9) rfl d_R_numberOf_1 ?_
  refine lv_iload_n hx hb d_R_numberOf_4 rfl (lv_at hl 1 rfl) ?_
  obtain ⟨hi_1, hw⟩ := hw
  refine va_iald hx hb hK hP 3 2 rfl rfl hi_1 d_R_numberOf_5 ?_
  refine lv_topi (fun x2_2 ex2_2 => ?_)
  have hw := hw x2_2 ex2_2
  refine lv_istore_n (lv' := [(2, .int x2_2), (0, .ref (ad 11)), (1, .int p0)]) hx hb d_R_numberOf_6 rfl hl (by decide) rfl (fun ls hl => ?_)
  refine lv_iload_n hx hb d_R_numberOf_7 rfl (lv_at hl 0 rfl) ?_
  refine lv_iconst (v := 2) hx hb d_R_numberOf_8 (by decide) ?_
  obtain ⟨hwt, hwf⟩ := hw
  refine lv_icmp_le (tgt := 41) hx hb d_R_numberOf_9 (by decide) (fun c_3 => ?_) (fun c_3 => ?_)
  · have hw := hwt c_3
    refine lv_iconst (v := 0) hx hb d_R_numberOf_41 (by decide) ?_
    exact L_42 p0 x2_2 0 rsize rval risP cnt look bad byZ inr rpl hld store tAt tSz _ _ _ hw hP hD hS (lv_sub hl [1, 2, 0] rfl)
  · have hw := hwf c_3
    refine lv_aload_n hx hb d_R_numberOf_12 rfl (lv_at hl 1 rfl) ?_
    refine lv_iload_n hx hb d_R_numberOf_13 rfl (lv_at hl 2 rfl) ?_
    refine lv_iconst (v := 0) hx hb d_R_numberOf_14 (by decide) ?_
    refine k_callVi (As := [.int p0, .int 0]) (rest := []) (fun (u : Unit) => wd_R_numberOf ad ck rsize rval risP cnt look bad byZ inr rpl hld store tAt tSz) ⟨hx, hb, hml, hown, hts⟩ (kc_R_byteOf l dC dI ad ck rsize rval risP cnt look bad byZ inr rpl hld store tAt p0 0 (hw := hw)) (cwV 2 hts (gV ux_79 ux_81 ux_82 ux_49 ux_80) rfl rfl rfl hd_R_byteOf ⟨Nat.le_of_ble_eq_true rfl, Nat.le_of_ble_eq_true rfl⟩) hK hP hD hS hA k_x0c trivial [0, 1, 2] [3] [1, 2, 3, 0] rfl rfl (by decide) (by decide) (fun _ => rfl) (va_recv hK hP (ci := 5) (q0 := 0) rfl rfl) rfl hl.1 rfl (lv_room (Nat.le_of_ble_eq_true rfl)) d_R_numberOf_15 ⟨Nat.zero_le _, Nat.zero_le _⟩ ?_
    intro r_70 u H locs hw hP hD hS
    have hP : va_P (dC, dI) vwCl (wd_R_numberOf ad ck rsize rval risP cnt look bad byZ inr rpl hld store tAt tSz) H := hP
    have hD : va_D A (wd_R_numberOf ad ck rsize rval risP cnt look bad byZ inr rpl hld store tAt tSz) := hD
    try dsimp only at hw
    refine lv_bipush (v := 48) hx hb d_R_numberOf_18 (by decide) ?_
    obtain ⟨hwt, hwf⟩ := hw
    refine lv_icmp_ne (tgt := 41) hx hb d_R_numberOf_20 (by decide) (fun c_71 => ?_) (fun c_71 => ?_)
    · have hw := hwf c_71
      refine lv_iconst (v := 0) hx hb d_R_numberOf_41 (by decide) ?_
      exact L_42 p0 x2_2 0 rsize rval risP cnt look bad byZ inr rpl hld store tAt tSz _ _ _ hw hP hD hS (lv_sub hl [1, 2, 0] rfl)
    · have hw := hwt c_71
      refine lv_aload_n hx hb d_R_numberOf_23 rfl (lv_at hl 1 rfl) ?_
      refine lv_iload_n hx hb d_R_numberOf_24 rfl (lv_at hl 2 rfl) ?_
      refine lv_iconst (v := 1) hx hb d_R_numberOf_25 (by decide) ?_
      refine k_callVi (As := [.int p0, .int 1]) (rest := []) (fun (u : Unit) => wd_R_numberOf ad ck rsize rval risP cnt look bad byZ inr rpl hld store tAt tSz) ⟨hx, hb, hml, hown, hts⟩ (kc_R_byteOf l dC dI ad ck rsize rval risP cnt look bad byZ inr rpl hld store tAt p0 1 (hw := hw)) (cwV 2 hts (gV ux_79 ux_81 ux_82 ux_49 ux_80) rfl rfl rfl hd_R_byteOf ⟨Nat.le_of_ble_eq_true rfl, Nat.le_of_ble_eq_true rfl⟩) hK hP hD hS hA k_x0c trivial [0, 1, 2] [3] [1, 2, 3, 0] rfl rfl (by decide) (by decide) (fun _ => rfl) (va_recv hK hP (ci := 5) (q0 := 0) rfl rfl) rfl hl.1 rfl (lv_room (Nat.le_of_ble_eq_true rfl)) d_R_numberOf_26 ⟨Nat.zero_le _, Nat.zero_le _⟩ ?_
      intro r_72 u H locs hw hP hD hS
      have hP : va_P (dC, dI) vwCl (wd_R_numberOf ad ck rsize rval risP cnt look bad byZ inr rpl hld store tAt tSz) H := hP
      have hD : va_D A (wd_R_numberOf ad ck rsize rval risP cnt look bad byZ inr rpl hld store tAt tSz) := hD
      try dsimp only at hw
      refine lv_bipush (v := 32) hx hb d_R_numberOf_29 (by decide) ?_
      refine lv_ior hx hb d_R_numberOf_31 ?_
      refine lv_bipush (v := 120) hx hb d_R_numberOf_32 (by decide) ?_
      obtain ⟨hwt, hwf⟩ := hw
      refine lv_icmp_ne (tgt := 41) hx hb d_R_numberOf_34 (by decide) (fun c_73 => ?_) (fun c_73 => ?_)
      · have hw := hwf c_73
        refine lv_iconst (v := 0) hx hb d_R_numberOf_41 (by decide) ?_
        exact L_42 p0 x2_2 0 rsize rval risP cnt look bad byZ inr rpl hld store tAt tSz _ _ _ hw hP hD hS (lv_sub hl [1, 2, 0] rfl)
      · have hw := hwt c_73
        refine lv_iconst (v := 1) hx hb d_R_numberOf_37 (by decide) ?_
        refine lv_goto (tgt := 42) hx hb d_R_numberOf_38 (by decide) ?_
        exact L_42 p0 x2_2 1 rsize rval risP cnt look bad byZ inr rpl hld store tAt tSz _ _ _ hw hP hD hS (lv_sub hl [1, 2, 0] rfl)

abbrev wd_R_characterOf (ad : Nat → Nat) (ck : Nat → ClassId) (rsize : Int32) (rval : Int64) (risP : Int32) (cnt : Int32) (look : Int32) (bad : Int32) (byZ : Int32) (inr : Int32) (rpl : Int32) (hld : Int32) (store : Nat → Int32) (tAt : Nat → Int32) (tSz : Nat → Int32) : va_W := [(ad 11, .inr (5, [.int rsize, .ref (ad 12), .long rval, .int risP, .int cnt, .ref (ad 13), .ref (ad 14), .int look, .int bad, .int byZ, .int inr, .int rpl, .int hld, .ref (ad 15), .ref (ad 16), .ref (ad 17)])), (ad 12, .inl (ck 6, 4096, .inl store)), (ad 13, .inl (ck 7, 4096, .inl tAt)), (ad 14, .inl (ck 8, 4096, .inl tSz))]
def w_R_characterOf_89 (post : Int64 → Int32 → Prop) (z0 : Int32) (rsize : Int32) (rval : Int64) (risP : Int32) (cnt : Int32) (look : Int32) (bad : Int32) (byZ : Int32) (inr : Int32) (rpl : Int32) (hld : Int32) (store : Nat → Int32) (tAt : Nat → Int32) (tSz : Nat → Int32) : Prop := (z0 = 34 → (post z0.toInt64 bad)) ∧ (¬ z0 = 34 → ((z0 = 39 → (post z0.toInt64 bad)) ∧ (¬ z0 = 39 → ((z0 = 48 → (post 0 bad)) ∧ (¬ z0 = 48 → ((z0 = 63 → (post z0.toInt64 bad)) ∧ (¬ z0 = 63 → ((z0 = 92 → (post z0.toInt64 bad)) ∧ (¬ z0 = 92 → ((z0 = 97 → (post 7 bad)) ∧ (¬ z0 = 97 → ((z0 = 98 → (post 8 bad)) ∧ (¬ z0 = 98 → ((z0 = 102 → (post 12 bad)) ∧ (¬ z0 = 102 → ((z0 = 110 → (post 10 bad)) ∧ (¬ z0 = 110 → ((z0 = 114 → (post 13 bad)) ∧ (¬ z0 = 114 → ((z0 = 116 → (post 9 bad)) ∧ (¬ z0 = 116 → ((z0 = 118 → (post 11 bad)) ∧ (¬ z0 = 118 → (post 0 1))))))))))))))))))))))))
def w_R_characterOf_39 (post : Int64 → Int32 → Prop) (x1 : Int32) (x2 : Int32) (z0 : Int32) (rsize : Int32) (rval : Int64) (risP : Int32) (cnt : Int32) (look : Int32) (bad : Int32) (byZ : Int32) (inr : Int32) (rpl : Int32) (hld : Int32) (store : Nat → Int32) (tAt : Nat → Int32) (tSz : Nat → Int32) : Prop := (z0 = 0 → ((x2 = 4 → (wp_R_byteOf (fun (r_18 : Int32) => (r_18 = 39 → (wp_R_byteOf (fun (r_20 : Int32) => (r_20 = 92 → (wp_R_byteOf (fun (r_22 : Int32) => w_R_characterOf_89 post r_22 rsize rval risP cnt look bad byZ inr rpl hld store tAt tSz) rsize rval risP cnt look bad byZ inr rpl hld store tAt x1 2)) ∧ (¬ r_20 = 92 → (w_R_characterOf_89 post (-1) rsize rval risP cnt look bad byZ inr rpl hld store tAt tSz))) rsize rval risP cnt look bad byZ inr rpl hld store tAt x1 1)) ∧ (¬ r_18 = 39 → (w_R_characterOf_89 post (-1) rsize rval risP cnt look bad byZ inr rpl hld store tAt tSz))) rsize rval risP cnt look bad byZ inr rpl hld store tAt x1 0)) ∧ (¬ x2 = 4 → (w_R_characterOf_89 post (-1) rsize rval risP cnt look bad byZ inr rpl hld store tAt tSz)))) ∧ (¬ z0 = 0 → (wp_R_byteOf (fun (r_23 : Int32) => post r_23.toInt64 bad) rsize rval risP cnt look bad byZ inr rpl hld store tAt x1 1))
def wp_R_characterOf (post : Int64 → Int32 → Prop) (rsize : Int32) (rval : Int64) (risP : Int32) (cnt : Int32) (look : Int32) (bad : Int32) (byZ : Int32) (inr : Int32) (rpl : Int32) (hld : Int32) (store : Nat → Int32) (tAt : Nat → Int32) (tSz : Nat → Int32) (p0 : Int32) : Prop := vp_in p0 4096 ∧ (∀ x2_2 : Int32, x2_2 = (tSz p0.toNatClampNeg) → ((x2_2 = 3 → (wp_R_byteOf (fun (r_24 : Int32) => (r_24 = 39 → (wp_R_byteOf (fun (r_26 : Int32) => (r_26 = 92 → (w_R_characterOf_39 post p0 x2_2 0 rsize rval risP cnt look bad byZ inr rpl hld store tAt tSz)) ∧ (¬ r_26 = 92 → (w_R_characterOf_39 post p0 x2_2 1 rsize rval risP cnt look bad byZ inr rpl hld store tAt tSz))) rsize rval risP cnt look bad byZ inr rpl hld store tAt p0 1)) ∧ (¬ r_24 = 39 → (w_R_characterOf_39 post p0 x2_2 0 rsize rval risP cnt look bad byZ inr rpl hld store tAt tSz))) rsize rval risP cnt look bad byZ inr rpl hld store tAt p0 0)) ∧ (¬ x2_2 = 3 → (w_R_characterOf_39 post p0 x2_2 0 rsize rval risP cnt look bad byZ inr rpl hld store tAt tSz))))
set_option maxHeartbeats 4000000 in
set_option maxRecDepth 100000 in
theorem kc_R_characterOf (l : Launch) (dC : Nat → ClassId) (dI : Nat → Nat → Nat) (ad : Nat → Nat) (ck : Nat → ClassId) (rsize : Int32) (rval : Int64) (risP : Int32) (cnt : Int32) (look : Int32) (bad : Int32) (byZ : Int32) (inr : Int32) (rpl : Int32) (hld : Int32) (store : Nat → Int32) (tAt : Nat → Int32) (tSz : Nat → Int32) (p0 : Int32) {post : Int64 → Int32 → Prop} (hw : wp_R_characterOf post rsize rval risP cnt look bad byZ inr rpl hld store tAt tSz p0) : k_Cl l y_R_characterOf ws_R_characterOf ({ frames := 1, cells := 0, slots := 0, locals := 22 } : Room) (dC, dI) vwCl (TYr ck) k_x0 [.ref (ad 11), .int p0] (wd_R_characterOf ad ck rsize rval risP cnt look bad byZ inr rpl hld store tAt tSz) (fun (r : Int64) (u : Int32) => post r u) (fun (u : Int32) => wd_R_characterOf ad ck rsize rval risP cnt look u byZ inr rpl hld store tAt tSz) := by
  intro sz
  refine Met.ofW (cc := c_R_characterOf) (maxL := 5) (ret := (some .long)) (by decide) rfl ?_
  intro p e s m args below meth c s₁ B hml hv
  obtain ⟨rfl, hsz, hP, hK, hD0, hX⟩ := hv
  have hx := B.exec
  have hb := B.bytes
  have hr := B.returns
  have hts : ∀ w ∈ TB, w.before _ s = true := fun w h => atoms_spec (ws := ws_R_characterOf) B.pre w (List.mem_cons_of_mem _ h)
  have hown : s.vm.findClass R_R = some m.cls := findClass_of_methodNamed B.named
  have hlocks := B.notSynchronized
  subst hsz
  have hD := hD0.self (sz := s.heap.size)
  generalize hAe : va_A (wd_R_characterOf ad ck rsize rval risP cnt look bad byZ inr rpl hld store tAt tSz) s.heap.size = A at hD hX ⊢
  have hA : ∀ q : Nat, s.heap.size ≤ q → A q := fun q h => by rw [← hAe]; exact Or.inr h
  have hS : va_S A s.heap s.heap [] := va_S.rf
  have hP : va_P (dC, dI) vwCl (wd_R_characterOf ad ck rsize rval risP cnt look bad byZ inr rpl hld store tAt tSz) s.heap := hP
  have hl := lv_entry ([.ref (ad 11), .int p0]) (n := 5) (Nat.le_of_ble_eq_true rfl)
  rw [lg_entry_eq]
  generalize (lg_sl ([.ref (ad 11), .int p0]) ++ List.replicate (5 - (lg_sl ([.ref (ad 11), .int p0])).length) Slot.unset).toArray = ls at hl ⊢
  have hl : lv_has ls 5 [(0, .ref (ad 11)), (1, .int p0)] := hl
  have L_89 : ∀ (z0 : Int32) (rsize : Int32) (rval : Int64) (risP : Int32) (cnt : Int32) (look : Int32) (bad : Int32) (byZ : Int32) (inr : Int32) (rpl : Int32) (hld : Int32) (store : Nat → Int32) (tAt : Nat → Int32) (tSz : Nat → Int32) (H : Heap) (locs : List Loc) (ls : Array Slot), w_R_characterOf_89 post z0 rsize rval risP cnt look bad byZ inr rpl hld store tAt tSz → va_P (dC, dI) vwCl (wd_R_characterOf ad ck rsize rval risP cnt look bad byZ inr rpl hld store tAt tSz) H → va_D A (wd_R_characterOf ad ck rsize rval risP cnt look bad byZ inr rpl hld store tAt tSz) → va_S A s.heap H locs → lv_has ls 5 [(0, .ref (ad 11))] → W p l e (headSpec ws_R_characterOf ({ frames := 1, cells := 0, slots := 0, locals := 22 } : Room)).room s m ([.ref (ad 11), .int p0] : List Value).toArray below meth c H locs 0 0 (k_Ql below (dC, dI) vwCl (TYr ck) A (fun (r : Int64) (u : Int32) => post r u) (fun (u : Int32) => wd_R_characterOf ad ck rsize rval risP cnt look u byZ inr rpl hld store tAt tSz) ([.ref (ad 11), .int p0] : List Value).toArray s) (F0 m 89 ls [.int z0]) := by
    intro z0 rsize rval risP cnt look bad byZ inr rpl hld store tAt tSz H locs ls hw hP hD hS hl
    refine lv_istore (lv' := [(4, .int z0), (0, .ref (ad 11))]) hx hb d_R_characterOf_89 hl (by decide) rfl (fun ls hl => ?_)
    refine lv_iload hx hb d_R_characterOf_91 (lv_at hl 0 rfl) ?_
    obtain ⟨hwt, hwf⟩ := hw
    by_cases c_6 : z0 = 34
    · have hw := hwt c_6
      refine lv_lookup (off := 137) (tgt := 230) hx hb d_R_characterOf_93 (by decide) (by rw [c_6]; decide) (by decide) ?_
      refine lv_iload hx hb d_R_characterOf_230 (lv_at hl 0 rfl) ?_
      refine lv_i2l (v := z0.toInt64) hx hb d_R_characterOf_232 rfl ?_
      exact W.lret (v := z0.toInt64) hx hb hr (fun t ht hW => ⟨⟨z0.toInt64, bad, rfl, hw, by rw [ht]; exact hP, va_K.moved hW.alike hK, hD⟩, hS.F ht⟩) hS.2.2 d_R_characterOf_233
    · have hw := hwf c_6
      obtain ⟨hwt, hwf⟩ := hw
      by_cases c_7 : z0 = 39
      · have hw := hwt c_7
        refine lv_lookup (off := 137) (tgt := 230) hx hb d_R_characterOf_93 (by decide) (by rw [c_7]; decide) (by decide) ?_
        refine lv_iload hx hb d_R_characterOf_230 (lv_at hl 0 rfl) ?_
        refine lv_i2l (v := z0.toInt64) hx hb d_R_characterOf_232 rfl ?_
        exact W.lret (v := z0.toInt64) hx hb hr (fun t ht hW => ⟨⟨z0.toInt64, bad, rfl, hw, by rw [ht]; exact hP, va_K.moved hW.alike hK, hD⟩, hS.F ht⟩) hS.2.2 d_R_characterOf_233
      · have hw := hwf c_7
        obtain ⟨hwt, hwf⟩ := hw
        by_cases c_8 : z0 = 48
        · have hw := hwt c_8
          refine lv_lookup (off := 135) (tgt := 228) hx hb d_R_characterOf_93 (by decide) (by rw [c_8]; decide) (by decide) ?_
          refine lv_lconst (v := 0) hx hb d_R_characterOf_228 (by decide) ?_
          exact W.lret (v := 0) hx hb hr (fun t ht hW => ⟨⟨0, bad, rfl, hw, by rw [ht]; exact hP, va_K.moved hW.alike hK, hD⟩, hS.F ht⟩) hS.2.2 d_R_characterOf_229
        · have hw := hwf c_8
          obtain ⟨hwt, hwf⟩ := hw
          by_cases c_9 : z0 = 63
          · have hw := hwt c_9
            refine lv_lookup (off := 137) (tgt := 230) hx hb d_R_characterOf_93 (by decide) (by rw [c_9]; decide) (by decide) ?_
            refine lv_iload hx hb d_R_characterOf_230 (lv_at hl 0 rfl) ?_
            refine lv_i2l (v := z0.toInt64) hx hb d_R_characterOf_232 rfl ?_
            exact W.lret (v := z0.toInt64) hx hb hr (fun t ht hW => ⟨⟨z0.toInt64, bad, rfl, hw, by rw [ht]; exact hP, va_K.moved hW.alike hK, hD⟩, hS.F ht⟩) hS.2.2 d_R_characterOf_233
          · have hw := hwf c_9
            obtain ⟨hwt, hwf⟩ := hw
            by_cases c_10 : z0 = 92
            · have hw := hwt c_10
              refine lv_lookup (off := 137) (tgt := 230) hx hb d_R_characterOf_93 (by decide) (by rw [c_10]; decide) (by decide) ?_
              refine lv_iload hx hb d_R_characterOf_230 (lv_at hl 0 rfl) ?_
              refine lv_i2l (v := z0.toInt64) hx hb d_R_characterOf_232 rfl ?_
              exact W.lret (v := z0.toInt64) hx hb hr (fun t ht hW => ⟨⟨z0.toInt64, bad, rfl, hw, by rw [ht]; exact hP, va_K.moved hW.alike hK, hD⟩, hS.F ht⟩) hS.2.2 d_R_characterOf_233
            · have hw := hwf c_10
              obtain ⟨hwt, hwf⟩ := hw
              by_cases c_11 : z0 = 97
              · have hw := hwt c_11
                refine lv_lookup (off := 119) (tgt := 212) hx hb d_R_characterOf_93 (by decide) (by rw [c_11]; decide) (by decide) ?_
                refine lv_ldc2 (v := 7) hx hb hown (hts _ ux_115) d_R_characterOf_212 ?_
                exact W.lret (v := 7) hx hb hr (fun t ht hW => ⟨⟨7, bad, rfl, hw, by rw [ht]; exact hP, va_K.moved hW.alike hK, hD⟩, hS.F ht⟩) hS.2.2 d_R_characterOf_215
              · have hw := hwf c_11
                obtain ⟨hwt, hwf⟩ := hw
                by_cases c_12 : z0 = 98
                · have hw := hwt c_12
                  refine lv_lookup (off := 123) (tgt := 216) hx hb d_R_characterOf_93 (by decide) (by rw [c_12]; decide) (by decide) ?_
                  refine lv_ldc2 (v := 8) hx hb hown (hts _ ux_116) d_R_characterOf_216 ?_
                  exact W.lret (v := 8) hx hb hr (fun t ht hW => ⟨⟨8, bad, rfl, hw, by rw [ht]; exact hP, va_K.moved hW.alike hK, hD⟩, hS.F ht⟩) hS.2.2 d_R_characterOf_219
                · have hw := hwf c_12
                  obtain ⟨hwt, hwf⟩ := hw
                  by_cases c_13 : z0 = 102
                  · have hw := hwt c_13
                    refine lv_lookup (off := 127) (tgt := 220) hx hb d_R_characterOf_93 (by decide) (by rw [c_13]; decide) (by decide) ?_
                    refine lv_ldc2 (v := 12) hx hb hown (hts _ ux_117) d_R_characterOf_220 ?_
                    exact W.lret (v := 12) hx hb hr (fun t ht hW => ⟨⟨12, bad, rfl, hw, by rw [ht]; exact hP, va_K.moved hW.alike hK, hD⟩, hS.F ht⟩) hS.2.2 d_R_characterOf_223
                  · have hw := hwf c_13
                    obtain ⟨hwt, hwf⟩ := hw
                    by_cases c_14 : z0 = 110
                    · have hw := hwt c_14
                      refine lv_lookup (off := 107) (tgt := 200) hx hb d_R_characterOf_93 (by decide) (by rw [c_14]; decide) (by decide) ?_
                      refine lv_ldc2 (v := 10) hx hb hown (hts _ ux_118) d_R_characterOf_200 ?_
                      exact W.lret (v := 10) hx hb hr (fun t ht hW => ⟨⟨10, bad, rfl, hw, by rw [ht]; exact hP, va_K.moved hW.alike hK, hD⟩, hS.F ht⟩) hS.2.2 d_R_characterOf_203
                    · have hw := hwf c_14
                      obtain ⟨hwt, hwf⟩ := hw
                      by_cases c_15 : z0 = 114
                      · have hw := hwt c_15
                        refine lv_lookup (off := 115) (tgt := 208) hx hb d_R_characterOf_93 (by decide) (by rw [c_15]; decide) (by decide) ?_
                        refine lv_ldc2 (v := 13) hx hb hown (hts _ ux_119) d_R_characterOf_208 ?_
                        exact W.lret (v := 13) hx hb hr (fun t ht hW => ⟨⟨13, bad, rfl, hw, by rw [ht]; exact hP, va_K.moved hW.alike hK, hD⟩, hS.F ht⟩) hS.2.2 d_R_characterOf_211
                      · have hw := hwf c_15
                        obtain ⟨hwt, hwf⟩ := hw
                        by_cases c_16 : z0 = 116
                        · have hw := hwt c_16
                          refine lv_lookup (off := 111) (tgt := 204) hx hb d_R_characterOf_93 (by decide) (by rw [c_16]; decide) (by decide) ?_
                          refine lv_ldc2 (v := 9) hx hb hown (hts _ ux_120) d_R_characterOf_204 ?_
                          exact W.lret (v := 9) hx hb hr (fun t ht hW => ⟨⟨9, bad, rfl, hw, by rw [ht]; exact hP, va_K.moved hW.alike hK, hD⟩, hS.F ht⟩) hS.2.2 d_R_characterOf_207
                        · have hw := hwf c_16
                          obtain ⟨hwt, hwf⟩ := hw
                          by_cases c_17 : z0 = 118
                          · have hw := hwt c_17
                            refine lv_lookup (off := 131) (tgt := 224) hx hb d_R_characterOf_93 (by decide) (by rw [c_17]; decide) (by decide) ?_
                            refine lv_ldc2 (v := 11) hx hb hown (hts _ ux_121) d_R_characterOf_224 ?_
                            exact W.lret (v := 11) hx hb hr (fun t ht hW => ⟨⟨11, bad, rfl, hw, by rw [ht]; exact hP, va_K.moved hW.alike hK, hD⟩, hS.F ht⟩) hS.2.2 d_R_characterOf_227
                          · have hw := hwf c_17
                            refine lv_lookup (off := 141) (tgt := 234) hx hb d_R_characterOf_93 (by decide) (by show Op.lookupswitch.offset _ _ _ = _; rw [lv_osw c_6 (show (34 : Int32).toInt = 34 from rfl), lv_osw c_7 (show (39 : Int32).toInt = 39 from rfl), lv_osw c_8 (show (48 : Int32).toInt = 48 from rfl), lv_osw c_9 (show (63 : Int32).toInt = 63 from rfl), lv_osw c_10 (show (92 : Int32).toInt = 92 from rfl), lv_osw c_11 (show (97 : Int32).toInt = 97 from rfl), lv_osw c_12 (show (98 : Int32).toInt = 98 from rfl), lv_osw c_13 (show (102 : Int32).toInt = 102 from rfl), lv_osw c_14 (show (110 : Int32).toInt = 110 from rfl), lv_osw c_15 (show (114 : Int32).toInt = 114 from rfl), lv_osw c_16 (show (116 : Int32).toInt = 116 from rfl), lv_osw c_17 (show (118 : Int32).toInt = 118 from rfl)]; rfl) (by decide) ?_
                            refine lv_aload_n hx hb d_R_characterOf_234 rfl (lv_at hl 1 rfl) ?_
                            refine lv_iconst (v := 1) hx hb d_R_characterOf_235 (by decide) ?_
                            refine va_put (D := (dC, dI)) (ci := 5) (v := .int 1) (ty := .boolean) (C := R_R) (T := T_R) (N := 16) hx hb hts in_R ty_R ty_R_ok nm_R hown hK hP hD hS 0 rfl rfl 8 (by decide) (hts _ ux_110) (fun _ h9 => h9) rfl (by decide +kernel) (by decide) (by decide) (Nat.le_of_ble_eq_true rfl) d_R_characterOf_236 (fun H locs hP hD hS => ?_)
                            have hP : va_P (dC, dI) vwCl (wd_R_characterOf ad ck rsize rval risP cnt look 1 byZ inr rpl hld store tAt tSz) H := hP
                            have hD : va_D A (wd_R_characterOf ad ck rsize rval risP cnt look 1 byZ inr rpl hld store tAt tSz) := hD
                            refine lv_lconst (v := 0) hx hb d_R_characterOf_239 (by decide) ?_
                            exact W.lret (v := 0) hx hb hr (fun t ht hW => ⟨⟨0, 1, rfl, hw, by rw [ht]; exact hP, va_K.moved hW.alike hK, hD⟩, hS.F ht⟩) hS.2.2 d_R_characterOf_240
  have L_39 : ∀ (x1 : Int32) (x2 : Int32) (z0 : Int32) (rsize : Int32) (rval : Int64) (risP : Int32) (cnt : Int32) (look : Int32) (bad : Int32) (byZ : Int32) (inr : Int32) (rpl : Int32) (hld : Int32) (store : Nat → Int32) (tAt : Nat → Int32) (tSz : Nat → Int32) (H : Heap) (locs : List Loc) (ls : Array Slot), w_R_characterOf_39 post x1 x2 z0 rsize rval risP cnt look bad byZ inr rpl hld store tAt tSz → va_P (dC, dI) vwCl (wd_R_characterOf ad ck rsize rval risP cnt look bad byZ inr rpl hld store tAt tSz) H → va_D A (wd_R_characterOf ad ck rsize rval risP cnt look bad byZ inr rpl hld store tAt tSz) → va_S A s.heap H locs → lv_has ls 5 [(0, .ref (ad 11)), (1, .int x1), (2, .int x2)] → W p l e (headSpec ws_R_characterOf ({ frames := 1, cells := 0, slots := 0, locals := 22 } : Room)).room s m ([.ref (ad 11), .int p0] : List Value).toArray below meth c H locs 0 0 (k_Ql below (dC, dI) vwCl (TYr ck) A (fun (r : Int64) (u : Int32) => post r u) (fun (u : Int32) => wd_R_characterOf ad ck rsize rval risP cnt look u byZ inr rpl hld store tAt tSz) ([.ref (ad 11), .int p0] : List Value).toArray s) (F0 m 39 ls [.int z0]) := by
    intro x1 x2 z0 rsize rval risP cnt look bad byZ inr rpl hld store tAt tSz H locs ls hw hP hD hS hl
    refine lv_istore_n (lv' := [(3, .int z0), (0, .ref (ad 11)), (1, .int x1), (2, .int x2)]) hx hb d_R_characterOf_39 rfl hl (by decide) rfl (fun ls hl => ?_)
    refine lv_iload_n hx hb d_R_characterOf_40 rfl (lv_at hl 0 rfl) ?_
    obtain ⟨hwt, hwf⟩ := hw
    refine lv_if_eq (tgt := 52) hx hb d_R_characterOf_41 (by decide) (fun c_4 => ?_) (fun c_4 => ?_)
    · have hw := hwt c_4
      refine lv_iload_n hx hb d_R_characterOf_52 rfl (lv_at hl 3 rfl) ?_
      refine lv_iconst (v := 4) hx hb d_R_characterOf_53 (by decide) ?_
      obtain ⟨hwt, hwf⟩ := hw
      refine lv_icmp_ne (tgt := 88) hx hb d_R_characterOf_54 (by decide) (fun c_5 => ?_) (fun c_5 => ?_)
      · have hw := hwf c_5
        refine lv_iconst (v := (-1)) hx hb d_R_characterOf_88 (by decide) ?_
        exact L_89 (-1) rsize rval risP cnt look bad byZ inr rpl hld store tAt tSz _ _ _ hw hP hD hS (lv_sub hl [1] rfl)
      · have hw := hwt c_5
        refine lv_aload_n hx hb d_R_characterOf_57 rfl (lv_at hl 1 rfl) ?_
        refine lv_iload_n hx hb d_R_characterOf_58 rfl (lv_at hl 2 rfl) ?_
        refine lv_iconst (v := 0) hx hb d_R_characterOf_59 (by decide) ?_
        refine k_callVi (As := [.int x1, .int 0]) (rest := []) (fun (u : Unit) => wd_R_characterOf ad ck rsize rval risP cnt look bad byZ inr rpl hld store tAt tSz) ⟨hx, hb, hml, hown, hts⟩ (kc_R_byteOf l dC dI ad ck rsize rval risP cnt look bad byZ inr rpl hld store tAt x1 0 (hw := hw)) (cwV 2 hts (gV ux_79 ux_81 ux_82 ux_49 ux_80) rfl rfl rfl hd_R_byteOf ⟨Nat.le_of_ble_eq_true rfl, Nat.le_of_ble_eq_true rfl⟩) hK hP hD hS hA k_x0c trivial [0, 1, 2] [3] [1, 2, 3, 0] rfl rfl (by decide) (by decide) (fun _ => rfl) (va_recv hK hP (ci := 5) (q0 := 0) rfl rfl) rfl hl.1 rfl (lv_room (Nat.le_of_ble_eq_true rfl)) d_R_characterOf_60 ⟨Nat.zero_le _, Nat.zero_le _⟩ ?_
        intro r_18 u H locs hw hP hD hS
        have hP : va_P (dC, dI) vwCl (wd_R_characterOf ad ck rsize rval risP cnt look bad byZ inr rpl hld store tAt tSz) H := hP
        have hD : va_D A (wd_R_characterOf ad ck rsize rval risP cnt look bad byZ inr rpl hld store tAt tSz) := hD
        try dsimp only at hw
        refine lv_bipush (v := 39) hx hb d_R_characterOf_63 (by decide) ?_
        obtain ⟨hwt, hwf⟩ := hw
        refine lv_icmp_ne (tgt := 88) hx hb d_R_characterOf_65 (by decide) (fun c_19 => ?_) (fun c_19 => ?_)
        · have hw := hwf c_19
          refine lv_iconst (v := (-1)) hx hb d_R_characterOf_88 (by decide) ?_
          exact L_89 (-1) rsize rval risP cnt look bad byZ inr rpl hld store tAt tSz _ _ _ hw hP hD hS (lv_sub hl [1] rfl)
        · have hw := hwt c_19
          refine lv_aload_n hx hb d_R_characterOf_68 rfl (lv_at hl 1 rfl) ?_
          refine lv_iload_n hx hb d_R_characterOf_69 rfl (lv_at hl 2 rfl) ?_
          refine lv_iconst (v := 1) hx hb d_R_characterOf_70 (by decide) ?_
          refine k_callVi (As := [.int x1, .int 1]) (rest := []) (fun (u : Unit) => wd_R_characterOf ad ck rsize rval risP cnt look bad byZ inr rpl hld store tAt tSz) ⟨hx, hb, hml, hown, hts⟩ (kc_R_byteOf l dC dI ad ck rsize rval risP cnt look bad byZ inr rpl hld store tAt x1 1 (hw := hw)) (cwV 2 hts (gV ux_79 ux_81 ux_82 ux_49 ux_80) rfl rfl rfl hd_R_byteOf ⟨Nat.le_of_ble_eq_true rfl, Nat.le_of_ble_eq_true rfl⟩) hK hP hD hS hA k_x0c trivial [0, 1, 2] [3] [1, 2, 3, 0] rfl rfl (by decide) (by decide) (fun _ => rfl) (va_recv hK hP (ci := 5) (q0 := 0) rfl rfl) rfl hl.1 rfl (lv_room (Nat.le_of_ble_eq_true rfl)) d_R_characterOf_71 ⟨Nat.zero_le _, Nat.zero_le _⟩ ?_
          intro r_20 u H locs hw hP hD hS
          have hP : va_P (dC, dI) vwCl (wd_R_characterOf ad ck rsize rval risP cnt look bad byZ inr rpl hld store tAt tSz) H := hP
          have hD : va_D A (wd_R_characterOf ad ck rsize rval risP cnt look bad byZ inr rpl hld store tAt tSz) := hD
          try dsimp only at hw
          refine lv_bipush (v := 92) hx hb d_R_characterOf_74 (by decide) ?_
          obtain ⟨hwt, hwf⟩ := hw
          refine lv_icmp_ne (tgt := 88) hx hb d_R_characterOf_76 (by decide) (fun c_21 => ?_) (fun c_21 => ?_)
          · have hw := hwf c_21
            refine lv_iconst (v := (-1)) hx hb d_R_characterOf_88 (by decide) ?_
            exact L_89 (-1) rsize rval risP cnt look bad byZ inr rpl hld store tAt tSz _ _ _ hw hP hD hS (lv_sub hl [1] rfl)
          · have hw := hwt c_21
            refine lv_aload_n hx hb d_R_characterOf_79 rfl (lv_at hl 1 rfl) ?_
            refine lv_iload_n hx hb d_R_characterOf_80 rfl (lv_at hl 2 rfl) ?_
            refine lv_iconst (v := 2) hx hb d_R_characterOf_81 (by decide) ?_
            refine k_callVi (As := [.int x1, .int 2]) (rest := []) (fun (u : Unit) => wd_R_characterOf ad ck rsize rval risP cnt look bad byZ inr rpl hld store tAt tSz) ⟨hx, hb, hml, hown, hts⟩ (kc_R_byteOf l dC dI ad ck rsize rval risP cnt look bad byZ inr rpl hld store tAt x1 2 (hw := hw)) (cwV 2 hts (gV ux_79 ux_81 ux_82 ux_49 ux_80) rfl rfl rfl hd_R_byteOf ⟨Nat.le_of_ble_eq_true rfl, Nat.le_of_ble_eq_true rfl⟩) hK hP hD hS hA k_x0c trivial [0, 1, 2] [3] [1, 2, 3, 0] rfl rfl (by decide) (by decide) (fun _ => rfl) (va_recv hK hP (ci := 5) (q0 := 0) rfl rfl) rfl hl.1 rfl (lv_room (Nat.le_of_ble_eq_true rfl)) d_R_characterOf_82 ⟨Nat.zero_le _, Nat.zero_le _⟩ ?_
            intro r_22 u H locs hw hP hD hS
            have hP : va_P (dC, dI) vwCl (wd_R_characterOf ad ck rsize rval risP cnt look bad byZ inr rpl hld store tAt tSz) H := hP
            have hD : va_D A (wd_R_characterOf ad ck rsize rval risP cnt look bad byZ inr rpl hld store tAt tSz) := hD
            try dsimp only at hw
            refine lv_goto (tgt := 89) hx hb d_R_characterOf_85 (by decide) ?_
            exact L_89 r_22 rsize rval risP cnt look bad byZ inr rpl hld store tAt tSz _ _ _ hw hP hD hS (lv_sub hl [1] rfl)
    · have hw := hwf c_4
      refine lv_aload_n hx hb d_R_characterOf_44 rfl (lv_at hl 1 rfl) ?_
      refine lv_iload_n hx hb d_R_characterOf_45 rfl (lv_at hl 2 rfl) ?_
      refine lv_iconst (v := 1) hx hb d_R_characterOf_46 (by decide) ?_
      refine k_callVi (As := [.int x1, .int 1]) (rest := []) (fun (u : Unit) => wd_R_characterOf ad ck rsize rval risP cnt look bad byZ inr rpl hld store tAt tSz) ⟨hx, hb, hml, hown, hts⟩ (kc_R_byteOf l dC dI ad ck rsize rval risP cnt look bad byZ inr rpl hld store tAt x1 1 (hw := hw)) (cwV 2 hts (gV ux_79 ux_81 ux_82 ux_49 ux_80) rfl rfl rfl hd_R_byteOf ⟨Nat.le_of_ble_eq_true rfl, Nat.le_of_ble_eq_true rfl⟩) hK hP hD hS hA k_x0c trivial [0, 1, 2] [3] [1, 2, 3, 0] rfl rfl (by decide) (by decide) (fun _ => rfl) (va_recv hK hP (ci := 5) (q0 := 0) rfl rfl) rfl hl.1 rfl (lv_room (Nat.le_of_ble_eq_true rfl)) d_R_characterOf_47 ⟨Nat.zero_le _, Nat.zero_le _⟩ ?_
      intro r_23 u H locs hw hP hD hS
      have hP : va_P (dC, dI) vwCl (wd_R_characterOf ad ck rsize rval risP cnt look bad byZ inr rpl hld store tAt tSz) H := hP
      have hD : va_D A (wd_R_characterOf ad ck rsize rval risP cnt look bad byZ inr rpl hld store tAt tSz) := hD
      try dsimp only at hw
      refine lv_i2l (v := r_23.toInt64) hx hb d_R_characterOf_50 rfl ?_
      exact W.lret (v := r_23.toInt64) hx hb hr (fun t ht hW => ⟨⟨r_23.toInt64, bad, rfl, hw, by rw [ht]; exact hP, va_K.moved hW.alike hK, hD⟩, hS.F ht⟩) hS.2.2 d_R_characterOf_51
  refine lv_aload_n hx hb d_R_characterOf_0 rfl (lv_at hl 0 rfl) ?_
  refine va_get (D := (dC, dI)) (ci := 5) (v := .ref (ad 14)) (C := R_R) (T := T_R) (N := 16) hx hb hts in_R hown hK hP 0 rfl rfl 6 (by decide) (hts _ ux_74) (fun _ h9 => h9) rfl d_R_characterOf_1 ?_
  refine lv_iload_n hx hb d_R_characterOf_4 rfl (lv_at hl 1 rfl) ?_
  obtain ⟨hi_1, hw⟩ := hw
  refine va_iald hx hb hK hP 3 2 rfl rfl hi_1 d_R_characterOf_5 ?_
  refine lv_topi (fun x2_2 ex2_2 => ?_)
  have hw := hw x2_2 ex2_2
  refine lv_istore_n (lv' := [(2, .int x2_2), (0, .ref (ad 11)), (1, .int p0)]) hx hb d_R_characterOf_6 rfl hl (by decide) rfl (fun ls hl => ?_)
  refine lv_iload_n hx hb d_R_characterOf_7 rfl (lv_at hl 0 rfl) ?_
  refine lv_iconst (v := 3) hx hb d_R_characterOf_8 (by decide) ?_
  obtain ⟨hwt, hwf⟩ := hw
  refine lv_icmp_ne (tgt := 38) hx hb d_R_characterOf_9 (by decide) (fun c_3 => ?_) (fun c_3 => ?_)
  · have hw := hwf c_3
    refine lv_iconst (v := 0) hx hb d_R_characterOf_38 (by decide) ?_
    exact L_39 p0 x2_2 0 rsize rval risP cnt look bad byZ inr rpl hld store tAt tSz _ _ _ hw hP hD hS (lv_sub hl [1, 2, 0] rfl)
  · have hw := hwt c_3
    refine lv_aload_n hx hb d_R_characterOf_12 rfl (lv_at hl 1 rfl) ?_
    refine lv_iload_n hx hb d_R_characterOf_13 rfl (lv_at hl 2 rfl) ?_
    refine lv_iconst (v := 0) hx hb d_R_characterOf_14 (by decide) ?_
    refine k_callVi (As := [.int p0, .int 0]) (rest := []) (fun (u : Unit) => wd_R_characterOf ad ck rsize rval risP cnt look bad byZ inr rpl hld store tAt tSz) ⟨hx, hb, hml, hown, hts⟩ (kc_R_byteOf l dC dI ad ck rsize rval risP cnt look bad byZ inr rpl hld store tAt p0 0 (hw := hw)) (cwV 2 hts (gV ux_79 ux_81 ux_82 ux_49 ux_80) rfl rfl rfl hd_R_byteOf ⟨Nat.le_of_ble_eq_true rfl, Nat.le_of_ble_eq_true rfl⟩) hK hP hD hS hA k_x0c trivial [0, 1, 2] [3] [1, 2, 3, 0] rfl rfl (by decide) (by decide) (fun _ => rfl) (va_recv hK hP (ci := 5) (q0 := 0) rfl rfl) rfl hl.1 rfl (lv_room (Nat.le_of_ble_eq_true rfl)) d_R_characterOf_15 ⟨Nat.zero_le _, Nat.zero_le _⟩ ?_
    intro r_24 u H locs hw hP hD hS
    have hP : va_P (dC, dI) vwCl (wd_R_characterOf ad ck rsize rval risP cnt look bad byZ inr rpl hld store tAt tSz) H := hP
    have hD : va_D A (wd_R_characterOf ad ck rsize rval risP cnt look bad byZ inr rpl hld store tAt tSz) := hD
    try dsimp only at hw
    refine lv_bipush (v := 39) hx hb d_R_characterOf_18 (by decide) ?_
    obtain ⟨hwt, hwf⟩ := hw
    refine lv_icmp_ne (tgt := 38) hx hb d_R_characterOf_20 (by decide) (fun c_25 => ?_) (fun c_25 => ?_)
    · have hw := hwf c_25
      refine lv_iconst (v := 0) hx hb d_R_characterOf_38 (by decide) ?_
      exact L_39 p0 x2_2 0 rsize rval risP cnt look bad byZ inr rpl hld store tAt tSz _ _ _ hw hP hD hS (lv_sub hl [1, 2, 0] rfl)
    · have hw := hwt c_25
      refine lv_aload_n hx hb d_R_characterOf_23 rfl (lv_at hl 1 rfl) ?_
      refine lv_iload_n hx hb d_R_characterOf_24 rfl (lv_at hl 2 rfl) ?_
      refine lv_iconst (v := 1) hx hb d_R_characterOf_25 (by decide) ?_
      refine k_callVi (As := [.int p0, .int 1]) (rest := []) (fun (u : Unit) => wd_R_characterOf ad ck rsize rval risP cnt look bad byZ inr rpl hld store tAt tSz) ⟨hx, hb, hml, hown, hts⟩ (kc_R_byteOf l dC dI ad ck rsize rval risP cnt look bad byZ inr rpl hld store tAt p0 1 (hw := hw)) (cwV 2 hts (gV ux_79 ux_81 ux_82 ux_49 ux_80) rfl rfl rfl hd_R_byteOf ⟨Nat.le_of_ble_eq_true rfl, Nat.le_of_ble_eq_true rfl⟩) hK hP hD hS hA k_x0c trivial [0, 1, 2] [3] [1, 2, 3, 0] rfl rfl (by decide) (by decide) (fun _ => rfl) (va_recv hK hP (ci := 5) (q0 := 0) rfl rfl) rfl hl.1 rfl (lv_room (Nat.le_of_ble_eq_true rfl)) d_R_characterOf_26 ⟨Nat.zero_le _, Nat.zero_le _⟩ ?_
      intro r_26 u H locs hw hP hD hS
      have hP : va_P (dC, dI) vwCl (wd_R_characterOf ad ck rsize rval risP cnt look bad byZ inr rpl hld store tAt tSz) H := hP
      have hD : va_D A (wd_R_characterOf ad ck rsize rval risP cnt look bad byZ inr rpl hld store tAt tSz) := hD
      try dsimp only at hw
      refine lv_bipush (v := 92) hx hb d_R_characterOf_29 (by decide) ?_
      obtain ⟨hwt, hwf⟩ := hw
      refine lv_icmp_eq (tgt := 38) hx hb d_R_characterOf_31 (by decide) (fun c_27 => ?_) (fun c_27 => ?_)
      · have hw := hwt c_27
        refine lv_iconst (v := 0) hx hb d_R_characterOf_38 (by decide) ?_
        exact L_39 p0 x2_2 0 rsize rval risP cnt look bad byZ inr rpl hld store tAt tSz _ _ _ hw hP hD hS (lv_sub hl [1, 2, 0] rfl)
      · have hw := hwf c_27
        refine lv_iconst (v := 1) hx hb d_R_characterOf_34 (by decide) ?_
        refine lv_goto (tgt := 39) hx hb d_R_characterOf_35 (by decide) ?_
        exact L_39 p0 x2_2 1 rsize rval risP cnt look bad byZ inr rpl hld store tAt tSz _ _ _ hw hP hD hS (lv_sub hl [1, 2, 0] rfl)
