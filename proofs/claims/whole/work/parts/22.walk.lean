abbrev wd_W_signCode (ad : Nat → Nat) (ck : Nat → ClassId) (start : Int32) (fin : Int32) (kind : Int32) (oT : Int32) (oC : Int32) (size : Int32) (row : Nat → Int32) : va_W := [(ad 3, .inr (3, [.ref (ad 1), .int start, .int fin, .int kind, .int oT, .int oC])), (ad 1, .inr (2, [.ref (ad 2), .int size])), (ad 2, .inl (ck 0, 4096, .inl row))]
def w_W_signCode_4 (post : Int32 → Prop) (start : Int32) (fin : Int32) (kind : Int32) (oT : Int32) (oC : Int32) (size : Int32) (row : Nat → Int32) : Nat → Int32 → Int32 → Prop
  | 0 => fun _ _ => False
  | n + 1 => fun x1 x2 => (3 ≤ x2 → (post x1)) ∧ (¬ 3 ≤ x2 → ((fin ≤ (start + x2) → (post x1)) ∧ (¬ fin ≤ (start + x2) → (wp_T_at (fun (r_3 : Int32) => ∀ x1_4 : Int32, x1_4 = (x1 ||| (r_3 <<< ((8 * x2) &&& 31))) → (∀ x2_5 : Int32, x2_5 = x2 + 1 → (w_W_signCode_4 post start fin kind oT oC size row n x1_4 x2_5))) size row (start + x2)))))
def wp_W_signCode (post : Int32 → Prop) (start : Int32) (fin : Int32) (kind : Int32) (oT : Int32) (oC : Int32) (size : Int32) (row : Nat → Int32)  : Prop := ∃ fu4 : Nat, w_W_signCode_4 post start fin kind oT oC size row fu4 0 0
set_option maxHeartbeats 4000000 in
set_option maxRecDepth 100000 in
theorem kc_W_signCode (l : Launch) (dC : Nat → ClassId) (dI : Nat → Nat → Nat) (ad : Nat → Nat) (ck : Nat → ClassId) (start : Int32) (fin : Int32) (kind : Int32) (oT : Int32) (oC : Int32) (size : Int32) (row : Nat → Int32)  {post : Int32 → Prop} (hw : wp_W_signCode post start fin kind oT oC size row ) : k_Ci l y_W_signCode ws_W_signCode ({ frames := 1, cells := 0, slots := 0, locals := 21 } : Room) (dC, dI) vwCl (TYm ck) k_x0 [.ref (ad 3)] (wd_W_signCode ad ck start fin kind oT oC size row) (fun (r : Int32) (u : Unit) => post r ) (fun (u : Unit) => wd_W_signCode ad ck start fin kind oT oC size row) := by
  intro sz
  refine Met.ofW (cc := c_W_signCode) (maxL := 3) (ret := (some .int)) (by decide) rfl ?_
  intro p e s m args below meth c s₁ B hml hv
  obtain ⟨rfl, hsz, hP, hK, hD0, hX⟩ := hv
  have hx := B.exec
  have hb := B.bytes
  have hr := B.returns
  have hts : ∀ w ∈ TB, w.before _ s = true := fun w h => atoms_spec (ws := ws_W_signCode) B.pre w (List.mem_cons_of_mem _ h)
  have hown : s.vm.findClass R_W = some m.cls := findClass_of_methodNamed B.named
  have hlocks := B.notSynchronized
  subst hsz
  have hD := hD0.self (sz := s.heap.size)
  generalize hAe : va_A (wd_W_signCode ad ck start fin kind oT oC size row) s.heap.size = A at hD hX ⊢
  have hA : ∀ q : Nat, s.heap.size ≤ q → A q := fun q h => by rw [← hAe]; exact Or.inr h
  have hS : va_S A s.heap s.heap [] := va_S.rf
  have hP : va_P (dC, dI) vwCl (wd_W_signCode ad ck start fin kind oT oC size row) s.heap := hP
  have hl := lv_entry ([.ref (ad 3)]) (n := 3) (Nat.le_of_ble_eq_true rfl)
  rw [lg_entry_eq]
  generalize (lg_sl ([.ref (ad 3)]) ++ List.replicate (3 - (lg_sl ([.ref (ad 3)])).length) Slot.unset).toArray = ls at hl ⊢
  have hl : lv_has ls 3 [(0, .ref (ad 3))] := hl
  have L_4 : ∀ (start : Int32) (fin : Int32) (kind : Int32) (oT : Int32) (oC : Int32) (size : Int32) (row : Nat → Int32) (n : Nat) (x1 : Int32) (x2 : Int32) (H : Heap) (locs : List Loc) (ls : Array Slot), w_W_signCode_4 post start fin kind oT oC size row n x1 x2 → va_P (dC, dI) vwCl (wd_W_signCode ad ck start fin kind oT oC size row) H → va_D A (wd_W_signCode ad ck start fin kind oT oC size row) → va_S A s.heap H locs → lv_has ls 3 [(0, .ref (ad 3)), (1, .int x1), (2, .int x2)] → W p l e (headSpec ws_W_signCode ({ frames := 1, cells := 0, slots := 0, locals := 21 } : Room)).room s m ([.ref (ad 3)] : List Value).toArray below meth c H locs 0 0 (k_Qi below (dC, dI) vwCl (TYm ck) A (fun (r : Int32) (u : Unit) => post r ) (fun (u : Unit) => wd_W_signCode ad ck start fin kind oT oC size row) ([.ref (ad 3)] : List Value).toArray s) (F0 m 4 ls []) := by
    intro start fin kind oT oC size row n
    induction n with
    | zero =>
      intro x1 x2 H locs ls hw
      exact False.elim hw
    | succ n ih =>
      intro x1 x2 H locs ls hw hP hD hS hl
      refine lv_iload_n hx hb d_W_signCode_4 rfl (lv_at hl 2 rfl) ?_
      refine lv_iconst (v := 3) hx hb d_W_signCode_5 (by decide) ?_
      obtain ⟨hwt, hwf⟩ := hw
      refine lv_icmp_ge (tgt := 49) hx hb d_W_signCode_6 (by decide) (fun c_1 => ?_) (fun c_1 => ?_)
      · have hw := hwt c_1
        refine lv_iload_n hx hb d_W_signCode_49 rfl (lv_at hl 1 rfl) ?_
        exact W.iret (v := x1) hx hb hr (fun t ht hW => ⟨⟨x1, (), rfl, hw, by rw [ht]; exact hP, va_K.moved hW.alike hK, hD⟩, hS.F ht⟩) hS.2.2 d_W_signCode_50
      · have hw := hwf c_1
        refine lv_aload_n hx hb d_W_signCode_9 rfl (lv_at hl 0 rfl) ?_
        refine va_get (D := (dC, dI)) (ci := 3) (v := .int start) (C := R_W) (T := T_W) (N := 6) hx hb hts in_W hown hK hP 0 rfl rfl 1 (by decide) (hts _ tw_11) (fun _ h9 => h9) rfl d_W_signCode_10 ?_
        refine lv_iload_n hx hb d_W_signCode_13 rfl (lv_at hl 2 rfl) ?_
        refine lv_iadd hx hb d_W_signCode_14 ?_
        refine lv_aload_n hx hb d_W_signCode_15 rfl (lv_at hl 0 rfl) ?_
        refine va_get (D := (dC, dI)) (ci := 3) (v := .int fin) (C := R_W) (T := T_W) (N := 6) hx hb hts in_W hown hK hP 0 rfl rfl 2 (by decide) (hts _ tw_3) (fun _ h9 => h9) rfl d_W_signCode_16 ?_
        obtain ⟨hwt, hwf⟩ := hw
        refine lv_icmp_ge (tgt := 49) hx hb d_W_signCode_19 (by decide) (fun c_2 => ?_) (fun c_2 => ?_)
        · have hw := hwt c_2
          refine lv_iload_n hx hb d_W_signCode_49 rfl (lv_at hl 1 rfl) ?_
          exact W.iret (v := x1) hx hb hr (fun t ht hW => ⟨⟨x1, (), rfl, hw, by rw [ht]; exact hP, va_K.moved hW.alike hK, hD⟩, hS.F ht⟩) hS.2.2 d_W_signCode_50
        · have hw := hwf c_2
          refine lv_iload_n hx hb d_W_signCode_22 rfl (lv_at hl 1 rfl) ?_
          refine lv_aload_n hx hb d_W_signCode_23 rfl (lv_at hl 0 rfl) ?_
          refine va_get (D := (dC, dI)) (ci := 3) (v := .ref (ad 1)) (C := R_W) (T := T_W) (N := 6) hx hb hts in_W hown hK hP 0 rfl rfl 0 (by decide) (hts _ tw_14) (fun _ h9 => h9) rfl d_W_signCode_24 ?_
          refine lv_aload_n hx hb d_W_signCode_27 rfl (lv_at hl 0 rfl) ?_
          refine va_get (D := (dC, dI)) (ci := 3) (v := .int start) (C := R_W) (T := T_W) (N := 6) hx hb hts in_W hown hK hP 0 rfl rfl 1 (by decide) (hts _ tw_11) (fun _ h9 => h9) rfl d_W_signCode_28 ?_
          refine lv_iload_n hx hb d_W_signCode_31 rfl (lv_at hl 2 rfl) ?_
          refine lv_iadd hx hb d_W_signCode_32 ?_
          refine k_callVi (As := [.int (start + x2)]) (rest := [.int x1]) (fun (u : Unit) => wd_W_signCode ad ck start fin kind oT oC size row) ⟨hx, hb, hml, hown, hts⟩ (kc_T_at l dC dI ad ck size row (start + x2) (hw := hw)) (cwV 1 hts (gV tw_15 tw_18 tw_19 tw_17 tw_16) rfl rfl rfl hd_T_at ⟨Nat.le_of_ble_eq_true rfl, Nat.le_of_ble_eq_true rfl⟩) hK hP hD hS hA k_x0c trivial [1, 2] [0] [0, 1, 2] rfl rfl (by decide) (by decide) (fun _ => rfl) (va_recv hK hP (ci := 2) (q0 := 1) rfl rfl) rfl hl.1 rfl (lv_room (Nat.le_of_ble_eq_true rfl)) d_W_signCode_33 ⟨Nat.zero_le _, Nat.zero_le _⟩ ?_
          intro r_3 u H locs hw hP hD hS
          have hP : va_P (dC, dI) vwCl (wd_W_signCode ad ck start fin kind oT oC size row) H := hP
          have hD : va_D A (wd_W_signCode ad ck start fin kind oT oC size row) := hD
          try dsimp only at hw
          refine lv_bipush (v := 8) hx hb d_W_signCode_36 (by decide) ?_
          refine lv_iload_n hx hb d_W_signCode_38 rfl (lv_at hl 2 rfl) ?_
          refine lv_imul hx hb d_W_signCode_39 ?_
          refine lv_ishl hx hb d_W_signCode_40 ?_
          refine lv_ior hx hb d_W_signCode_41 ?_
          refine lv_topi (fun x1_4 ex1_4 => ?_)
          have hw := hw x1_4 ex1_4
          refine lv_istore_n (lv' := [(1, .int x1_4), (0, .ref (ad 3)), (2, .int x2)]) hx hb d_W_signCode_42 rfl hl (by decide) rfl (fun ls hl => ?_)
          obtain ⟨x2_5, ex2_5⟩ : ∃ y : Int32, y = x2 + 1 := ⟨_, rfl⟩
          have hw := hw x2_5 ex2_5
          refine lv_iinc (v := x2_5) (lv' := [(2, .int x2_5), (1, .int x1_4), (0, .ref (ad 3))]) hx hb d_W_signCode_43 hl (k := 2) rfl (by rw [ex2_5]; rfl) (by decide) rfl (fun ls hl => ?_)
          refine lv_goto (tgt := 4) hx hb d_W_signCode_46 (by decide) ?_
          exact ih x1_4 x2_5 _ _ _ hw hP hD hS (lv_sub hl [2, 1, 0] rfl)
  refine lv_iconst (v := 0) hx hb d_W_signCode_0 (by decide) ?_
  refine lv_istore_n (lv' := [(1, .int 0), (0, .ref (ad 3))]) hx hb d_W_signCode_1 rfl hl (by decide) rfl (fun ls hl => ?_)
  refine lv_iconst (v := 0) hx hb d_W_signCode_2 (by decide) ?_
  refine lv_istore_n (lv' := [(2, .int 0), (1, .int 0), (0, .ref (ad 3))]) hx hb d_W_signCode_3 rfl hl (by decide) rfl (fun ls hl => ?_)
  obtain ⟨fu4, hw⟩ := hw
  exact L_4 start fin kind oT oC size row fu4 0 0 _ _ _ hw hP hD hS (lv_sub hl [2, 1, 0] rfl)

abbrev wd_W_closeOf (ad : Nat → Nat) (ck : Nat → ClassId) (start : Int32) (fin : Int32) (kind : Int32) (oT : Int32) (oC : Int32) (size : Int32) (row : Nat → Int32) : va_W := [(ad 3, .inr (3, [.ref (ad 1), .int start, .int fin, .int kind, .int oT, .int oC])), (ad 1, .inr (2, [.ref (ad 2), .int size])), (ad 2, .inl (ck 0, 4096, .inl row))]
def w_W_closeOf_27 (post : Int32 → Int32 → Int32 → Prop) (x2 : Int32) (start : Int32) (fin : Int32) (kind : Int32) (oT : Int32) (oC : Int32) (size : Int32) (row : Nat → Int32) : Nat → Int32 → Prop
  | 0 => fun _ => False
  | n + 1 => fun x3 => (size ≤ x3 → ((x2 = 34 → (post (-1) x3 oC)) ∧ (¬ x2 = 34 → (post (-1) oT x3)))) ∧ (¬ size ≤ x3 → (wp_T_at (fun (r_6 : Int32) => (r_6 = x2 → (post x3 oT oC)) ∧ (¬ r_6 = x2 → ((r_6 = 10 → ((x2 = 34 → (post (-1) x3 oC)) ∧ (¬ x2 = 34 → (post (-1) oT x3)))) ∧ (¬ r_6 = 10 → ((r_6 = 92 → (wp_T_at (fun (r_11 : Int32) => (r_11 = 10 → (∀ x3_13 : Int32, x3_13 = (x3 + 1) → (w_W_closeOf_27 post x2 start fin kind oT oC size row n x3_13))) ∧ (¬ r_11 = 10 → (∀ x3_14 : Int32, x3_14 = (x3 + 2) → (w_W_closeOf_27 post x2 start fin kind oT oC size row n x3_14)))) size row (x3 + 1))) ∧ (¬ r_6 = 92 → (∀ x3_10 : Int32, x3_10 = (x3 + 1) → (w_W_closeOf_27 post x2 start fin kind oT oC size row n x3_10)))))))) size row x3))
def wp_W_closeOf (post : Int32 → Int32 → Int32 → Prop) (start : Int32) (fin : Int32) (kind : Int32) (oT : Int32) (oC : Int32) (size : Int32) (row : Nat → Int32) (p0 : Int32) (p1 : Int32) : Prop := (p1 = 34 → ((oT ≤ p0 → (∀ x3_17 : Int32, x3_17 = (p0 + 1) → (∃ fu27 : Nat, w_W_closeOf_27 post p1 start fin kind oT oC size row fu27 x3_17))) ∧ (¬ oT ≤ p0 → (post (-1) oT oC)))) ∧ (¬ p1 = 34 → ((oC ≤ p0 → (∀ x3_3 : Int32, x3_3 = (p0 + 1) → (∃ fu27 : Nat, w_W_closeOf_27 post p1 start fin kind oT oC size row fu27 x3_3))) ∧ (¬ oC ≤ p0 → (post (-1) oT oC))))
set_option maxHeartbeats 4000000 in
set_option maxRecDepth 100000 in
theorem kc_W_closeOf (l : Launch) (dC : Nat → ClassId) (dI : Nat → Nat → Nat) (ad : Nat → Nat) (ck : Nat → ClassId) (sk : Nat → Nat) (start : Int32) (fin : Int32) (kind : Int32) (oT : Int32) (oC : Int32) (size : Int32) (row : Nat → Int32) (p0 : Int32) (p1 : Int32) {post : Int32 → Int32 → Int32 → Prop} (hw : wp_W_closeOf post start fin kind oT oC size row p0 p1) : k_Ci l y_W_closeOf ws_W_closeOf ({ frames := 1, cells := 0, slots := 0, locals := 21 } : Room) (dC, dI) vwCl (TYm ck) (XM sk) [.ref (ad 3), .int p0, .int p1] (wd_W_closeOf ad ck start fin kind oT oC size row) (fun (r : Int32) (u : Int32 × Int32) => post r u.1 u.2) (fun (u : Int32 × Int32) => wd_W_closeOf ad ck start fin kind u.1 u.2 size row) := by
  intro sz
  refine Met.ofW (cc := c_W_closeOf) (maxL := 5) (ret := (some .int)) (by decide) rfl ?_
  intro p e s m args below meth c s₁ B hml hv
  obtain ⟨rfl, hsz, hP, hK, hD0, hX⟩ := hv
  have hx := B.exec
  have hb := B.bytes
  have hr := B.returns
  have hts : ∀ w ∈ TB, w.before _ s = true := fun w h => atoms_spec (ws := ws_W_closeOf) B.pre w (List.mem_cons_of_mem _ h)
  have hown : s.vm.findClass R_W = some m.cls := findClass_of_methodNamed B.named
  have hlocks := B.notSynchronized
  subst hsz
  have hD := hD0.self (sz := s.heap.size)
  generalize hAe : va_A (wd_W_closeOf ad ck start fin kind oT oC size row) s.heap.size = A at hD hX ⊢
  have hA : ∀ q : Nat, s.heap.size ≤ q → A q := fun q h => by rw [← hAe]; exact Or.inr h
  have hS : va_S A s.heap s.heap [] := va_S.rf
  have hP : va_P (dC, dI) vwCl (wd_W_closeOf ad ck start fin kind oT oC size row) s.heap := hP
  have hl := lv_entry ([.ref (ad 3), .int p0, .int p1]) (n := 5) (Nat.le_of_ble_eq_true rfl)
  rw [lg_entry_eq]
  generalize (lg_sl ([.ref (ad 3), .int p0, .int p1]) ++ List.replicate (5 - (lg_sl ([.ref (ad 3), .int p0, .int p1])).length) Slot.unset).toArray = ls at hl ⊢
  have hl : lv_has ls 5 [(0, .ref (ad 3)), (1, .int p0), (2, .int p1)] := hl
  have L_27 : ∀ (x2 : Int32) (start : Int32) (fin : Int32) (kind : Int32) (oT : Int32) (oC : Int32) (size : Int32) (row : Nat → Int32) (n : Nat) (x3 : Int32) (H : Heap) (locs : List Loc) (ls : Array Slot), w_W_closeOf_27 post x2 start fin kind oT oC size row n x3 → va_P (dC, dI) vwCl (wd_W_closeOf ad ck start fin kind oT oC size row) H → va_D A (wd_W_closeOf ad ck start fin kind oT oC size row) → va_S A s.heap H locs → lv_has ls 5 [(0, .ref (ad 3)), (2, .int x2), (3, .int x3)] → W p l e (headSpec ws_W_closeOf ({ frames := 1, cells := 0, slots := 0, locals := 21 } : Room)).room s m ([.ref (ad 3), .int p0, .int p1] : List Value).toArray below meth c H locs 0 0 (k_Qi below (dC, dI) vwCl (TYm ck) A (fun (r : Int32) (u : Int32 × Int32) => post r u.1 u.2) (fun (u : Int32 × Int32) => wd_W_closeOf ad ck start fin kind u.1 u.2 size row) ([.ref (ad 3), .int p0, .int p1] : List Value).toArray s) (F0 m 27 ls []) := by
    intro x2 start fin kind oT oC size row n
    induction n with
    | zero =>
      intro x3 H locs ls hw
      exact False.elim hw
    | succ n ih =>
      intro x3 H locs ls hw hP hD hS hl
      refine lv_iload_n hx hb d_W_closeOf_27 rfl (lv_at hl 2 rfl) ?_
      refine lv_aload_n hx hb d_W_closeOf_28 rfl (lv_at hl 0 rfl) ?_
      refine va_get (D := (dC, dI)) (ci := 3) (v := .ref (ad 1)) (C := R_W) (T := T_W) (N := 6) hx hb hts in_W hown hK hP 0 rfl rfl 0 (by decide) (hts _ tw_14) (fun _ h9 => h9) rfl d_W_closeOf_29 ?_
      refine va_getN (D := (dC, dI)) (ci := 2) (v := .int size) (C := R_T) (T := T_T) (N := 2) hx hb hts in_T hown hK hP 1 rfl rfl 1 (by decide) (va_Nw.use rfl (hX.2.2.2 _ nw_0)) (fun _ h9 => h9) rfl d_W_closeOf_32 ?_
      obtain ⟨hwt, hwf⟩ := hw
      refine lv_icmp_ge (tgt := 99) hx hb d_W_closeOf_35 (by decide) (fun c_4 => ?_) (fun c_4 => ?_)
      · have hw := hwt c_4
        refine lv_iload_n hx hb d_W_closeOf_99 rfl (lv_at hl 1 rfl) ?_
        refine lv_bipush (v := 34) hx hb d_W_closeOf_100 (by decide) ?_
        obtain ⟨hwt, hwf⟩ := hw
        refine lv_icmp_ne (tgt := 113) hx hb d_W_closeOf_102 (by decide) (fun c_5 => ?_) (fun c_5 => ?_)
        · have hw := hwf c_5
          refine lv_aload_n hx hb d_W_closeOf_113 rfl (lv_at hl 0 rfl) ?_
          refine lv_iload_n hx hb d_W_closeOf_114 rfl (lv_at hl 2 rfl) ?_
          refine va_put (D := (dC, dI)) (ci := 3) (v := .int x3) (ty := .int) (C := R_W) (T := T_W) (N := 6) hx hb hts in_W ty_W ty_W_ok nm_W hown hK hP hD hS 0 rfl rfl 5 (by decide) (hts _ tw_13) (fun _ h9 => h9) rfl (by decide +kernel) rfl rfl (Nat.le_of_ble_eq_true rfl) d_W_closeOf_115 (fun H locs hP hD hS => ?_)
          have hP : va_P (dC, dI) vwCl (wd_W_closeOf ad ck start fin kind oT x3 size row) H := hP
          have hD : va_D A (wd_W_closeOf ad ck start fin kind oT x3 size row) := hD
          refine lv_iconst (v := (-1)) hx hb d_W_closeOf_118 (by decide) ?_
          exact W.iret (v := (-1)) hx hb hr (fun t ht hW => ⟨⟨(-1), (oT, x3), rfl, hw, by rw [ht]; exact hP, va_K.moved hW.alike hK, hD⟩, hS.F ht⟩) hS.2.2 d_W_closeOf_119
        · have hw := hwt c_5
          refine lv_aload_n hx hb d_W_closeOf_105 rfl (lv_at hl 0 rfl) ?_
          refine lv_iload_n hx hb d_W_closeOf_106 rfl (lv_at hl 2 rfl) ?_
          refine va_put (D := (dC, dI)) (ci := 3) (v := .int x3) (ty := .int) (C := R_W) (T := T_W) (N := 6) hx hb hts in_W ty_W ty_W_ok nm_W hown hK hP hD hS 0 rfl rfl 4 (by decide) (hts _ tw_12) (fun _ h9 => h9) rfl (by decide +kernel) rfl rfl (Nat.le_of_ble_eq_true rfl) d_W_closeOf_107 (fun H locs hP hD hS => ?_)
          have hP : va_P (dC, dI) vwCl (wd_W_closeOf ad ck start fin kind x3 oC size row) H := hP
          have hD : va_D A (wd_W_closeOf ad ck start fin kind x3 oC size row) := hD
          refine lv_goto (tgt := 118) hx hb d_W_closeOf_110 (by decide) ?_
          refine lv_iconst (v := (-1)) hx hb d_W_closeOf_118 (by decide) ?_
          exact W.iret (v := (-1)) hx hb hr (fun t ht hW => ⟨⟨(-1), (x3, oC), rfl, hw, by rw [ht]; exact hP, va_K.moved hW.alike hK, hD⟩, hS.F ht⟩) hS.2.2 d_W_closeOf_119
      · have hw := hwf c_4
        refine lv_aload_n hx hb d_W_closeOf_38 rfl (lv_at hl 0 rfl) ?_
        refine va_get (D := (dC, dI)) (ci := 3) (v := .ref (ad 1)) (C := R_W) (T := T_W) (N := 6) hx hb hts in_W hown hK hP 0 rfl rfl 0 (by decide) (hts _ tw_14) (fun _ h9 => h9) rfl d_W_closeOf_39 ?_
        refine lv_iload_n hx hb d_W_closeOf_42 rfl (lv_at hl 2 rfl) ?_
        refine k_callVi (As := [.int x3]) (rest := []) (fun (u : Unit) => wd_W_closeOf ad ck start fin kind oT oC size row) ⟨hx, hb, hml, hown, hts⟩ (kc_T_at l dC dI ad ck size row x3 (hw := hw)) (cwV 1 hts (gV tw_15 tw_18 tw_19 tw_17 tw_16) rfl rfl rfl hd_T_at ⟨Nat.le_of_ble_eq_true rfl, Nat.le_of_ble_eq_true rfl⟩) hK hP hD hS hA k_x0c trivial [1, 2] [0] [0, 1, 2] rfl rfl (by decide) (by decide) (fun _ => rfl) (va_recv hK hP (ci := 2) (q0 := 1) rfl rfl) rfl hl.1 rfl (lv_room (Nat.le_of_ble_eq_true rfl)) d_W_closeOf_43 ⟨Nat.zero_le _, Nat.zero_le _⟩ ?_
        intro r_6 u H locs hw hP hD hS
        have hP : va_P (dC, dI) vwCl (wd_W_closeOf ad ck start fin kind oT oC size row) H := hP
        have hD : va_D A (wd_W_closeOf ad ck start fin kind oT oC size row) := hD
        try dsimp only at hw
        refine lv_istore (lv' := [(4, .int r_6), (0, .ref (ad 3)), (2, .int x2), (3, .int x3)]) hx hb d_W_closeOf_46 hl (by decide) rfl (fun ls hl => ?_)
        refine lv_iload hx hb d_W_closeOf_48 (lv_at hl 0 rfl) ?_
        refine lv_iload_n hx hb d_W_closeOf_50 rfl (lv_at hl 2 rfl) ?_
        obtain ⟨hwt, hwf⟩ := hw
        refine lv_icmp_ne (tgt := 56) hx hb d_W_closeOf_51 (by decide) (fun c_7 => ?_) (fun c_7 => ?_)
        · have hw := hwf c_7
          refine lv_iload hx hb d_W_closeOf_56 (lv_at hl 0 rfl) ?_
          refine lv_bipush (v := 10) hx hb d_W_closeOf_58 (by decide) ?_
          obtain ⟨hwt, hwf⟩ := hw
          refine lv_icmp_ne (tgt := 66) hx hb d_W_closeOf_60 (by decide) (fun c_8 => ?_) (fun c_8 => ?_)
          · have hw := hwf c_8
            refine lv_iload_n hx hb d_W_closeOf_66 rfl (lv_at hl 3 rfl) ?_
            refine lv_iload hx hb d_W_closeOf_67 (lv_at hl 0 rfl) ?_
            refine lv_bipush (v := 92) hx hb d_W_closeOf_69 (by decide) ?_
            obtain ⟨hwt, hwf⟩ := hw
            refine lv_icmp_ne (tgt := 93) hx hb d_W_closeOf_71 (by decide) (fun c_9 => ?_) (fun c_9 => ?_)
            · have hw := hwf c_9
              refine lv_iconst (v := 1) hx hb d_W_closeOf_93 (by decide) ?_
              refine lv_iadd hx hb d_W_closeOf_94 ?_
              refine lv_topi (fun x3_10 ex3_10 => ?_)
              have hw := hw x3_10 ex3_10
              refine lv_istore_n (lv' := [(3, .int x3_10), (4, .int r_6), (0, .ref (ad 3)), (2, .int x2)]) hx hb d_W_closeOf_95 rfl hl (by decide) rfl (fun ls hl => ?_)
              refine lv_goto (tgt := 27) hx hb d_W_closeOf_96 (by decide) ?_
              exact ih x3_10 _ _ _ hw hP hD hS (lv_sub hl [2, 3, 0] rfl)
            · have hw := hwt c_9
              refine lv_aload_n hx hb d_W_closeOf_74 rfl (lv_at hl 1 rfl) ?_
              refine va_get (D := (dC, dI)) (ci := 3) (v := .ref (ad 1)) (C := R_W) (T := T_W) (N := 6) hx hb hts in_W hown hK hP 0 rfl rfl 0 (by decide) (hts _ tw_14) (fun _ h9 => h9) rfl d_W_closeOf_75 ?_
              refine lv_iload_n hx hb d_W_closeOf_78 rfl (lv_at hl 3 rfl) ?_
              refine lv_iconst (v := 1) hx hb d_W_closeOf_79 (by decide) ?_
              refine lv_iadd hx hb d_W_closeOf_80 ?_
              refine k_callVi (As := [.int (x3 + 1)]) (rest := [.int x3]) (fun (u : Unit) => wd_W_closeOf ad ck start fin kind oT oC size row) ⟨hx, hb, hml, hown, hts⟩ (kc_T_at l dC dI ad ck size row (x3 + 1) (hw := hw)) (cwV 1 hts (gV tw_15 tw_18 tw_19 tw_17 tw_16) rfl rfl rfl hd_T_at ⟨Nat.le_of_ble_eq_true rfl, Nat.le_of_ble_eq_true rfl⟩) hK hP hD hS hA k_x0c trivial [1, 2] [0] [0, 1, 2] rfl rfl (by decide) (by decide) (fun _ => rfl) (va_recv hK hP (ci := 2) (q0 := 1) rfl rfl) rfl hl.1 rfl (lv_room (Nat.le_of_ble_eq_true rfl)) d_W_closeOf_81 ⟨Nat.zero_le _, Nat.zero_le _⟩ ?_
              intro r_11 u H locs hw hP hD hS
              have hP : va_P (dC, dI) vwCl (wd_W_closeOf ad ck start fin kind oT oC size row) H := hP
              have hD : va_D A (wd_W_closeOf ad ck start fin kind oT oC size row) := hD
              try dsimp only at hw
              refine lv_bipush (v := 10) hx hb d_W_closeOf_84 (by decide) ?_
              obtain ⟨hwt, hwf⟩ := hw
              refine lv_icmp_eq (tgt := 93) hx hb d_W_closeOf_86 (by decide) (fun c_12 => ?_) (fun c_12 => ?_)
              · have hw := hwt c_12
                refine lv_iconst (v := 1) hx hb d_W_closeOf_93 (by decide) ?_
                refine lv_iadd hx hb d_W_closeOf_94 ?_
                refine lv_topi (fun x3_13 ex3_13 => ?_)
                have hw := hw x3_13 ex3_13
                refine lv_istore_n (lv' := [(3, .int x3_13), (4, .int r_6), (0, .ref (ad 3)), (2, .int x2)]) hx hb d_W_closeOf_95 rfl hl (by decide) rfl (fun ls hl => ?_)
                refine lv_goto (tgt := 27) hx hb d_W_closeOf_96 (by decide) ?_
                exact ih x3_13 _ _ _ hw hP hD hS (lv_sub hl [2, 3, 0] rfl)
              · have hw := hwf c_12
                refine lv_iconst (v := 2) hx hb d_W_closeOf_89 (by decide) ?_
                refine lv_goto (tgt := 94) hx hb d_W_closeOf_90 (by decide) ?_
                refine lv_iadd hx hb d_W_closeOf_94 ?_
                refine lv_topi (fun x3_14 ex3_14 => ?_)
                have hw := hw x3_14 ex3_14
                refine lv_istore_n (lv' := [(3, .int x3_14), (4, .int r_6), (0, .ref (ad 3)), (2, .int x2)]) hx hb d_W_closeOf_95 rfl hl (by decide) rfl (fun ls hl => ?_)
                refine lv_goto (tgt := 27) hx hb d_W_closeOf_96 (by decide) ?_
                exact ih x3_14 _ _ _ hw hP hD hS (lv_sub hl [2, 3, 0] rfl)
          · have hw := hwt c_8
            refine lv_goto (tgt := 99) hx hb d_W_closeOf_63 (by decide) ?_
            refine lv_iload_n hx hb d_W_closeOf_99 rfl (lv_at hl 2 rfl) ?_
            refine lv_bipush (v := 34) hx hb d_W_closeOf_100 (by decide) ?_
            obtain ⟨hwt, hwf⟩ := hw
            refine lv_icmp_ne (tgt := 113) hx hb d_W_closeOf_102 (by decide) (fun c_15 => ?_) (fun c_15 => ?_)
            · have hw := hwf c_15
              refine lv_aload_n hx hb d_W_closeOf_113 rfl (lv_at hl 1 rfl) ?_
              refine lv_iload_n hx hb d_W_closeOf_114 rfl (lv_at hl 3 rfl) ?_
              refine va_put (D := (dC, dI)) (ci := 3) (v := .int x3) (ty := .int) (C := R_W) (T := T_W) (N := 6) hx hb hts in_W ty_W ty_W_ok nm_W hown hK hP hD hS 0 rfl rfl 5 (by decide) (hts _ tw_13) (fun _ h9 => h9) rfl (by decide +kernel) rfl rfl (Nat.le_of_ble_eq_true rfl) d_W_closeOf_115 (fun H locs hP hD hS => ?_)
              have hP : va_P (dC, dI) vwCl (wd_W_closeOf ad ck start fin kind oT x3 size row) H := hP
              have hD : va_D A (wd_W_closeOf ad ck start fin kind oT x3 size row) := hD
              refine lv_iconst (v := (-1)) hx hb d_W_closeOf_118 (by decide) ?_
              exact W.iret (v := (-1)) hx hb hr (fun t ht hW => ⟨⟨(-1), (oT, x3), rfl, hw, by rw [ht]; exact hP, va_K.moved hW.alike hK, hD⟩, hS.F ht⟩) hS.2.2 d_W_closeOf_119
            · have hw := hwt c_15
              refine lv_aload_n hx hb d_W_closeOf_105 rfl (lv_at hl 1 rfl) ?_
              refine lv_iload_n hx hb d_W_closeOf_106 rfl (lv_at hl 3 rfl) ?_
              refine va_put (D := (dC, dI)) (ci := 3) (v := .int x3) (ty := .int) (C := R_W) (T := T_W) (N := 6) hx hb hts in_W ty_W ty_W_ok nm_W hown hK hP hD hS 0 rfl rfl 4 (by decide) (hts _ tw_12) (fun _ h9 => h9) rfl (by decide +kernel) rfl rfl (Nat.le_of_ble_eq_true rfl) d_W_closeOf_107 (fun H locs hP hD hS => ?_)
              have hP : va_P (dC, dI) vwCl (wd_W_closeOf ad ck start fin kind x3 oC size row) H := hP
              have hD : va_D A (wd_W_closeOf ad ck start fin kind x3 oC size row) := hD
              refine lv_goto (tgt := 118) hx hb d_W_closeOf_110 (by decide) ?_
              refine lv_iconst (v := (-1)) hx hb d_W_closeOf_118 (by decide) ?_
              exact W.iret (v := (-1)) hx hb hr (fun t ht hW => ⟨⟨(-1), (x3, oC), rfl, hw, by rw [ht]; exact hP, va_K.moved hW.alike hK, hD⟩, hS.F ht⟩) hS.2.2 d_W_closeOf_119
        · have hw := hwt c_7
          refine lv_iload_n hx hb d_W_closeOf_54 rfl (lv_at hl 3 rfl) ?_
          exact W.iret (v := x3) hx hb hr (fun t ht hW => ⟨⟨x3, (oT, oC), rfl, hw, by rw [ht]; exact hP, va_K.moved hW.alike hK, hD⟩, hS.F ht⟩) hS.2.2 d_W_closeOf_55
  refine lv_iload_n hx hb d_W_closeOf_0 rfl (lv_at hl 1 rfl) ?_
  refine lv_iload_n hx hb d_W_closeOf_1 rfl (lv_at hl 2 rfl) ?_
  refine lv_bipush (v := 34) hx hb d_W_closeOf_2 (by decide) ?_
  obtain ⟨hwt, hwf⟩ := hw
  refine lv_icmp_ne (tgt := 14) hx hb d_W_closeOf_4 (by decide) (fun c_1 => ?_) (fun c_1 => ?_)
  · have hw := hwf c_1
    refine lv_aload_n hx hb d_W_closeOf_14 rfl (lv_at hl 0 rfl) ?_
    refine va_get (D := (dC, dI)) (ci := 3) (v := .int oC) (C := R_W) (T := T_W) (N := 6) hx hb hts in_W hown hK hP 0 rfl rfl 5 (by decide) (hts _ tw_13) (fun _ h9 => h9) rfl d_W_closeOf_15 ?_
    obtain ⟨hwt, hwf⟩ := hw
    refine lv_icmp_ge (tgt := 23) hx hb d_W_closeOf_18 (by decide) (fun c_2 => ?_) (fun c_2 => ?_)
    · have hw := hwt c_2
      refine lv_iload_n hx hb d_W_closeOf_23 rfl (lv_at hl 1 rfl) ?_
      refine lv_iconst (v := 1) hx hb d_W_closeOf_24 (by decide) ?_
      refine lv_iadd hx hb d_W_closeOf_25 ?_
      refine lv_topi (fun x3_3 ex3_3 => ?_)
      have hw := hw x3_3 ex3_3
      refine lv_istore_n (lv' := [(3, .int x3_3), (0, .ref (ad 3)), (1, .int p0), (2, .int p1)]) hx hb d_W_closeOf_26 rfl hl (by decide) rfl (fun ls hl => ?_)
      obtain ⟨fu27, hw⟩ := hw
      exact L_27 p1 start fin kind oT oC size row fu27 x3_3 _ _ _ hw hP hD hS (lv_sub hl [1, 3, 0] rfl)
    · have hw := hwf c_2
      refine lv_iconst (v := (-1)) hx hb d_W_closeOf_21 (by decide) ?_
      exact W.iret (v := (-1)) hx hb hr (fun t ht hW => ⟨⟨(-1), (oT, oC), rfl, hw, by rw [ht]; exact hP, va_K.moved hW.alike hK, hD⟩, hS.F ht⟩) hS.2.2 d_W_closeOf_22
  · have hw := hwt c_1
    refine lv_aload_n hx hb d_W_closeOf_7 rfl (lv_at hl 0 rfl) ?_
    refine va_get (D := (dC, dI)) (ci := 3) (v := .int oT) (C := R_W) (T := T_W) (N := 6) hx hb hts in_W hown hK hP 0 rfl rfl 4 (by decide) (hts _ tw_12) (fun _ h9 => h9) rfl d_W_closeOf_8 ?_
    refine lv_goto (tgt := 18) hx hb d_W_closeOf_11 (by decide) ?_
    obtain ⟨hwt, hwf⟩ := hw
    refine lv_icmp_ge (tgt := 23) hx hb d_W_closeOf_18 (by decide) (fun c_16 => ?_) (fun c_16 => ?_)
    · have hw := hwt c_16
      refine lv_iload_n hx hb d_W_closeOf_23 rfl (lv_at hl 1 rfl) ?_
      refine lv_iconst (v := 1) hx hb d_W_closeOf_24 (by decide) ?_
      refine lv_iadd hx hb d_W_closeOf_25 ?_
      refine lv_topi (fun x3_17 ex3_17 => ?_)
      have hw := hw x3_17 ex3_17
      refine lv_istore_n (lv' := [(3, .int x3_17), (0, .ref (ad 3)), (1, .int p0), (2, .int p1)]) hx hb d_W_closeOf_26 rfl hl (by decide) rfl (fun ls hl => ?_)
      obtain ⟨fu27, hw⟩ := hw
      exact L_27 p1 start fin kind oT oC size row fu27 x3_17 _ _ _ hw hP hD hS (lv_sub hl [1, 3, 0] rfl)
    · have hw := hwf c_16
      refine lv_iconst (v := (-1)) hx hb d_W_closeOf_21 (by decide) ?_
      exact W.iret (v := (-1)) hx hb hr (fun t ht hW => ⟨⟨(-1), (oT, oC), rfl, hw, by rw [ht]; exact hP, va_K.moved hW.alike hK, hD⟩, hS.F ht⟩) hS.2.2 d_W_closeOf_22

abbrev wd_W_takeQuoted (ad : Nat → Nat) (ck : Nat → ClassId) (start : Int32) (fin : Int32) (kind : Int32) (oT : Int32) (oC : Int32) (size : Int32) (row : Nat → Int32) : va_W := [(ad 3, .inr (3, [.ref (ad 1), .int start, .int fin, .int kind, .int oT, .int oC])), (ad 1, .inr (2, [.ref (ad 2), .int size])), (ad 2, .inl (ck 0, 4096, .inl row))]
def w_W_takeQuoted_53 (post : Int32 → Int32 → Int32 → Int32 → Int32 → Prop) (x1 : Int32) (x2 : Int32) (start : Int32) (fin : Int32) (kind : Int32) (oT : Int32) (oC : Int32) (size : Int32) (row : Nat → Int32) : Prop := wp_W_closeOf (fun (r_5 : Int32) (oT_6 : Int32) (oC_7 : Int32) => (r_5 = (-1) → (post 0 fin kind oT_6 oC_7)) ∧ (¬ r_5 = (-1) → ((x2 = 34 → (wp_W_take (fun (fin_12 : Int32) (kind_13 : Int32) => post 1 fin_12 kind_13 oT_6 oC_7) start fin kind oT_6 oC_7 3 (r_5 + 1))) ∧ (¬ x2 = 34 → (wp_W_take (fun (fin_10 : Int32) (kind_11 : Int32) => post 1 fin_10 kind_11 oT_6 oC_7) start fin kind oT_6 oC_7 4 (r_5 + 1)))))) start fin kind oT oC size row x1 x2
def w_W_takeQuoted_29 (post : Int32 → Int32 → Int32 → Int32 → Int32 → Prop) (z0 : Int32) (start : Int32) (fin : Int32) (kind : Int32) (oT : Int32) (oC : Int32) (size : Int32) (row : Nat → Int32) : Prop := wp_T_at (fun (r_3 : Int32) => (r_3 = 34 → (w_W_takeQuoted_53 post z0 r_3 start fin kind oT oC size row)) ∧ (¬ r_3 = 34 → ((r_3 = 39 → (w_W_takeQuoted_53 post z0 r_3 start fin kind oT oC size row)) ∧ (¬ r_3 = 39 → (post 0 fin kind oT oC))))) size row z0
def wp_W_takeQuoted (post : Int32 → Int32 → Int32 → Int32 → Int32 → Prop) (start : Int32) (fin : Int32) (kind : Int32) (oT : Int32) (oC : Int32) (size : Int32) (row : Nat → Int32)  : Prop := wp_T_at (fun (r_1 : Int32) => (r_1 = 76 → (w_W_takeQuoted_29 post (start + 1) start fin kind oT oC size row)) ∧ (¬ r_1 = 76 → (w_W_takeQuoted_29 post start start fin kind oT oC size row))) size row start
set_option maxHeartbeats 4000000 in
set_option maxRecDepth 100000 in
theorem kc_W_takeQuoted (l : Launch) (dC : Nat → ClassId) (dI : Nat → Nat → Nat) (ad : Nat → Nat) (ck : Nat → ClassId) (sk : Nat → Nat) (start : Int32) (fin : Int32) (kind : Int32) (oT : Int32) (oC : Int32) (size : Int32) (row : Nat → Int32)  {post : Int32 → Int32 → Int32 → Int32 → Int32 → Prop} (hw : wp_W_takeQuoted post start fin kind oT oC size row ) : k_Ci l y_W_takeQuoted ws_W_takeQuoted ({ frames := 2, cells := 0, slots := 0, locals := 45 } : Room) (dC, dI) vwCl (TYm ck) (XM sk) [.ref (ad 3)] (wd_W_takeQuoted ad ck start fin kind oT oC size row) (fun (r : Int32) (u : Int32 × Int32 × Int32 × Int32) => post r u.1 u.2.1 u.2.2.1 u.2.2.2) (fun (u : Int32 × Int32 × Int32 × Int32) => wd_W_takeQuoted ad ck start u.1 u.2.1 u.2.2.1 u.2.2.2 size row) := by
  intro sz
  refine Met.ofW (cc := c_W_takeQuoted) (maxL := 4) (ret := (some .boolean)) (by decide) rfl ?_
  intro p e s m args below meth c s₁ B hml hv
  obtain ⟨rfl, hsz, hP, hK, hD0, hX⟩ := hv
  have hx := B.exec
  have hb := B.bytes
  have hr := B.returns
  have hts : ∀ w ∈ TB, w.before _ s = true := fun w h => atoms_spec (ws := ws_W_takeQuoted) B.pre w (List.mem_cons_of_mem _ h)
  have hown : s.vm.findClass R_W = some m.cls := findClass_of_methodNamed B.named
  have hlocks := B.notSynchronized
  subst hsz
  have hD := hD0.self (sz := s.heap.size)
  generalize hAe : va_A (wd_W_takeQuoted ad ck start fin kind oT oC size row) s.heap.size = A at hD hX ⊢
  have hA : ∀ q : Nat, s.heap.size ≤ q → A q := fun q h => by rw [← hAe]; exact Or.inr h
  have hS : va_S A s.heap s.heap [] := va_S.rf
  have hP : va_P (dC, dI) vwCl (wd_W_takeQuoted ad ck start fin kind oT oC size row) s.heap := hP
  have hl := lv_entry ([.ref (ad 3)]) (n := 4) (Nat.le_of_ble_eq_true rfl)
  rw [lg_entry_eq]
  generalize (lg_sl ([.ref (ad 3)]) ++ List.replicate (4 - (lg_sl ([.ref (ad 3)])).length) Slot.unset).toArray = ls at hl ⊢
  have hl : lv_has ls 4 [(0, .ref (ad 3))] := hl
  have L_53 : ∀ (x1 : Int32) (x2 : Int32) (start : Int32) (fin : Int32) (kind : Int32) (oT : Int32) (oC : Int32) (size : Int32) (row : Nat → Int32) (H : Heap) (locs : List Loc) (ls : Array Slot), w_W_takeQuoted_53 post x1 x2 start fin kind oT oC size row → va_P (dC, dI) vwCl (wd_W_takeQuoted ad ck start fin kind oT oC size row) H → va_D A (wd_W_takeQuoted ad ck start fin kind oT oC size row) → va_S A s.heap H locs → lv_has ls 4 [(0, .ref (ad 3)), (1, .int x1), (2, .int x2)] → W p l e (headSpec ws_W_takeQuoted ({ frames := 2, cells := 0, slots := 0, locals := 45 } : Room)).room s m ([.ref (ad 3)] : List Value).toArray below meth c H locs 0 0 (k_Qi below (dC, dI) vwCl (TYm ck) A (fun (r : Int32) (u : Int32 × Int32 × Int32 × Int32) => post r u.1 u.2.1 u.2.2.1 u.2.2.2) (fun (u : Int32 × Int32 × Int32 × Int32) => wd_W_takeQuoted ad ck start u.1 u.2.1 u.2.2.1 u.2.2.2 size row) ([.ref (ad 3)] : List Value).toArray s) (F0 m 53 ls []) := by
    intro x1 x2 start fin kind oT oC size row H locs ls hw hP hD hS hl
    refine lv_aload_n hx hb d_W_takeQuoted_53 rfl (lv_at hl 0 rfl) ?_
    refine lv_iload_n hx hb d_W_takeQuoted_54 rfl (lv_at hl 1 rfl) ?_
    refine lv_iload_n hx hb d_W_takeQuoted_55 rfl (lv_at hl 2 rfl) ?_
    refine k_callVi (As := [.int x1, .int x2]) (rest := []) (fun (u : Int32 × Int32) => wd_W_takeQuoted ad ck start fin kind u.1 u.2 size row) ⟨hx, hb, hml, hown, hts⟩ (kc_W_closeOf l dC dI ad ck sk start fin kind oT oC size row x1 x2 (hw := hw)) (cwV 2 hts (gV tw_20 tw_22 tw_23 tw_6 tw_21) rfl rfl rfl hd_W_closeOf ⟨Nat.le_of_ble_eq_true rfl, Nat.le_of_ble_eq_true rfl⟩) hK hP hD hS hA (XM_c sk) hX [0, 1, 2] [] [0, 1, 2] rfl rfl (by decide) (by decide) (fun _ => rfl) (va_recv hK hP (ci := 3) (q0 := 0) rfl rfl) rfl hl.1 rfl (lv_room (Nat.le_of_ble_eq_true rfl)) d_W_takeQuoted_56 ⟨Nat.zero_le _, Nat.zero_le _⟩ ?_
    intro r_5 u H locs hw hP hD hS
    obtain ⟨oT_6, oC_7⟩ := u
    have hP : va_P (dC, dI) vwCl (wd_W_takeQuoted ad ck start fin kind oT_6 oC_7 size row) H := hP
    have hD : va_D A (wd_W_takeQuoted ad ck start fin kind oT_6 oC_7 size row) := hD
    try dsimp only at hw
    refine lv_istore_n (lv' := [(3, .int r_5), (0, .ref (ad 3)), (1, .int x1), (2, .int x2)]) hx hb d_W_takeQuoted_59 rfl hl (by decide) rfl (fun ls hl => ?_)
    refine lv_iload_n hx hb d_W_takeQuoted_60 rfl (lv_at hl 0 rfl) ?_
    refine lv_iconst (v := (-1)) hx hb d_W_takeQuoted_61 (by decide) ?_
    obtain ⟨hwt, hwf⟩ := hw
    refine lv_icmp_ne (tgt := 67) hx hb d_W_takeQuoted_62 (by decide) (fun c_8 => ?_) (fun c_8 => ?_)
    · have hw := hwf c_8
      refine lv_aload_n hx hb d_W_takeQuoted_67 rfl (lv_at hl 1 rfl) ?_
      refine lv_iload_n hx hb d_W_takeQuoted_68 rfl (lv_at hl 3 rfl) ?_
      refine lv_bipush (v := 34) hx hb d_W_takeQuoted_69 (by decide) ?_
      obtain ⟨hwt, hwf⟩ := hw
      refine lv_icmp_ne (tgt := 78) hx hb d_W_takeQuoted_71 (by decide) (fun c_9 => ?_) (fun c_9 => ?_)
      · have hw := hwf c_9
        refine lv_iconst (v := 4) hx hb d_W_takeQuoted_78 (by decide) ?_
        refine lv_iload_n hx hb d_W_takeQuoted_79 rfl (lv_at hl 0 rfl) ?_
        refine lv_iconst (v := 1) hx hb d_W_takeQuoted_80 (by decide) ?_
        refine lv_iadd hx hb d_W_takeQuoted_81 ?_
        refine k_callVv (As := [.int 4, .int (r_5 + 1)]) (rest := []) (fun (u : Int32 × Int32) => wd_W_takeQuoted ad ck start u.1 u.2 oT_6 oC_7 size row) ⟨hx, hb, hml, hown, hts⟩ (kc_W_take l dC dI ad ck start fin kind oT_6 oC_7 4 (r_5 + 1) (hw := hw)) (cwV 2 hts (gV tw_24 tw_26 tw_27 tw_6 tw_25) rfl rfl rfl hd_W_take ⟨Nat.le_of_ble_eq_true rfl, Nat.le_of_ble_eq_true rfl⟩) hK hP hD hS hA k_x0c trivial [0] [1, 2] [2, 0, 1] rfl rfl (by decide) (by decide) (fun _ => rfl) (va_recv hK hP (ci := 3) (q0 := 0) rfl rfl) rfl hl.1 rfl (lv_room (Nat.le_of_ble_eq_true rfl)) d_W_takeQuoted_82 ⟨Nat.zero_le _, Nat.zero_le _⟩ ?_
        intro u H locs hw hP hD hS
        obtain ⟨fin_10, kind_11⟩ := u
        have hP : va_P (dC, dI) vwCl (wd_W_takeQuoted ad ck start fin_10 kind_11 oT_6 oC_7 size row) H := hP
        have hD : va_D A (wd_W_takeQuoted ad ck start fin_10 kind_11 oT_6 oC_7 size row) := hD
        try dsimp only at hw
        refine lv_iconst (v := 1) hx hb d_W_takeQuoted_85 (by decide) ?_
        exact W.zret (v := 1) hx hb hr (by decide) (fun t ht hW => ⟨⟨1, (fin_10, kind_11, oT_6, oC_7), rfl, hw, by rw [ht]; exact hP, va_K.moved hW.alike hK, hD⟩, hS.F ht⟩) hS.2.2 d_W_takeQuoted_86
      · have hw := hwt c_9
        refine lv_iconst (v := 3) hx hb d_W_takeQuoted_74 (by decide) ?_
        refine lv_goto (tgt := 79) hx hb d_W_takeQuoted_75 (by decide) ?_
        refine lv_iload_n hx hb d_W_takeQuoted_79 rfl (lv_at hl 0 rfl) ?_
        refine lv_iconst (v := 1) hx hb d_W_takeQuoted_80 (by decide) ?_
        refine lv_iadd hx hb d_W_takeQuoted_81 ?_
        refine k_callVv (As := [.int 3, .int (r_5 + 1)]) (rest := []) (fun (u : Int32 × Int32) => wd_W_takeQuoted ad ck start u.1 u.2 oT_6 oC_7 size row) ⟨hx, hb, hml, hown, hts⟩ (kc_W_take l dC dI ad ck start fin kind oT_6 oC_7 3 (r_5 + 1) (hw := hw)) (cwV 2 hts (gV tw_24 tw_26 tw_27 tw_6 tw_25) rfl rfl rfl hd_W_take ⟨Nat.le_of_ble_eq_true rfl, Nat.le_of_ble_eq_true rfl⟩) hK hP hD hS hA k_x0c trivial [0] [1, 2] [2, 0, 1] rfl rfl (by decide) (by decide) (fun _ => rfl) (va_recv hK hP (ci := 3) (q0 := 0) rfl rfl) rfl hl.1 rfl (lv_room (Nat.le_of_ble_eq_true rfl)) d_W_takeQuoted_82 ⟨Nat.zero_le _, Nat.zero_le _⟩ ?_
        intro u H locs hw hP hD hS
        obtain ⟨fin_12, kind_13⟩ := u
        have hP : va_P (dC, dI) vwCl (wd_W_takeQuoted ad ck start fin_12 kind_13 oT_6 oC_7 size row) H := hP
        have hD : va_D A (wd_W_takeQuoted ad ck start fin_12 kind_13 oT_6 oC_7 size row) := hD
        try dsimp only at hw
        refine lv_iconst (v := 1) hx hb d_W_takeQuoted_85 (by decide) ?_
        exact W.zret (v := 1) hx hb hr (by decide) (fun t ht hW => ⟨⟨1, (fin_12, kind_13, oT_6, oC_7), rfl, hw, by rw [ht]; exact hP, va_K.moved hW.alike hK, hD⟩, hS.F ht⟩) hS.2.2 d_W_takeQuoted_86
    · have hw := hwt c_8
      refine lv_iconst (v := 0) hx hb d_W_takeQuoted_65 (by decide) ?_
      exact W.zret (v := 0) hx hb hr (by decide) (fun t ht hW => ⟨⟨0, (fin, kind, oT_6, oC_7), rfl, hw, by rw [ht]; exact hP, va_K.moved hW.alike hK, hD⟩, hS.F ht⟩) hS.2.2 d_W_takeQuoted_66
  have L_29 : ∀ (z0 : Int32) (start : Int32) (fin : Int32) (kind : Int32) (oT : Int32) (oC : Int32) (size : Int32) (row : Nat → Int32) (H : Heap) (locs : List Loc) (ls : Array Slot), w_W_takeQuoted_29 post z0 start fin kind oT oC size row → va_P (dC, dI) vwCl (wd_W_takeQuoted ad ck start fin kind oT oC size row) H → va_D A (wd_W_takeQuoted ad ck start fin kind oT oC size row) → va_S A s.heap H locs → lv_has ls 4 [(0, .ref (ad 3))] → W p l e (headSpec ws_W_takeQuoted ({ frames := 2, cells := 0, slots := 0, locals := 45 } : Room)).room s m ([.ref (ad 3)] : List Value).toArray below meth c H locs 0 0 (k_Qi below (dC, dI) vwCl (TYm ck) A (fun (r : Int32) (u : Int32 × Int32 × Int32 × Int32) => post r u.1 u.2.1 u.2.2.1 u.2.2.2) (fun (u : Int32 × Int32 × Int32 × Int32) => wd_W_takeQuoted ad ck start u.1 u.2.1 u.2.2.1 u.2.2.2 size row) ([.ref (ad 3)] : List Value).toArray s) (F0 m 29 ls [.int z0]) := by
    intro z0 start fin kind oT oC size row H locs ls hw hP hD hS hl
    refine lv_istore_n (lv' := [(1, .int z0), (0, .ref (ad 3))]) hx hb d_W_takeQuoted_29 rfl hl (by decide) rfl (fun ls hl => ?_)
    refine lv_aload_n hx hb d_W_takeQuoted_30 rfl (lv_at hl 1 rfl) ?_
    refine va_get (D := (dC, dI)) (ci := 3) (v := .ref (ad 1)) (C := R_W) (T := T_W) (N := 6) hx hb hts in_W hown hK hP 0 rfl rfl 0 (by decide) (hts _ tw_14) (fun _ h9 => h9) rfl d_W_takeQuoted_31 ?_
    refine lv_iload_n hx hb d_W_takeQuoted_34 rfl (lv_at hl 0 rfl) ?_
    refine k_callVi (As := [.int z0]) (rest := []) (fun (u : Unit) => wd_W_takeQuoted ad ck start fin kind oT oC size row) ⟨hx, hb, hml, hown, hts⟩ (kc_T_at l dC dI ad ck size row z0 (hw := hw)) (cwV 1 hts (gV tw_15 tw_18 tw_19 tw_17 tw_16) rfl rfl rfl hd_T_at ⟨Nat.le_of_ble_eq_true rfl, Nat.le_of_ble_eq_true rfl⟩) hK hP hD hS hA k_x0c trivial [1, 2] [0] [0, 1, 2] rfl rfl (by decide) (by decide) (fun _ => rfl) (va_recv hK hP (ci := 2) (q0 := 1) rfl rfl) rfl hl.1 rfl (lv_room (Nat.le_of_ble_eq_true rfl)) d_W_takeQuoted_35 ⟨Nat.zero_le _, Nat.zero_le _⟩ ?_
    intro r_3 u H locs hw hP hD hS
    have hP : va_P (dC, dI) vwCl (wd_W_takeQuoted ad ck start fin kind oT oC size row) H := hP
    have hD : va_D A (wd_W_takeQuoted ad ck start fin kind oT oC size row) := hD
    try dsimp only at hw
    refine lv_istore_n (lv' := [(2, .int r_3), (1, .int z0), (0, .ref (ad 3))]) hx hb d_W_takeQuoted_38 rfl hl (by decide) rfl (fun ls hl => ?_)
    refine lv_iload_n hx hb d_W_takeQuoted_39 rfl (lv_at hl 0 rfl) ?_
    refine lv_bipush (v := 34) hx hb d_W_takeQuoted_40 (by decide) ?_
    obtain ⟨hwt, hwf⟩ := hw
    refine lv_icmp_eq (tgt := 53) hx hb d_W_takeQuoted_42 (by decide) (fun c_4 => ?_) (fun c_4 => ?_)
    · have hw := hwt c_4
      exact L_53 z0 r_3 start fin kind oT oC size row _ _ _ hw hP hD hS (lv_sub hl [2, 1, 0] rfl)
    · have hw := hwf c_4
      refine lv_iload_n hx hb d_W_takeQuoted_45 rfl (lv_at hl 0 rfl) ?_
      refine lv_bipush (v := 39) hx hb d_W_takeQuoted_46 (by decide) ?_
      obtain ⟨hwt, hwf⟩ := hw
      refine lv_icmp_eq (tgt := 53) hx hb d_W_takeQuoted_48 (by decide) (fun c_14 => ?_) (fun c_14 => ?_)
      · have hw := hwt c_14
        exact L_53 z0 r_3 start fin kind oT oC size row _ _ _ hw hP hD hS (lv_sub hl [2, 1, 0] rfl)
      · have hw := hwf c_14
        refine lv_iconst (v := 0) hx hb d_W_takeQuoted_51 (by decide) ?_
        exact W.zret (v := 0) hx hb hr (by decide) (fun t ht hW => ⟨⟨0, (fin, kind, oT, oC), rfl, hw, by rw [ht]; exact hP, va_K.moved hW.alike hK, hD⟩, hS.F ht⟩) hS.2.2 d_W_takeQuoted_52
  refine lv_aload_n hx hb d_W_takeQuoted_0 rfl (lv_at hl 0 rfl) ?_
  refine va_get (D := (dC, dI)) (ci := 3) (v := .ref (ad 1)) (C := R_W) (T := T_W) (N := 6) hx hb hts in_W hown hK hP 0 rfl rfl 0 (by decide) (hts _ tw_14) (fun _ h9 => h9) rfl d_W_takeQuoted_1 ?_
  refine lv_aload_n hx hb d_W_takeQuoted_4 rfl (lv_at hl 0 rfl) ?_
  refine va_get (D := (dC, dI)) (ci := 3) (v := .int start) (C := R_W) (T := T_W) (N := 6) hx hb hts in_W hown hK hP 0 rfl rfl 1 (by decide) (hts _ tw_11) (fun _ h9 => h9) rfl d_W_takeQuoted_5 ?_
  refine k_callVi (As := [.int start]) (rest := []) (fun (u : Unit) => wd_W_takeQuoted ad ck start fin kind oT oC size row) ⟨hx, hb, hml, hown, hts⟩ (kc_T_at l dC dI ad ck size row start (hw := hw)) (cwV 1 hts (gV tw_15 tw_18 tw_19 tw_17 tw_16) rfl rfl rfl hd_T_at ⟨Nat.le_of_ble_eq_true rfl, Nat.le_of_ble_eq_true rfl⟩) hK hP hD hS hA k_x0c trivial [1, 2] [0] [0, 1, 2] rfl rfl (by decide) (by decide) (fun _ => rfl) (va_recv hK hP (ci := 2) (q0 := 1) rfl rfl) rfl hl.1 rfl (lv_room (Nat.le_of_ble_eq_true rfl)) d_W_takeQuoted_8 ⟨Nat.zero_le _, Nat.zero_le _⟩ ?_
  intro r_1 u H locs hw hP hD hS
  have hP : va_P (dC, dI) vwCl (wd_W_takeQuoted ad ck start fin kind oT oC size row) H := hP
  have hD : va_D A (wd_W_takeQuoted ad ck start fin kind oT oC size row) := hD
  try dsimp only at hw
  refine lv_bipush (v := 76) hx hb d_W_takeQuoted_11 (by decide) ?_
  obtain ⟨hwt, hwf⟩ := hw
  refine lv_icmp_ne (tgt := 25) hx hb d_W_takeQuoted_13 (by decide) (fun c_2 => ?_) (fun c_2 => ?_)
  · have hw := hwf c_2
    refine lv_aload_n hx hb d_W_takeQuoted_25 rfl (lv_at hl 0 rfl) ?_
    refine va_get (D := (dC, dI)) (ci := 3) (v := .int start) (C := R_W) (T := T_W) (N := 6) hx hb hts in_W hown hK hP 0 rfl rfl 1 (by decide) (hts _ tw_11) (fun _ h9 => h9) rfl d_W_takeQuoted_26 ?_
    exact L_29 start start fin kind oT oC size row _ _ _ hw hP hD hS (lv_sub hl [0] rfl)
  · have hw := hwt c_2
    refine lv_aload_n hx hb d_W_takeQuoted_16 rfl (lv_at hl 0 rfl) ?_
    refine va_get (D := (dC, dI)) (ci := 3) (v := .int start) (C := R_W) (T := T_W) (N := 6) hx hb hts in_W hown hK hP 0 rfl rfl 1 (by decide) (hts _ tw_11) (fun _ h9 => h9) rfl d_W_takeQuoted_17 ?_
    refine lv_iconst (v := 1) hx hb d_W_takeQuoted_20 (by decide) ?_
    refine lv_iadd hx hb d_W_takeQuoted_21 ?_
    refine lv_goto (tgt := 29) hx hb d_W_takeQuoted_22 (by decide) ?_
    exact L_29 (start + 1) start fin kind oT oC size row _ _ _ hw hP hD hS (lv_sub hl [0] rfl)

abbrev wd_W_takeName (ad : Nat → Nat) (ck : Nat → ClassId) (start : Int32) (fin : Int32) (kind : Int32) (oT : Int32) (oC : Int32) (size : Int32) (row : Nat → Int32) : va_W := [(ad 3, .inr (3, [.ref (ad 1), .int start, .int fin, .int kind, .int oT, .int oC])), (ad 1, .inr (2, [.ref (ad 2), .int size])), (ad 2, .inl (ck 0, 4096, .inl row))]
def w_W_takeName_26 (post : Int32 → Int32 → Int32 → Prop) (start : Int32) (fin : Int32) (kind : Int32) (oT : Int32) (oC : Int32) (size : Int32) (row : Nat → Int32) : Nat → Int32 → Prop
  | 0 => fun _ => False
  | n + 1 => fun x1 => (size ≤ x1 → (wp_W_take (fun (fin_6 : Int32) (kind_7 : Int32) => post 1 fin_6 kind_7) start fin kind oT oC 1 x1)) ∧ (¬ size ≤ x1 → (wp_T_at (fun (r_8 : Int32) => wp_W_isLetter (fun (r_9 : Int32) => (r_9 = 0 → (wp_T_at (fun (r_12 : Int32) => wp_W_isDigit (fun (r_13 : Int32) => (r_13 = 0 → (wp_W_take (fun (fin_15 : Int32) (kind_16 : Int32) => post 1 fin_15 kind_16) start fin kind oT oC 1 x1)) ∧ (¬ r_13 = 0 → (∀ x1_17 : Int32, x1_17 = x1 + 1 → (w_W_takeName_26 post start fin kind oT oC size row n x1_17)))) r_12) size row x1)) ∧ (¬ r_9 = 0 → (∀ x1_11 : Int32, x1_11 = x1 + 1 → (w_W_takeName_26 post start fin kind oT oC size row n x1_11)))) r_8) size row x1))
def wp_W_takeName (post : Int32 → Int32 → Int32 → Prop) (start : Int32) (fin : Int32) (kind : Int32) (oT : Int32) (oC : Int32) (size : Int32) (row : Nat → Int32)  : Prop := wp_T_at (fun (r_1 : Int32) => wp_W_isLetter (fun (r_2 : Int32) => (r_2 = 0 → (post 0 fin kind)) ∧ (¬ r_2 = 0 → (∀ x1_4 : Int32, x1_4 = (start + 1) → (∃ fu26 : Nat, w_W_takeName_26 post start fin kind oT oC size row fu26 x1_4)))) r_1) size row start
set_option maxHeartbeats 4000000 in
set_option maxRecDepth 100000 in
theorem kc_W_takeName (l : Launch) (dC : Nat → ClassId) (dI : Nat → Nat → Nat) (ad : Nat → Nat) (ck : Nat → ClassId) (sk : Nat → Nat) (start : Int32) (fin : Int32) (kind : Int32) (oT : Int32) (oC : Int32) (size : Int32) (row : Nat → Int32)  {post : Int32 → Int32 → Int32 → Prop} (hw : wp_W_takeName post start fin kind oT oC size row ) : k_Ci l y_W_takeName ws_W_takeName ({ frames := 1, cells := 0, slots := 0, locals := 22 } : Room) (dC, dI) vwCl (TYm ck) (XM sk) [.ref (ad 3)] (wd_W_takeName ad ck start fin kind oT oC size row) (fun (r : Int32) (u : Int32 × Int32) => post r u.1 u.2) (fun (u : Int32 × Int32) => wd_W_takeName ad ck start u.1 u.2 oT oC size row) := by
  intro sz
  refine Met.ofW (cc := c_W_takeName) (maxL := 2) (ret := (some .boolean)) (by decide) rfl ?_
  intro p e s m args below meth c s₁ B hml hv
  obtain ⟨rfl, hsz, hP, hK, hD0, hX⟩ := hv
  have hx := B.exec
  have hb := B.bytes
  have hr := B.returns
  have hts : ∀ w ∈ TB, w.before _ s = true := fun w h => atoms_spec (ws := ws_W_takeName) B.pre w (List.mem_cons_of_mem _ h)
  have hown : s.vm.findClass R_W = some m.cls := findClass_of_methodNamed B.named
  have hlocks := B.notSynchronized
  subst hsz
  have hD := hD0.self (sz := s.heap.size)
  generalize hAe : va_A (wd_W_takeName ad ck start fin kind oT oC size row) s.heap.size = A at hD hX ⊢
  have hA : ∀ q : Nat, s.heap.size ≤ q → A q := fun q h => by rw [← hAe]; exact Or.inr h
  have hS : va_S A s.heap s.heap [] := va_S.rf
  have hP : va_P (dC, dI) vwCl (wd_W_takeName ad ck start fin kind oT oC size row) s.heap := hP
  have hl := lv_entry ([.ref (ad 3)]) (n := 2) (Nat.le_of_ble_eq_true rfl)
  rw [lg_entry_eq]
  generalize (lg_sl ([.ref (ad 3)]) ++ List.replicate (2 - (lg_sl ([.ref (ad 3)])).length) Slot.unset).toArray = ls at hl ⊢
  have hl : lv_has ls 2 [(0, .ref (ad 3))] := hl
  have L_26 : ∀ (start : Int32) (fin : Int32) (kind : Int32) (oT : Int32) (oC : Int32) (size : Int32) (row : Nat → Int32) (n : Nat) (x1 : Int32) (H : Heap) (locs : List Loc) (ls : Array Slot), w_W_takeName_26 post start fin kind oT oC size row n x1 → va_P (dC, dI) vwCl (wd_W_takeName ad ck start fin kind oT oC size row) H → va_D A (wd_W_takeName ad ck start fin kind oT oC size row) → va_S A s.heap H locs → lv_has ls 2 [(0, .ref (ad 3)), (1, .int x1)] → W p l e (headSpec ws_W_takeName ({ frames := 1, cells := 0, slots := 0, locals := 22 } : Room)).room s m ([.ref (ad 3)] : List Value).toArray below meth c H locs 0 0 (k_Qi below (dC, dI) vwCl (TYm ck) A (fun (r : Int32) (u : Int32 × Int32) => post r u.1 u.2) (fun (u : Int32 × Int32) => wd_W_takeName ad ck start u.1 u.2 oT oC size row) ([.ref (ad 3)] : List Value).toArray s) (F0 m 26 ls []) := by
    intro start fin kind oT oC size row n
    induction n with
    | zero =>
      intro x1 H locs ls hw
      exact False.elim hw
    | succ n ih =>
      intro x1 H locs ls hw hP hD hS hl
      refine lv_iload_n hx hb d_W_takeName_26 rfl (lv_at hl 1 rfl) ?_
      refine lv_aload_n hx hb d_W_takeName_27 rfl (lv_at hl 0 rfl) ?_
      refine va_get (D := (dC, dI)) (ci := 3) (v := .ref (ad 1)) (C := R_W) (T := T_W) (N := 6) hx hb hts in_W hown hK hP 0 rfl rfl 0 (by decide) (hts _ tw_14) (fun _ h9 => h9) rfl d_W_takeName_28 ?_
      refine va_getN (D := (dC, dI)) (ci := 2) (v := .int size) (C := R_T) (T := T_T) (N := 2) hx hb hts in_T hown hK hP 1 rfl rfl 1 (by decide) (va_Nw.use rfl (hX.2.2.2 _ nw_0)) (fun _ h9 => h9) rfl d_W_takeName_31 ?_
      obtain ⟨hwt, hwf⟩ := hw
      refine lv_icmp_ge (tgt := 71) hx hb d_W_takeName_34 (by decide) (fun c_5 => ?_) (fun c_5 => ?_)
      · have hw := hwt c_5
        refine lv_aload_n hx hb d_W_takeName_71 rfl (lv_at hl 0 rfl) ?_
        refine lv_iconst (v := 1) hx hb d_W_takeName_72 (by decide) ?_
        refine lv_iload_n hx hb d_W_takeName_73 rfl (lv_at hl 1 rfl) ?_
        refine k_callVv (As := [.int 1, .int x1]) (rest := []) (fun (u : Int32 × Int32) => wd_W_takeName ad ck start u.1 u.2 oT oC size row) ⟨hx, hb, hml, hown, hts⟩ (kc_W_take l dC dI ad ck start fin kind oT oC 1 x1 (hw := hw)) (cwV 2 hts (gV tw_24 tw_26 tw_27 tw_6 tw_25) rfl rfl rfl hd_W_take ⟨Nat.le_of_ble_eq_true rfl, Nat.le_of_ble_eq_true rfl⟩) hK hP hD hS hA k_x0c trivial [0] [1, 2] [2, 0, 1] rfl rfl (by decide) (by decide) (fun _ => rfl) (va_recv hK hP (ci := 3) (q0 := 0) rfl rfl) rfl hl.1 rfl (lv_room (Nat.le_of_ble_eq_true rfl)) d_W_takeName_74 ⟨Nat.zero_le _, Nat.zero_le _⟩ ?_
        intro u H locs hw hP hD hS
        obtain ⟨fin_6, kind_7⟩ := u
        have hP : va_P (dC, dI) vwCl (wd_W_takeName ad ck start fin_6 kind_7 oT oC size row) H := hP
        have hD : va_D A (wd_W_takeName ad ck start fin_6 kind_7 oT oC size row) := hD
        try dsimp only at hw
        refine lv_iconst (v := 1) hx hb d_W_takeName_77 (by decide) ?_
        exact W.zret (v := 1) hx hb hr (by decide) (fun t ht hW => ⟨⟨1, (fin_6, kind_7), rfl, hw, by rw [ht]; exact hP, va_K.moved hW.alike hK, hD⟩, hS.F ht⟩) hS.2.2 d_W_takeName_78
      · have hw := hwf c_5
        refine lv_aload_n hx hb d_W_takeName_37 rfl (lv_at hl 0 rfl) ?_
        refine va_get (D := (dC, dI)) (ci := 3) (v := .ref (ad 1)) (C := R_W) (T := T_W) (N := 6) hx hb hts in_W hown hK hP 0 rfl rfl 0 (by decide) (hts _ tw_14) (fun _ h9 => h9) rfl d_W_takeName_38 ?_
        refine lv_iload_n hx hb d_W_takeName_41 rfl (lv_at hl 1 rfl) ?_
        refine k_callVi (As := [.int x1]) (rest := []) (fun (u : Unit) => wd_W_takeName ad ck start fin kind oT oC size row) ⟨hx, hb, hml, hown, hts⟩ (kc_T_at l dC dI ad ck size row x1 (hw := hw)) (cwV 1 hts (gV tw_15 tw_18 tw_19 tw_17 tw_16) rfl rfl rfl hd_T_at ⟨Nat.le_of_ble_eq_true rfl, Nat.le_of_ble_eq_true rfl⟩) hK hP hD hS hA k_x0c trivial [1, 2] [0] [0, 1, 2] rfl rfl (by decide) (by decide) (fun _ => rfl) (va_recv hK hP (ci := 2) (q0 := 1) rfl rfl) rfl hl.1 rfl (lv_room (Nat.le_of_ble_eq_true rfl)) d_W_takeName_42 ⟨Nat.zero_le _, Nat.zero_le _⟩ ?_
        intro r_8 u H locs hw hP hD hS
        have hP : va_P (dC, dI) vwCl (wd_W_takeName ad ck start fin kind oT oC size row) H := hP
        have hD : va_D A (wd_W_takeName ad ck start fin kind oT oC size row) := hD
        try dsimp only at hw
        refine k_callSi (As := [.int r_8]) (rest := []) (fun (u : Unit) => wd_W_takeName ad ck start fin kind oT oC size row) ⟨hx, hb, hml, hown, hts⟩ (kc_W_isLetter l dC dI ad ck r_8 (hw := hw)) (va_cwS 1 hts (gS tw_8 tw_10 tw_6 tw_9) rfl rfl rfl hd_W_isLetter ⟨Nat.le_of_ble_eq_true rfl, Nat.le_of_ble_eq_true rfl⟩) hK hP hD hS hA k_x0c trivial [] [0, 1, 2] [0, 1, 2] rfl rfl (by decide) (by decide) (fun _ => rfl) rfl hl.1 rfl (lv_room (Nat.le_of_ble_eq_true rfl)) d_W_takeName_45 ⟨Nat.zero_le _, Nat.zero_le _⟩ ?_
        intro r_9 u H locs hw hP hD hS
        have hP : va_P (dC, dI) vwCl (wd_W_takeName ad ck start fin kind oT oC size row) H := hP
        have hD : va_D A (wd_W_takeName ad ck start fin kind oT oC size row) := hD
        try dsimp only at hw
        obtain ⟨hwt, hwf⟩ := hw
        refine lv_if_ne (tgt := 65) hx hb d_W_takeName_48 (by decide) (fun c_10 => ?_) (fun c_10 => ?_)
        · have hw := hwf c_10
          obtain ⟨x1_11, ex1_11⟩ : ∃ y : Int32, y = x1 + 1 := ⟨_, rfl⟩
          have hw := hw x1_11 ex1_11
          refine lv_iinc (v := x1_11) (lv' := [(1, .int x1_11), (0, .ref (ad 3))]) hx hb d_W_takeName_65 hl (k := 1) rfl (by rw [ex1_11]; rfl) (by decide) rfl (fun ls hl => ?_)
          refine lv_goto (tgt := 26) hx hb d_W_takeName_68 (by decide) ?_
          exact ih x1_11 _ _ _ hw hP hD hS (lv_sub hl [1, 0] rfl)
        · have hw := hwt c_10
          refine lv_aload_n hx hb d_W_takeName_51 rfl (lv_at hl 0 rfl) ?_
          refine va_get (D := (dC, dI)) (ci := 3) (v := .ref (ad 1)) (C := R_W) (T := T_W) (N := 6) hx hb hts in_W hown hK hP 0 rfl rfl 0 (by decide) (hts _ tw_14) (fun _ h9 => h9) rfl d_W_takeName_52 ?_
          refine lv_iload_n hx hb d_W_takeName_55 rfl (lv_at hl 1 rfl) ?_
          refine k_callVi (As := [.int x1]) (rest := []) (fun (u : Unit) => wd_W_takeName ad ck start fin kind oT oC size row) ⟨hx, hb, hml, hown, hts⟩ (kc_T_at l dC dI ad ck size row x1 (hw := hw)) (cwV 1 hts (gV tw_15 tw_18 tw_19 tw_17 tw_16) rfl rfl rfl hd_T_at ⟨Nat.le_of_ble_eq_true rfl, Nat.le_of_ble_eq_true rfl⟩) hK hP hD hS hA k_x0c trivial [1, 2] [0] [0, 1, 2] rfl rfl (by decide) (by decide) (fun _ => rfl) (va_recv hK hP (ci := 2) (q0 := 1) rfl rfl) rfl hl.1 rfl (lv_room (Nat.le_of_ble_eq_true rfl)) d_W_takeName_56 ⟨Nat.zero_le _, Nat.zero_le _⟩ ?_
          intro r_12 u H locs hw hP hD hS
          have hP : va_P (dC, dI) vwCl (wd_W_takeName ad ck start fin kind oT oC size row) H := hP
          have hD : va_D A (wd_W_takeName ad ck start fin kind oT oC size row) := hD
          try dsimp only at hw
          refine k_callSi (As := [.int r_12]) (rest := []) (fun (u : Unit) => wd_W_takeName ad ck start fin kind oT oC size row) ⟨hx, hb, hml, hown, hts⟩ (kc_W_isDigit l dC dI ad ck r_12 (hw := hw)) (va_cwS 1 hts (gS tw_4 tw_7 tw_6 tw_5) rfl rfl rfl hd_W_isDigit ⟨Nat.le_of_ble_eq_true rfl, Nat.le_of_ble_eq_true rfl⟩) hK hP hD hS hA k_x0c trivial [] [0, 1, 2] [0, 1, 2] rfl rfl (by decide) (by decide) (fun _ => rfl) rfl hl.1 rfl (lv_room (Nat.le_of_ble_eq_true rfl)) d_W_takeName_59 ⟨Nat.zero_le _, Nat.zero_le _⟩ ?_
          intro r_13 u H locs hw hP hD hS
          have hP : va_P (dC, dI) vwCl (wd_W_takeName ad ck start fin kind oT oC size row) H := hP
          have hD : va_D A (wd_W_takeName ad ck start fin kind oT oC size row) := hD
          try dsimp only at hw
          obtain ⟨hwt, hwf⟩ := hw
          refine lv_if_eq (tgt := 71) hx hb d_W_takeName_62 (by decide) (fun c_14 => ?_) (fun c_14 => ?_)
          · have hw := hwt c_14
            refine lv_aload_n hx hb d_W_takeName_71 rfl (lv_at hl 0 rfl) ?_
            refine lv_iconst (v := 1) hx hb d_W_takeName_72 (by decide) ?_
            refine lv_iload_n hx hb d_W_takeName_73 rfl (lv_at hl 1 rfl) ?_
            refine k_callVv (As := [.int 1, .int x1]) (rest := []) (fun (u : Int32 × Int32) => wd_W_takeName ad ck start u.1 u.2 oT oC size row) ⟨hx, hb, hml, hown, hts⟩ (kc_W_take l dC dI ad ck start fin kind oT oC 1 x1 (hw := hw)) (cwV 2 hts (gV tw_24 tw_26 tw_27 tw_6 tw_25) rfl rfl rfl hd_W_take ⟨Nat.le_of_ble_eq_true rfl, Nat.le_of_ble_eq_true rfl⟩) hK hP hD hS hA k_x0c trivial [0] [1, 2] [2, 0, 1] rfl rfl (by decide) (by decide) (fun _ => rfl) (va_recv hK hP (ci := 3) (q0 := 0) rfl rfl) rfl hl.1 rfl (lv_room (Nat.le_of_ble_eq_true rfl)) d_W_takeName_74 ⟨Nat.zero_le _, Nat.zero_le _⟩ ?_
            intro u H locs hw hP hD hS
            obtain ⟨fin_15, kind_16⟩ := u
            have hP : va_P (dC, dI) vwCl (wd_W_takeName ad ck start fin_15 kind_16 oT oC size row) H := hP
            have hD : va_D A (wd_W_takeName ad ck start fin_15 kind_16 oT oC size row) := hD
            try dsimp only at hw
            refine lv_iconst (v := 1) hx hb d_W_takeName_77 (by decide) ?_
            exact W.zret (v := 1) hx hb hr (by decide) (fun t ht hW => ⟨⟨1, (fin_15, kind_16), rfl, hw, by rw [ht]; exact hP, va_K.moved hW.alike hK, hD⟩, hS.F ht⟩) hS.2.2 d_W_takeName_78
          · have hw := hwf c_14
            obtain ⟨x1_17, ex1_17⟩ : ∃ y : Int32, y = x1 + 1 := ⟨_, rfl⟩
            have hw := hw x1_17 ex1_17
            refine lv_iinc (v := x1_17) (lv' := [(1, .int x1_17), (0, .ref (ad 3))]) hx hb d_W_takeName_65 hl (k := 1) rfl (by rw [ex1_17]; rfl) (by decide) rfl (fun ls hl => ?_)
            refine lv_goto (tgt := 26) hx hb d_W_takeName_68 (by decide) ?_
            exact ih x1_17 _ _ _ hw hP hD hS (lv_sub hl [1, 0] rfl)
  refine lv_aload_n hx hb d_W_takeName_0 rfl (lv_at hl 0 rfl) ?_
  refine va_get (D := (dC, dI)) (ci := 3) (v := .ref (ad 1)) (C := R_W) (T := T_W) (N := 6) hx hb hts in_W hown hK hP 0 rfl rfl 0 (by decide) (hts _ tw_14) (fun _ h9 => h9) rfl d_W_takeName_1 ?_
  refine lv_aload_n hx hb d_W_takeName_4 rfl (lv_at hl 0 rfl) ?_
  refine va_get (D := (dC, dI)) (ci := 3) (v := .int start) (C := R_W) (T := T_W) (N := 6) hx hb hts in_W hown hK hP 0 rfl rfl 1 (by decide) (hts _ tw_11) (fun _ h9 => h9) rfl d_W_takeName_5 ?_
  refine k_callVi (As := [.int start]) (rest := []) (fun (u : Unit) => wd_W_takeName ad ck start fin kind oT oC size row) ⟨hx, hb, hml, hown, hts⟩ (kc_T_at l dC dI ad ck size row start (hw := hw)) (cwV 1 hts (gV tw_15 tw_18 tw_19 tw_17 tw_16) rfl rfl rfl hd_T_at ⟨Nat.le_of_ble_eq_true rfl, Nat.le_of_ble_eq_true rfl⟩) hK hP hD hS hA k_x0c trivial [1, 2] [0] [0, 1, 2] rfl rfl (by decide) (by decide) (fun _ => rfl) (va_recv hK hP (ci := 2) (q0 := 1) rfl rfl) rfl hl.1 rfl (lv_room (Nat.le_of_ble_eq_true rfl)) d_W_takeName_8 ⟨Nat.zero_le _, Nat.zero_le _⟩ ?_
  intro r_1 u H locs hw hP hD hS
  have hP : va_P (dC, dI) vwCl (wd_W_takeName ad ck start fin kind oT oC size row) H := hP
  have hD : va_D A (wd_W_takeName ad ck start fin kind oT oC size row) := hD
  try dsimp only at hw
  refine k_callSi (As := [.int r_1]) (rest := []) (fun (u : Unit) => wd_W_takeName ad ck start fin kind oT oC size row) ⟨hx, hb, hml, hown, hts⟩ (kc_W_isLetter l dC dI ad ck r_1 (hw := hw)) (va_cwS 1 hts (gS tw_8 tw_10 tw_6 tw_9) rfl rfl rfl hd_W_isLetter ⟨Nat.le_of_ble_eq_true rfl, Nat.le_of_ble_eq_true rfl⟩) hK hP hD hS hA k_x0c trivial [] [0, 1, 2] [0, 1, 2] rfl rfl (by decide) (by decide) (fun _ => rfl) rfl hl.1 rfl (lv_room (Nat.le_of_ble_eq_true rfl)) d_W_takeName_11 ⟨Nat.zero_le _, Nat.zero_le _⟩ ?_
  intro r_2 u H locs hw hP hD hS
  have hP : va_P (dC, dI) vwCl (wd_W_takeName ad ck start fin kind oT oC size row) H := hP
  have hD : va_D A (wd_W_takeName ad ck start fin kind oT oC size row) := hD
  try dsimp only at hw
  obtain ⟨hwt, hwf⟩ := hw
  refine lv_if_ne (tgt := 19) hx hb d_W_takeName_14 (by decide) (fun c_3 => ?_) (fun c_3 => ?_)
  · have hw := hwf c_3
    refine lv_aload_n hx hb d_W_takeName_19 rfl (lv_at hl 0 rfl) ?_
    refine va_get (D := (dC, dI)) (ci := 3) (v := .int start) (C := R_W) (T := T_W) (N := 6) hx hb hts in_W hown hK hP 0 rfl rfl 1 (by decide) (hts _ tw_11) (fun _ h9 => h9) rfl d_W_takeName_20 ?_
    refine lv_iconst (v := 1) hx hb d_W_takeName_23 (by decide) ?_
    refine lv_iadd hx hb d_W_takeName_24 ?_
    refine lv_topi (fun x1_4 ex1_4 => ?_)
    have hw := hw x1_4 ex1_4
    refine lv_istore_n (lv' := [(1, .int x1_4), (0, .ref (ad 3))]) hx hb d_W_takeName_25 rfl hl (by decide) rfl (fun ls hl => ?_)
    obtain ⟨fu26, hw⟩ := hw
    exact L_26 start fin kind oT oC size row fu26 x1_4 _ _ _ hw hP hD hS (lv_sub hl [1, 0] rfl)
  · have hw := hwt c_3
    refine lv_iconst (v := 0) hx hb d_W_takeName_17 (by decide) ?_
    exact W.zret (v := 0) hx hb hr (by decide) (fun t ht hW => ⟨⟨0, (fin, kind), rfl, hw, by rw [ht]; exact hP, va_K.moved hW.alike hK, hD⟩, hS.F ht⟩) hS.2.2 d_W_takeName_18

abbrev wd_W_takeNumber (ad : Nat → Nat) (ck : Nat → ClassId) (start : Int32) (fin : Int32) (kind : Int32) (oT : Int32) (oC : Int32) (size : Int32) (row : Nat → Int32) : va_W := [(ad 3, .inr (3, [.ref (ad 1), .int start, .int fin, .int kind, .int oT, .int oC])), (ad 1, .inr (2, [.ref (ad 2), .int size])), (ad 2, .inl (ck 0, 4096, .inl row))]
def w_W_takeNumber_53 (post : Int32 → Int32 → Int32 → Prop) (start : Int32) (fin : Int32) (kind : Int32) (oT : Int32) (oC : Int32) (size : Int32) (row : Nat → Int32) : Nat → Int32 → Prop
  | 0 => fun _ => False
  | n + 1 => fun x2 => (size ≤ x2 → (wp_W_take (fun (fin_6 : Int32) (kind_7 : Int32) => post 1 fin_6 kind_7) start fin kind oT oC 2 x2)) ∧ (¬ size ≤ x2 → (wp_T_at (fun (r_8 : Int32) => wp_T_at (fun (r_9 : Int32) => wp_W_goesOnNumber (fun (r_10 : Int32) => (r_10 = 0 → (wp_W_take (fun (fin_12 : Int32) (kind_13 : Int32) => post 1 fin_12 kind_13) start fin kind oT oC 2 x2)) ∧ (¬ r_10 = 0 → (∀ x2_14 : Int32, x2_14 = x2 + 1 → (w_W_takeNumber_53 post start fin kind oT oC size row n x2_14)))) r_8 r_9) size row x2) size row (x2 - 1)))
def wp_W_takeNumber (post : Int32 → Int32 → Int32 → Prop) (start : Int32) (fin : Int32) (kind : Int32) (oT : Int32) (oC : Int32) (size : Int32) (row : Nat → Int32)  : Prop := wp_T_at (fun (r_1 : Int32) => wp_W_isDigit (fun (r_2 : Int32) => (r_2 = 0 → ((r_1 = 46 → (wp_T_at (fun (r_16 : Int32) => wp_W_isDigit (fun (r_17 : Int32) => (r_17 = 0 → (post 0 fin kind)) ∧ (¬ r_17 = 0 → (∀ x2_19 : Int32, x2_19 = (start + 1) → (∃ fu53 : Nat, w_W_takeNumber_53 post start fin kind oT oC size row fu53 x2_19)))) r_16) size row (start + 1))) ∧ (¬ r_1 = 46 → (post 0 fin kind)))) ∧ (¬ r_2 = 0 → (∀ x2_4 : Int32, x2_4 = (start + 1) → (∃ fu53 : Nat, w_W_takeNumber_53 post start fin kind oT oC size row fu53 x2_4)))) r_1) size row start
set_option maxHeartbeats 4000000 in
set_option maxRecDepth 100000 in
theorem kc_W_takeNumber (l : Launch) (dC : Nat → ClassId) (dI : Nat → Nat → Nat) (ad : Nat → Nat) (ck : Nat → ClassId) (sk : Nat → Nat) (start : Int32) (fin : Int32) (kind : Int32) (oT : Int32) (oC : Int32) (size : Int32) (row : Nat → Int32)  {post : Int32 → Int32 → Int32 → Prop} (hw : wp_W_takeNumber post start fin kind oT oC size row ) : k_Ci l y_W_takeNumber ws_W_takeNumber ({ frames := 2, cells := 0, slots := 0, locals := 41 } : Room) (dC, dI) vwCl (TYm ck) (XM sk) [.ref (ad 3)] (wd_W_takeNumber ad ck start fin kind oT oC size row) (fun (r : Int32) (u : Int32 × Int32) => post r u.1 u.2) (fun (u : Int32 × Int32) => wd_W_takeNumber ad ck start u.1 u.2 oT oC size row) := by
  intro sz
  refine Met.ofW (cc := c_W_takeNumber) (maxL := 3) (ret := (some .boolean)) (by decide) rfl ?_
  intro p e s m args below meth c s₁ B hml hv
  obtain ⟨rfl, hsz, hP, hK, hD0, hX⟩ := hv
  have hx := B.exec
  have hb := B.bytes
  have hr := B.returns
  have hts : ∀ w ∈ TB, w.before _ s = true := fun w h => atoms_spec (ws := ws_W_takeNumber) B.pre w (List.mem_cons_of_mem _ h)
  have hown : s.vm.findClass R_W = some m.cls := findClass_of_methodNamed B.named
  have hlocks := B.notSynchronized
  subst hsz
  have hD := hD0.self (sz := s.heap.size)
  generalize hAe : va_A (wd_W_takeNumber ad ck start fin kind oT oC size row) s.heap.size = A at hD hX ⊢
  have hA : ∀ q : Nat, s.heap.size ≤ q → A q := fun q h => by rw [← hAe]; exact Or.inr h
  have hS : va_S A s.heap s.heap [] := va_S.rf
  have hP : va_P (dC, dI) vwCl (wd_W_takeNumber ad ck start fin kind oT oC size row) s.heap := hP
  have hl := lv_entry ([.ref (ad 3)]) (n := 3) (Nat.le_of_ble_eq_true rfl)
  rw [lg_entry_eq]
  generalize (lg_sl ([.ref (ad 3)]) ++ List.replicate (3 - (lg_sl ([.ref (ad 3)])).length) Slot.unset).toArray = ls at hl ⊢
  have hl : lv_has ls 3 [(0, .ref (ad 3))] := hl
  have L_53 : ∀ (start : Int32) (fin : Int32) (kind : Int32) (oT : Int32) (oC : Int32) (size : Int32) (row : Nat → Int32) (n : Nat) (x2 : Int32) (H : Heap) (locs : List Loc) (ls : Array Slot), w_W_takeNumber_53 post start fin kind oT oC size row n x2 → va_P (dC, dI) vwCl (wd_W_takeNumber ad ck start fin kind oT oC size row) H → va_D A (wd_W_takeNumber ad ck start fin kind oT oC size row) → va_S A s.heap H locs → lv_has ls 3 [(0, .ref (ad 3)), (2, .int x2)] → W p l e (headSpec ws_W_takeNumber ({ frames := 2, cells := 0, slots := 0, locals := 41 } : Room)).room s m ([.ref (ad 3)] : List Value).toArray below meth c H locs 0 0 (k_Qi below (dC, dI) vwCl (TYm ck) A (fun (r : Int32) (u : Int32 × Int32) => post r u.1 u.2) (fun (u : Int32 × Int32) => wd_W_takeNumber ad ck start u.1 u.2 oT oC size row) ([.ref (ad 3)] : List Value).toArray s) (F0 m 53 ls []) := by
    intro start fin kind oT oC size row n
    induction n with
    | zero =>
      intro x2 H locs ls hw
      exact False.elim hw
    | succ n ih =>
      intro x2 H locs ls hw hP hD hS hl
      refine lv_iload_n hx hb d_W_takeNumber_53 rfl (lv_at hl 1 rfl) ?_
      refine lv_aload_n hx hb d_W_takeNumber_54 rfl (lv_at hl 0 rfl) ?_
      refine va_get (D := (dC, dI)) (ci := 3) (v := .ref (ad 1)) (C := R_W) (T := T_W) (N := 6) hx hb hts in_W hown hK hP 0 rfl rfl 0 (by decide) (hts _ tw_14) (fun _ h9 => h9) rfl d_W_takeNumber_55 ?_
      refine va_getN (D := (dC, dI)) (ci := 2) (v := .int size) (C := R_T) (T := T_T) (N := 2) hx hb hts in_T hown hK hP 1 rfl rfl 1 (by decide) (va_Nw.use rfl (hX.2.2.2 _ nw_0)) (fun _ h9 => h9) rfl d_W_takeNumber_58 ?_
      obtain ⟨hwt, hwf⟩ := hw
      refine lv_icmp_ge (tgt := 94) hx hb d_W_takeNumber_61 (by decide) (fun c_5 => ?_) (fun c_5 => ?_)
      · have hw := hwt c_5
        refine lv_aload_n hx hb d_W_takeNumber_94 rfl (lv_at hl 0 rfl) ?_
        refine lv_iconst (v := 2) hx hb d_W_takeNumber_95 (by decide) ?_
        refine lv_iload_n hx hb d_W_takeNumber_96 rfl (lv_at hl 1 rfl) ?_
        refine k_callVv (As := [.int 2, .int x2]) (rest := []) (fun (u : Int32 × Int32) => wd_W_takeNumber ad ck start u.1 u.2 oT oC size row) ⟨hx, hb, hml, hown, hts⟩ (kc_W_take l dC dI ad ck start fin kind oT oC 2 x2 (hw := hw)) (cwV 2 hts (gV tw_24 tw_26 tw_27 tw_6 tw_25) rfl rfl rfl hd_W_take ⟨Nat.le_of_ble_eq_true rfl, Nat.le_of_ble_eq_true rfl⟩) hK hP hD hS hA k_x0c trivial [0] [1, 2] [2, 0, 1] rfl rfl (by decide) (by decide) (fun _ => rfl) (va_recv hK hP (ci := 3) (q0 := 0) rfl rfl) rfl hl.1 rfl (lv_room (Nat.le_of_ble_eq_true rfl)) d_W_takeNumber_97 ⟨Nat.zero_le _, Nat.zero_le _⟩ ?_
        intro u H locs hw hP hD hS
        obtain ⟨fin_6, kind_7⟩ := u
        have hP : va_P (dC, dI) vwCl (wd_W_takeNumber ad ck start fin_6 kind_7 oT oC size row) H := hP
        have hD : va_D A (wd_W_takeNumber ad ck start fin_6 kind_7 oT oC size row) := hD
        try dsimp only at hw
        refine lv_iconst (v := 1) hx hb d_W_takeNumber_100 (by decide) ?_
        exact W.zret (v := 1) hx hb hr (by decide) (fun t ht hW => ⟨⟨1, (fin_6, kind_7), rfl, hw, by rw [ht]; exact hP, va_K.moved hW.alike hK, hD⟩, hS.F ht⟩) hS.2.2 d_W_takeNumber_101
      · have hw := hwf c_5
        refine lv_aload_n hx hb d_W_takeNumber_64 rfl (lv_at hl 0 rfl) ?_
        refine va_get (D := (dC, dI)) (ci := 3) (v := .ref (ad 1)) (C := R_W) (T := T_W) (N := 6) hx hb hts in_W hown hK hP 0 rfl rfl 0 (by decide) (hts _ tw_14) (fun _ h9 => h9) rfl d_W_takeNumber_65 ?_
        refine lv_iload_n hx hb d_W_takeNumber_68 rfl (lv_at hl 1 rfl) ?_
        refine lv_iconst (v := 1) hx hb d_W_takeNumber_69 (by decide) ?_
        refine lv_isub hx hb d_W_takeNumber_70 ?_
        refine k_callVi (As := [.int (x2 - 1)]) (rest := []) (fun (u : Unit) => wd_W_takeNumber ad ck start fin kind oT oC size row) ⟨hx, hb, hml, hown, hts⟩ (kc_T_at l dC dI ad ck size row (x2 - 1) (hw := hw)) (cwV 1 hts (gV tw_15 tw_18 tw_19 tw_17 tw_16) rfl rfl rfl hd_T_at ⟨Nat.le_of_ble_eq_true rfl, Nat.le_of_ble_eq_true rfl⟩) hK hP hD hS hA k_x0c trivial [1, 2] [0] [0, 1, 2] rfl rfl (by decide) (by decide) (fun _ => rfl) (va_recv hK hP (ci := 2) (q0 := 1) rfl rfl) rfl hl.1 rfl (lv_room (Nat.le_of_ble_eq_true rfl)) d_W_takeNumber_71 ⟨Nat.zero_le _, Nat.zero_le _⟩ ?_
        intro r_8 u H locs hw hP hD hS
        have hP : va_P (dC, dI) vwCl (wd_W_takeNumber ad ck start fin kind oT oC size row) H := hP
        have hD : va_D A (wd_W_takeNumber ad ck start fin kind oT oC size row) := hD
        try dsimp only at hw
        refine lv_aload_n hx hb d_W_takeNumber_74 rfl (lv_at hl 0 rfl) ?_
        refine va_get (D := (dC, dI)) (ci := 3) (v := .ref (ad 1)) (C := R_W) (T := T_W) (N := 6) hx hb hts in_W hown hK hP 0 rfl rfl 0 (by decide) (hts _ tw_14) (fun _ h9 => h9) rfl d_W_takeNumber_75 ?_
        refine lv_iload_n hx hb d_W_takeNumber_78 rfl (lv_at hl 1 rfl) ?_
        refine k_callVi (As := [.int x2]) (rest := [.int r_8]) (fun (u : Unit) => wd_W_takeNumber ad ck start fin kind oT oC size row) ⟨hx, hb, hml, hown, hts⟩ (kc_T_at l dC dI ad ck size row x2 (hw := hw)) (cwV 1 hts (gV tw_15 tw_18 tw_19 tw_17 tw_16) rfl rfl rfl hd_T_at ⟨Nat.le_of_ble_eq_true rfl, Nat.le_of_ble_eq_true rfl⟩) hK hP hD hS hA k_x0c trivial [1, 2] [0] [0, 1, 2] rfl rfl (by decide) (by decide) (fun _ => rfl) (va_recv hK hP (ci := 2) (q0 := 1) rfl rfl) rfl hl.1 rfl (lv_room (Nat.le_of_ble_eq_true rfl)) d_W_takeNumber_79 ⟨Nat.zero_le _, Nat.zero_le _⟩ ?_
        intro r_9 u H locs hw hP hD hS
        have hP : va_P (dC, dI) vwCl (wd_W_takeNumber ad ck start fin kind oT oC size row) H := hP
        have hD : va_D A (wd_W_takeNumber ad ck start fin kind oT oC size row) := hD
        try dsimp only at hw
        refine k_callSi (As := [.int r_8, .int r_9]) (rest := []) (fun (u : Unit) => wd_W_takeNumber ad ck start fin kind oT oC size row) ⟨hx, hb, hml, hown, hts⟩ (kc_W_goesOnNumber l dC dI ad ck r_8 r_9 (hw := hw)) (va_cwS 2 hts (gS tw_28 tw_30 tw_6 tw_29) rfl rfl rfl hd_W_goesOnNumber ⟨Nat.le_of_ble_eq_true rfl, Nat.le_of_ble_eq_true rfl⟩) hK hP hD hS hA k_x0c trivial [] [0, 1, 2] [0, 1, 2] rfl rfl (by decide) (by decide) (fun _ => rfl) rfl hl.1 rfl (lv_room (Nat.le_of_ble_eq_true rfl)) d_W_takeNumber_82 ⟨Nat.zero_le _, Nat.zero_le _⟩ ?_
        intro r_10 u H locs hw hP hD hS
        have hP : va_P (dC, dI) vwCl (wd_W_takeNumber ad ck start fin kind oT oC size row) H := hP
        have hD : va_D A (wd_W_takeNumber ad ck start fin kind oT oC size row) := hD
        try dsimp only at hw
        obtain ⟨hwt, hwf⟩ := hw
        refine lv_if_eq (tgt := 94) hx hb d_W_takeNumber_85 (by decide) (fun c_11 => ?_) (fun c_11 => ?_)
        · have hw := hwt c_11
          refine lv_aload_n hx hb d_W_takeNumber_94 rfl (lv_at hl 0 rfl) ?_
          refine lv_iconst (v := 2) hx hb d_W_takeNumber_95 (by decide) ?_
          refine lv_iload_n hx hb d_W_takeNumber_96 rfl (lv_at hl 1 rfl) ?_
          refine k_callVv (As := [.int 2, .int x2]) (rest := []) (fun (u : Int32 × Int32) => wd_W_takeNumber ad ck start u.1 u.2 oT oC size row) ⟨hx, hb, hml, hown, hts⟩ (kc_W_take l dC dI ad ck start fin kind oT oC 2 x2 (hw := hw)) (cwV 2 hts (gV tw_24 tw_26 tw_27 tw_6 tw_25) rfl rfl rfl hd_W_take ⟨Nat.le_of_ble_eq_true rfl, Nat.le_of_ble_eq_true rfl⟩) hK hP hD hS hA k_x0c trivial [0] [1, 2] [2, 0, 1] rfl rfl (by decide) (by decide) (fun _ => rfl) (va_recv hK hP (ci := 3) (q0 := 0) rfl rfl) rfl hl.1 rfl (lv_room (Nat.le_of_ble_eq_true rfl)) d_W_takeNumber_97 ⟨Nat.zero_le _, Nat.zero_le _⟩ ?_
          intro u H locs hw hP hD hS
          obtain ⟨fin_12, kind_13⟩ := u
          have hP : va_P (dC, dI) vwCl (wd_W_takeNumber ad ck start fin_12 kind_13 oT oC size row) H := hP
          have hD : va_D A (wd_W_takeNumber ad ck start fin_12 kind_13 oT oC size row) := hD
          try dsimp only at hw
          refine lv_iconst (v := 1) hx hb d_W_takeNumber_100 (by decide) ?_
          exact W.zret (v := 1) hx hb hr (by decide) (fun t ht hW => ⟨⟨1, (fin_12, kind_13), rfl, hw, by rw [ht]; exact hP, va_K.moved hW.alike hK, hD⟩, hS.F ht⟩) hS.2.2 d_W_takeNumber_101
        · have hw := hwf c_11
          obtain ⟨x2_14, ex2_14⟩ : ∃ y : Int32, y = x2 + 1 := ⟨_, rfl⟩
          have hw := hw x2_14 ex2_14
          refine lv_iinc (v := x2_14) (lv' := [(2, .int x2_14), (0, .ref (ad 3))]) hx hb d_W_takeNumber_88 hl (k := 1) rfl (by rw [ex2_14]; rfl) (by decide) rfl (fun ls hl => ?_)
          refine lv_goto (tgt := 53) hx hb d_W_takeNumber_91 (by decide) ?_
          exact ih x2_14 _ _ _ hw hP hD hS (lv_sub hl [1, 0] rfl)
  refine lv_aload_n hx hb d_W_takeNumber_0 rfl (lv_at hl 0 rfl) ?_
  refine va_get (D := (dC, dI)) (ci := 3) (v := .ref (ad 1)) (C := R_W) (T := T_W) (N := 6) hx hb hts in_W hown hK hP 0 rfl rfl 0 (by decide) (hts _ tw_14) (fun _ h9 => h9) rfl d_W_takeNumber_1 ?_
  refine lv_aload_n hx hb d_W_takeNumber_4 rfl (lv_at hl 0 rfl) ?_
  refine va_get (D := (dC, dI)) (ci := 3) (v := .int start) (C := R_W) (T := T_W) (N := 6) hx hb hts in_W hown hK hP 0 rfl rfl 1 (by decide) (hts _ tw_11) (fun _ h9 => h9) rfl d_W_takeNumber_5 ?_
  refine k_callVi (As := [.int start]) (rest := []) (fun (u : Unit) => wd_W_takeNumber ad ck start fin kind oT oC size row) ⟨hx, hb, hml, hown, hts⟩ (kc_T_at l dC dI ad ck size row start (hw := hw)) (cwV 1 hts (gV tw_15 tw_18 tw_19 tw_17 tw_16) rfl rfl rfl hd_T_at ⟨Nat.le_of_ble_eq_true rfl, Nat.le_of_ble_eq_true rfl⟩) hK hP hD hS hA k_x0c trivial [1, 2] [0] [0, 1, 2] rfl rfl (by decide) (by decide) (fun _ => rfl) (va_recv hK hP (ci := 2) (q0 := 1) rfl rfl) rfl hl.1 rfl (lv_room (Nat.le_of_ble_eq_true rfl)) d_W_takeNumber_8 ⟨Nat.zero_le _, Nat.zero_le _⟩ ?_
  intro r_1 u H locs hw hP hD hS
  have hP : va_P (dC, dI) vwCl (wd_W_takeNumber ad ck start fin kind oT oC size row) H := hP
  have hD : va_D A (wd_W_takeNumber ad ck start fin kind oT oC size row) := hD
  try dsimp only at hw
  refine lv_istore_n (lv' := [(1, .int r_1), (0, .ref (ad 3))]) hx hb d_W_takeNumber_11 rfl hl (by decide) rfl (fun ls hl => ?_)
  refine lv_iload_n hx hb d_W_takeNumber_12 rfl (lv_at hl 0 rfl) ?_
  refine k_callSi (As := [.int r_1]) (rest := []) (fun (u : Unit) => wd_W_takeNumber ad ck start fin kind oT oC size row) ⟨hx, hb, hml, hown, hts⟩ (kc_W_isDigit l dC dI ad ck r_1 (hw := hw)) (va_cwS 1 hts (gS tw_4 tw_7 tw_6 tw_5) rfl rfl rfl hd_W_isDigit ⟨Nat.le_of_ble_eq_true rfl, Nat.le_of_ble_eq_true rfl⟩) hK hP hD hS hA k_x0c trivial [] [0, 1, 2] [0, 1, 2] rfl rfl (by decide) (by decide) (fun _ => rfl) rfl hl.1 rfl (lv_room (Nat.le_of_ble_eq_true rfl)) d_W_takeNumber_13 ⟨Nat.zero_le _, Nat.zero_le _⟩ ?_
  intro r_2 u H locs hw hP hD hS
  have hP : va_P (dC, dI) vwCl (wd_W_takeNumber ad ck start fin kind oT oC size row) H := hP
  have hD : va_D A (wd_W_takeNumber ad ck start fin kind oT oC size row) := hD
  try dsimp only at hw
  obtain ⟨hwt, hwf⟩ := hw
  refine lv_if_ne (tgt := 46) hx hb d_W_takeNumber_16 (by decide) (fun c_3 => ?_) (fun c_3 => ?_)
  · have hw := hwf c_3
    refine lv_aload_n hx hb d_W_takeNumber_46 rfl (lv_at hl 1 rfl) ?_
    refine va_get (D := (dC, dI)) (ci := 3) (v := .int start) (C := R_W) (T := T_W) (N := 6) hx hb hts in_W hown hK hP 0 rfl rfl 1 (by decide) (hts _ tw_11) (fun _ h9 => h9) rfl d_W_takeNumber_47 ?_
    refine lv_iconst (v := 1) hx hb d_W_takeNumber_50 (by decide) ?_
    refine lv_iadd hx hb d_W_takeNumber_51 ?_
    refine lv_topi (fun x2_4 ex2_4 => ?_)
    have hw := hw x2_4 ex2_4
    refine lv_istore_n (lv' := [(2, .int x2_4), (1, .int r_1), (0, .ref (ad 3))]) hx hb d_W_takeNumber_52 rfl hl (by decide) rfl (fun ls hl => ?_)
    obtain ⟨fu53, hw⟩ := hw
    exact L_53 start fin kind oT oC size row fu53 x2_4 _ _ _ hw hP hD hS (lv_sub hl [2, 0] rfl)
  · have hw := hwt c_3
    refine lv_iload_n hx hb d_W_takeNumber_19 rfl (lv_at hl 0 rfl) ?_
    refine lv_bipush (v := 46) hx hb d_W_takeNumber_20 (by decide) ?_
    obtain ⟨hwt, hwf⟩ := hw
    refine lv_icmp_ne (tgt := 44) hx hb d_W_takeNumber_22 (by decide) (fun c_15 => ?_) (fun c_15 => ?_)
    · have hw := hwf c_15
      refine lv_iconst (v := 0) hx hb d_W_takeNumber_44 (by decide) ?_
      exact W.zret (v := 0) hx hb hr (by decide) (fun t ht hW => ⟨⟨0, (fin, kind), rfl, hw, by rw [ht]; exact hP, va_K.moved hW.alike hK, hD⟩, hS.F ht⟩) hS.2.2 d_W_takeNumber_45
    · have hw := hwt c_15
      refine lv_aload_n hx hb d_W_takeNumber_25 rfl (lv_at hl 1 rfl) ?_
      refine va_get (D := (dC, dI)) (ci := 3) (v := .ref (ad 1)) (C := R_W) (T := T_W) (N := 6) hx hb hts in_W hown hK hP 0 rfl rfl 0 (by decide) (hts _ tw_14) (fun _ h9 => h9) rfl d_W_takeNumber_26 ?_
      refine lv_aload_n hx hb d_W_takeNumber_29 rfl (lv_at hl 1 rfl) ?_
      refine va_get (D := (dC, dI)) (ci := 3) (v := .int start) (C := R_W) (T := T_W) (N := 6) hx hb hts in_W hown hK hP 0 rfl rfl 1 (by decide) (hts _ tw_11) (fun _ h9 => h9) rfl d_W_takeNumber_30 ?_
      refine lv_iconst (v := 1) hx hb d_W_takeNumber_33 (by decide) ?_
      refine lv_iadd hx hb d_W_takeNumber_34 ?_
      refine k_callVi (As := [.int (start + 1)]) (rest := []) (fun (u : Unit) => wd_W_takeNumber ad ck start fin kind oT oC size row) ⟨hx, hb, hml, hown, hts⟩ (kc_T_at l dC dI ad ck size row (start + 1) (hw := hw)) (cwV 1 hts (gV tw_15 tw_18 tw_19 tw_17 tw_16) rfl rfl rfl hd_T_at ⟨Nat.le_of_ble_eq_true rfl, Nat.le_of_ble_eq_true rfl⟩) hK hP hD hS hA k_x0c trivial [1, 2] [0] [0, 1, 2] rfl rfl (by decide) (by decide) (fun _ => rfl) (va_recv hK hP (ci := 2) (q0 := 1) rfl rfl) rfl hl.1 rfl (lv_room (Nat.le_of_ble_eq_true rfl)) d_W_takeNumber_35 ⟨Nat.zero_le _, Nat.zero_le _⟩ ?_
      intro r_16 u H locs hw hP hD hS
      have hP : va_P (dC, dI) vwCl (wd_W_takeNumber ad ck start fin kind oT oC size row) H := hP
      have hD : va_D A (wd_W_takeNumber ad ck start fin kind oT oC size row) := hD
      try dsimp only at hw
      refine k_callSi (As := [.int r_16]) (rest := []) (fun (u : Unit) => wd_W_takeNumber ad ck start fin kind oT oC size row) ⟨hx, hb, hml, hown, hts⟩ (kc_W_isDigit l dC dI ad ck r_16 (hw := hw)) (va_cwS 1 hts (gS tw_4 tw_7 tw_6 tw_5) rfl rfl rfl hd_W_isDigit ⟨Nat.le_of_ble_eq_true rfl, Nat.le_of_ble_eq_true rfl⟩) hK hP hD hS hA k_x0c trivial [] [0, 1, 2] [0, 1, 2] rfl rfl (by decide) (by decide) (fun _ => rfl) rfl hl.1 rfl (lv_room (Nat.le_of_ble_eq_true rfl)) d_W_takeNumber_38 ⟨Nat.zero_le _, Nat.zero_le _⟩ ?_
      intro r_17 u H locs hw hP hD hS
      have hP : va_P (dC, dI) vwCl (wd_W_takeNumber ad ck start fin kind oT oC size row) H := hP
      have hD : va_D A (wd_W_takeNumber ad ck start fin kind oT oC size row) := hD
      try dsimp only at hw
      obtain ⟨hwt, hwf⟩ := hw
      refine lv_if_ne (tgt := 46) hx hb d_W_takeNumber_41 (by decide) (fun c_18 => ?_) (fun c_18 => ?_)
      · have hw := hwf c_18
        refine lv_aload_n hx hb d_W_takeNumber_46 rfl (lv_at hl 1 rfl) ?_
        refine va_get (D := (dC, dI)) (ci := 3) (v := .int start) (C := R_W) (T := T_W) (N := 6) hx hb hts in_W hown hK hP 0 rfl rfl 1 (by decide) (hts _ tw_11) (fun _ h9 => h9) rfl d_W_takeNumber_47 ?_
        refine lv_iconst (v := 1) hx hb d_W_takeNumber_50 (by decide) ?_
        refine lv_iadd hx hb d_W_takeNumber_51 ?_
        refine lv_topi (fun x2_19 ex2_19 => ?_)
        have hw := hw x2_19 ex2_19
        refine lv_istore_n (lv' := [(2, .int x2_19), (1, .int r_1), (0, .ref (ad 3))]) hx hb d_W_takeNumber_52 rfl hl (by decide) rfl (fun ls hl => ?_)
        obtain ⟨fu53, hw⟩ := hw
        exact L_53 start fin kind oT oC size row fu53 x2_19 _ _ _ hw hP hD hS (lv_sub hl [2, 0] rfl)
      · have hw := hwt c_18
        refine lv_iconst (v := 0) hx hb d_W_takeNumber_44 (by decide) ?_
        exact W.zret (v := 0) hx hb hr (by decide) (fun t ht hW => ⟨⟨0, (fin, kind), rfl, hw, by rw [ht]; exact hP, va_K.moved hW.alike hK, hD⟩, hS.F ht⟩) hS.2.2 d_W_takeNumber_45
