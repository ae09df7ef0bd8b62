abbrev wd_R_reckon (ad : Nat → Nat) (ck : Nat → ClassId) (rsize : Int32) (rval : Int64) (risP : Int32) (cnt : Int32) (look : Int32) (bad : Int32) (byZ : Int32) (inr : Int32) (rpl : Int32) (hld : Int32) (store : Nat → Int32) (tAt : Nat → Int32) (tSz : Nat → Int32) (hSg : Nat → Int32) (hVl : Nat → Int64) (hPl : Nat → Int32) : va_W := [(ad 11, .inr (5, [.int rsize, .ref (ad 12), .long rval, .int risP, .int cnt, .ref (ad 13), .ref (ad 14), .int look, .int bad, .int byZ, .int inr, .int rpl, .int hld, .ref (ad 15), .ref (ad 16), .ref (ad 17)])), (ad 12, .inl (ck 6, 4096, .inl store)), (ad 13, .inl (ck 7, 4096, .inl tAt)), (ad 14, .inl (ck 8, 4096, .inl tSz)), (ad 15, .inl (ck 9, 800, .inl hSg)), (ad 16, .inl (ck 10, 800, .inr (.inl hVl))), (ad 17, .inl (ck 11, 800, .inl hPl))]
def w_R_reckon_89 (post : Int32 → Int64 → Int32 → Int32 → Int32 → Int32 → Int32 → Int32 → Int32 → Int32 → (Nat → Int32) → (Nat → Int32) → (Nat → Int32) → (Nat → Int64) → (Nat → Int32) → Prop) (x3 : Int32) (z0 : Int64) (rsize : Int32) (rval : Int64) (risP : Int32) (cnt : Int32) (look : Int32) (bad : Int32) (byZ : Int32) (inr : Int32) (rpl : Int32) (hld : Int32) (store : Nat → Int32) (tAt : Nat → Int32) (tSz : Nat → Int32) (hSg : Nat → Int32) (hVl : Nat → Int64) (hPl : Nat → Int32) : Prop := (x3 = 0 → ((rpl = 0 → (post x3 z0 0 cnt look bad byZ inr rpl hld tAt tSz hSg hVl hPl)) ∧ (¬ rpl = 0 → (post x3 z0 1 cnt look bad byZ inr rpl hld tAt tSz hSg hVl hPl)))) ∧ (¬ x3 = 0 → (post x3 z0 0 cnt look bad byZ inr rpl hld tAt tSz hSg hVl hPl))
def w_R_reckon_17 (post : Int32 → Int64 → Int32 → Int32 → Int32 → Int32 → Int32 → Int32 → Int32 → Int32 → (Nat → Int32) → (Nat → Int32) → (Nat → Int32) → (Nat → Int64) → (Nat → Int32) → Prop) (z0 : Int32) (rsize : Int32) (rval : Int64) (risP : Int32) (cnt : Int32) (look : Int32) (bad : Int32) (byZ : Int32) (inr : Int32) (rpl : Int32) (hld : Int32) (store : Nat → Int32) (tAt : Nat → Int32) (tSz : Nat → Int32) (hSg : Nat → Int32) (hVl : Nat → Int64) (hPl : Nat → Int32) : Prop := (wpG 250).1 (fun (r_5 : Int64) (look_6 : Int32) (bad_7 : Int32) (byZ_8 : Int32) (inr_9 : Int32) (rpl_10 : Int32) (hld_11 : Int32) (hSg_12 : Nat → Int32) (hVl_13 : Nat → Int64) (hPl_14 : Nat → Int32) => (bad_7 = 0 → ((look_6 < 0 → ((byZ_8 = 0 → (((0 : Int32) = 0 → (w_R_reckon_89 post 0 r_5 rsize rval risP cnt look_6 bad_7 byZ_8 inr_9 rpl_10 hld_11 store tAt tSz hSg_12 hVl_13 hPl_14)) ∧ (¬ (0 : Int32) = 0 → (w_R_reckon_89 post 0 0 rsize rval risP cnt look_6 bad_7 byZ_8 inr_9 rpl_10 hld_11 store tAt tSz hSg_12 hVl_13 hPl_14)))) ∧ (¬ byZ_8 = 0 → (((12 : Int32) = 0 → (w_R_reckon_89 post 12 r_5 rsize rval risP cnt look_6 bad_7 byZ_8 inr_9 rpl_10 hld_11 store tAt tSz hSg_12 hVl_13 hPl_14)) ∧ (¬ (12 : Int32) = 0 → (w_R_reckon_89 post 12 0 rsize rval risP cnt look_6 bad_7 byZ_8 inr_9 rpl_10 hld_11 store tAt tSz hSg_12 hVl_13 hPl_14)))))) ∧ (¬ look_6 < 0 → (((11 : Int32) = 0 → (w_R_reckon_89 post 11 r_5 rsize rval risP cnt look_6 bad_7 byZ_8 inr_9 rpl_10 hld_11 store tAt tSz hSg_12 hVl_13 hPl_14)) ∧ (¬ (11 : Int32) = 0 → (w_R_reckon_89 post 11 0 rsize rval risP cnt look_6 bad_7 byZ_8 inr_9 rpl_10 hld_11 store tAt tSz hSg_12 hVl_13 hPl_14)))))) ∧ (¬ bad_7 = 0 → (((11 : Int32) = 0 → (w_R_reckon_89 post 11 r_5 rsize rval risP cnt look_6 bad_7 byZ_8 inr_9 rpl_10 hld_11 store tAt tSz hSg_12 hVl_13 hPl_14)) ∧ (¬ (11 : Int32) = 0 → (w_R_reckon_89 post 11 0 rsize rval risP cnt look_6 bad_7 byZ_8 inr_9 rpl_10 hld_11 store tAt tSz hSg_12 hVl_13 hPl_14))))) rsize rval risP cnt z0 0 0 0 rpl 0 store tAt tSz hSg hVl hPl 1
def wp_R_reckon (post : Int32 → Int64 → Int32 → Int32 → Int32 → Int32 → Int32 → Int32 → Int32 → Int32 → (Nat → Int32) → (Nat → Int32) → (Nat → Int32) → (Nat → Int64) → (Nat → Int32) → Prop) (rsize : Int32) (rval : Int64) (risP : Int32) (cnt : Int32) (look : Int32) (bad : Int32) (byZ : Int32) (inr : Int32) (rpl : Int32) (hld : Int32) (store : Nat → Int32) (tAt : Nat → Int32) (tSz : Nat → Int32) (hSg : Nat → Int32) (hVl : Nat → Int64) (hPl : Nat → Int32)  : Prop := wp_R_cutAll (fun (cnt_1 : Int32) (tAt_2 : Nat → Int32) (tSz_3 : Nat → Int32) => (cnt_1 ≤ 0 → (w_R_reckon_17 post (-1) rsize rval risP cnt_1 look bad byZ inr rpl hld store tAt_2 tSz_3 hSg hVl hPl)) ∧ (¬ cnt_1 ≤ 0 → (w_R_reckon_17 post 0 rsize rval risP cnt_1 look bad byZ inr rpl hld store tAt_2 tSz_3 hSg hVl hPl))) rsize rval risP cnt look bad byZ inr rpl hld store tAt tSz
set_option maxHeartbeats 4000000 in
set_option maxRecDepth 100000 in
theorem kc_R_reckon (l : Launch) (dC : Nat → ClassId) (dI : Nat → Nat → Nat) (ad : Nat → Nat) (ck : Nat → ClassId) (sa sv : Nat → Nat) (sf : Option Nat) (rsize : Int32) (rval : Int64) (risP : Int32) (cnt : Int32) (look : Int32) (bad : Int32) (byZ : Int32) (inr : Int32) (rpl : Int32) (hld : Int32) (store : Nat → Int32) (tAt : Nat → Int32) (tSz : Nat → Int32) (hSg : Nat → Int32) (hVl : Nat → Int64) (hPl : Nat → Int32)  {post : Int32 → Int64 → Int32 → Int32 → Int32 → Int32 → Int32 → Int32 → Int32 → Int32 → (Nat → Int32) → (Nat → Int32) → (Nat → Int32) → (Nat → Int64) → (Nat → Int32) → Prop} (hw : wp_R_reckon post rsize rval risP cnt look bad byZ inr rpl hld store tAt tSz hSg hVl hPl ) : k_Ci l y_R_reckon ws_R_reckon ({ frames := 263, cells := 0, slots := 0, locals := 10288 } : Room) (dC, dI) vwCl (TYr ck) (XR sa sv sf) [.ref (ad 11)] (wd_R_reckon ad ck rsize rval risP cnt look bad byZ inr rpl hld store tAt tSz hSg hVl hPl) (fun (r : Int32) (u : Int64 × Int32 × Int32 × Int32 × Int32 × Int32 × Int32 × Int32 × Int32 × (Nat → Int32) × (Nat → Int32) × (Nat → Int32) × (Nat → Int64) × (Nat → Int32)) => post r u.1 u.2.1 u.2.2.1 u.2.2.2.1 u.2.2.2.2.1 u.2.2.2.2.2.1 u.2.2.2.2.2.2.1 u.2.2.2.2.2.2.2.1 u.2.2.2.2.2.2.2.2.1 u.2.2.2.2.2.2.2.2.2.1 u.2.2.2.2.2.2.2.2.2.2.1 u.2.2.2.2.2.2.2.2.2.2.2.1 u.2.2.2.2.2.2.2.2.2.2.2.2.1 u.2.2.2.2.2.2.2.2.2.2.2.2.2) (fun (u : Int64 × Int32 × Int32 × Int32 × Int32 × Int32 × Int32 × Int32 × Int32 × (Nat → Int32) × (Nat → Int32) × (Nat → Int32) × (Nat → Int64) × (Nat → Int32)) => wd_R_reckon ad ck rsize u.1 u.2.1 u.2.2.1 u.2.2.2.1 u.2.2.2.2.1 u.2.2.2.2.2.1 u.2.2.2.2.2.2.1 u.2.2.2.2.2.2.2.1 u.2.2.2.2.2.2.2.2.1 store u.2.2.2.2.2.2.2.2.2.1 u.2.2.2.2.2.2.2.2.2.2.1 u.2.2.2.2.2.2.2.2.2.2.2.1 u.2.2.2.2.2.2.2.2.2.2.2.2.1 u.2.2.2.2.2.2.2.2.2.2.2.2.2) := by
  intro sz
  refine Met.ofW (cc := c_R_reckon) (maxL := 4) (ret := (some .int)) (by decide) rfl ?_
  intro p e s m args below meth c s₁ B hml hv
  obtain ⟨rfl, hsz, hP, hK, hD0, hX⟩ := hv
  have hx := B.exec
  have hb := B.bytes
  have hr := B.returns
  have hts : ∀ w ∈ TB, w.before _ s = true := fun w h => atoms_spec (ws := ws_R_reckon) B.pre w (List.mem_cons_of_mem _ h)
  have hown : s.vm.findClass R_R = some m.cls := findClass_of_methodNamed B.named
  have hlocks := B.notSynchronized
  subst hsz
  have hD := hD0.self (sz := s.heap.size)
  generalize hAe : va_A (wd_R_reckon ad ck rsize rval risP cnt look bad byZ inr rpl hld store tAt tSz hSg hVl hPl) s.heap.size = A at hD hX ⊢
  have hA : ∀ q : Nat, s.heap.size ≤ q → A q := fun q h => by rw [← hAe]; exact Or.inr h
  have hS : va_S A s.heap s.heap [] := va_S.rf
  have hP : va_P (dC, dI) vwCl (wd_R_reckon ad ck rsize rval risP cnt look bad byZ inr rpl hld store tAt tSz hSg hVl hPl) s.heap := hP
  have hl := lv_entry ([.ref (ad 11)]) (n := 4) (Nat.le_of_ble_eq_true rfl)
  rw [lg_entry_eq]
  generalize (lg_sl ([.ref (ad 11)]) ++ List.replicate (4 - (lg_sl ([.ref (ad 11)])).length) Slot.unset).toArray = ls at hl ⊢
  have hl : lv_has ls 4 [(0, .ref (ad 11))] := hl
  have L_89 : ∀ (x3 : Int32) (z0 : Int64) (rsize : Int32) (rval : Int64) (risP : Int32) (cnt : Int32) (look : Int32) (bad : Int32) (byZ : Int32) (inr : Int32) (rpl : Int32) (hld : Int32) (store : Nat → Int32) (tAt : Nat → Int32) (tSz : Nat → Int32) (hSg : Nat → Int32) (hVl : Nat → Int64) (hPl : Nat → Int32) (H : Heap) (locs : List Loc) (ls : Array Slot), w_R_reckon_89 post x3 z0 rsize rval risP cnt look bad byZ inr rpl hld store tAt tSz hSg hVl hPl → va_P (dC, dI) vwCl (wd_R_reckon ad ck rsize rval risP cnt look bad byZ inr rpl hld store tAt tSz hSg hVl hPl) H → va_D A (wd_R_reckon ad ck rsize rval risP cnt look bad byZ inr rpl hld store tAt tSz hSg hVl hPl) → va_S A s.heap H locs → lv_has ls 4 [(0, .ref (ad 11)), (3, .int x3)] → W p l e (headSpec ws_R_reckon ({ frames := 263, cells := 0, slots := 0, locals := 10288 } : Room)).room s m ([.ref (ad 11)] : List Value).toArray below meth c H locs 0 0 (k_Qi below (dC, dI) vwCl (TYr ck) A (fun (r : Int32) (u : Int64 × Int32 × Int32 × Int32 × Int32 × Int32 × Int32 × Int32 × Int32 × (Nat → Int32) × (Nat → Int32) × (Nat → Int32) × (Nat → Int64) × (Nat → Int32)) => post r u.1 u.2.1 u.2.2.1 u.2.2.2.1 u.2.2.2.2.1 u.2.2.2.2.2.1 u.2.2.2.2.2.2.1 u.2.2.2.2.2.2.2.1 u.2.2.2.2.2.2.2.2.1 u.2.2.2.2.2.2.2.2.2.1 u.2.2.2.2.2.2.2.2.2.2.1 u.2.2.2.2.2.2.2.2.2.2.2.1 u.2.2.2.2.2.2.2.2.2.2.2.2.1 u.2.2.2.2.2.2.2.2.2.2.2.2.2) (fun (u : Int64 × Int32 × Int32 × Int32 × Int32 × Int32 × Int32 × Int32 × Int32 × (Nat → Int32) × (Nat → Int32) × (Nat → Int32) × (Nat → Int64) × (Nat → Int32)) => wd_R_reckon ad ck rsize u.1 u.2.1 u.2.2.1 u.2.2.2.1 u.2.2.2.2.1 u.2.2.2.2.2.1 u.2.2.2.2.2.2.1 u.2.2.2.2.2.2.2.1 u.2.2.2.2.2.2.2.2.1 store u.2.2.2.2.2.2.2.2.2.1 u.2.2.2.2.2.2.2.2.2.2.1 u.2.2.2.2.2.2.2.2.2.2.2.1 u.2.2.2.2.2.2.2.2.2.2.2.2.1 u.2.2.2.2.2.2.2.2.2.2.2.2.2) ([.ref (ad 11)] : List Value).toArray s) (F0 m 89 ls [.long z0, .ref (ad 11)]) := by
    intro x3 z0 rsize rval risP cnt look bad byZ inr rpl hld store tAt tSz hSg hVl hPl H locs ls hw hP hD hS hl
    refine va_put (D := (dC, dI)) (ci := 5) (v := .long z0) (ty := .long) (C := R_R) (T := T_R) (N := 16) hx hb hts in_R ty_R ty_R_ok nm_R hown hK hP hD hS 0 rfl rfl 2 (by decide) (hts _ ux_130) (fun _ h9 => h9) rfl (by decide +kernel) rfl rfl (Nat.le_of_ble_eq_true rfl) d_R_reckon_89 (fun H locs hP hD hS => ?_)
    have hP : va_P (dC, dI) vwCl (wd_R_reckon ad ck rsize z0 risP cnt look bad byZ inr rpl hld store tAt tSz hSg hVl hPl) H := hP
    have hD : va_D A (wd_R_reckon ad ck rsize z0 risP cnt look bad byZ inr rpl hld store tAt tSz hSg hVl hPl) := hD
    refine lv_aload_n hx hb d_R_reckon_92 rfl (lv_at hl 0 rfl) ?_
    refine lv_iload_n hx hb d_R_reckon_93 rfl (lv_at hl 1 rfl) ?_
    obtain ⟨hwt, hwf⟩ := hw
    refine lv_if_ne (tgt := 108) hx hb d_R_reckon_94 (by decide) (fun c_17 => ?_) (fun c_17 => ?_)
    · have hw := hwf c_17
      refine lv_iconst (v := 0) hx hb d_R_reckon_108 (by decide) ?_
      refine va_put (D := (dC, dI)) (ci := 5) (v := .int 0) (ty := .boolean) (C := R_R) (T := T_R) (N := 16) hx hb hts in_R ty_R ty_R_ok nm_R hown hK hP hD hS 0 rfl rfl 3 (by decide) (hts _ ux_131) (fun _ h9 => h9) rfl (by decide +kernel) (by decide) (by decide) (Nat.le_of_ble_eq_true rfl) d_R_reckon_109 (fun H locs hP hD hS => ?_)
      have hP : va_P (dC, dI) vwCl (wd_R_reckon ad ck rsize z0 0 cnt look bad byZ inr rpl hld store tAt tSz hSg hVl hPl) H := hP
      have hD : va_D A (wd_R_reckon ad ck rsize z0 0 cnt look bad byZ inr rpl hld store tAt tSz hSg hVl hPl) := hD
      refine lv_iload_n hx hb d_R_reckon_112 rfl (lv_at hl 1 rfl) ?_
      exact W.iret (v := x3) hx hb hr (fun t ht hW => ⟨⟨x3, (z0, 0, cnt, look, bad, byZ, inr, rpl, hld, tAt, tSz, hSg, hVl, hPl), rfl, hw, by rw [ht]; exact hP, va_K.moved hW.alike hK, hD⟩, hS.F ht⟩) hS.2.2 d_R_reckon_113
    · have hw := hwt c_17
      refine lv_aload_n hx hb d_R_reckon_97 rfl (lv_at hl 0 rfl) ?_
      refine va_get (D := (dC, dI)) (ci := 5) (v := .int rpl) (C := R_R) (T := T_R) (N := 16) hx hb hts in_R hown hK hP 0 rfl rfl 11 (by decide) (hts _ ux_95) (fun _ h9 => h9) rfl d_R_reckon_98 ?_
      obtain ⟨hwt, hwf⟩ := hw
      refine lv_if_eq (tgt := 108) hx hb d_R_reckon_101 (by decide) (fun c_18 => ?_) (fun c_18 => ?_)
      · have hw := hwt c_18
        refine lv_iconst (v := 0) hx hb d_R_reckon_108 (by decide) ?_
        refine va_put (D := (dC, dI)) (ci := 5) (v := .int 0) (ty := .boolean) (C := R_R) (T := T_R) (N := 16) hx hb hts in_R ty_R ty_R_ok nm_R hown hK hP hD hS 0 rfl rfl 3 (by decide) (hts _ ux_131) (fun _ h9 => h9) rfl (by decide +kernel) (by decide) (by decide) (Nat.le_of_ble_eq_true rfl) d_R_reckon_109 (fun H locs hP hD hS => ?_)
        have hP : va_P (dC, dI) vwCl (wd_R_reckon ad ck rsize z0 0 cnt look bad byZ inr rpl hld store tAt tSz hSg hVl hPl) H := hP
        have hD : va_D A (wd_R_reckon ad ck rsize z0 0 cnt look bad byZ inr rpl hld store tAt tSz hSg hVl hPl) := hD
        refine lv_iload_n hx hb d_R_reckon_112 rfl (lv_at hl 1 rfl) ?_
        exact W.iret (v := x3) hx hb hr (fun t ht hW => ⟨⟨x3, (z0, 0, cnt, look, bad, byZ, inr, rpl, hld, tAt, tSz, hSg, hVl, hPl), rfl, hw, by rw [ht]; exact hP, va_K.moved hW.alike hK, hD⟩, hS.F ht⟩) hS.2.2 d_R_reckon_113
      · have hw := hwf c_18
        refine lv_iconst (v := 1) hx hb d_R_reckon_104 (by decide) ?_
        refine lv_goto (tgt := 109) hx hb d_R_reckon_105 (by decide) ?_
        refine va_put (D := (dC, dI)) (ci := 5) (v := .int 1) (ty := .boolean) (C := R_R) (T := T_R) (N := 16) hx hb hts in_R ty_R ty_R_ok nm_R hown hK hP hD hS 0 rfl rfl 3 (by decide) (hts _ ux_131) (fun _ h9 => h9) rfl (by decide +kernel) (by decide) (by decide) (Nat.le_of_ble_eq_true rfl) d_R_reckon_109 (fun H locs hP hD hS => ?_)
        have hP : va_P (dC, dI) vwCl (wd_R_reckon ad ck rsize z0 1 cnt look bad byZ inr rpl hld store tAt tSz hSg hVl hPl) H := hP
        have hD : va_D A (wd_R_reckon ad ck rsize z0 1 cnt look bad byZ inr rpl hld store tAt tSz hSg hVl hPl) := hD
        refine lv_iload_n hx hb d_R_reckon_112 rfl (lv_at hl 1 rfl) ?_
        exact W.iret (v := x3) hx hb hr (fun t ht hW => ⟨⟨x3, (z0, 1, cnt, look, bad, byZ, inr, rpl, hld, tAt, tSz, hSg, hVl, hPl), rfl, hw, by rw [ht]; exact hP, va_K.moved hW.alike hK, hD⟩, hS.F ht⟩) hS.2.2 d_R_reckon_113
  have L_17 : ∀ (z0 : Int32) (rsize : Int32) (rval : Int64) (risP : Int32) (cnt : Int32) (look : Int32) (bad : Int32) (byZ : Int32) (inr : Int32) (rpl : Int32) (hld : Int32) (store : Nat → Int32) (tAt : Nat → Int32) (tSz : Nat → Int32) (hSg : Nat → Int32) (hVl : Nat → Int64) (hPl : Nat → Int32) (H : Heap) (locs : List Loc) (ls : Array Slot), w_R_reckon_17 post z0 rsize rval risP cnt look bad byZ inr rpl hld store tAt tSz hSg hVl hPl → va_P (dC, dI) vwCl (wd_R_reckon ad ck rsize rval risP cnt look bad byZ inr rpl hld store tAt tSz hSg hVl hPl) H → va_D A (wd_R_reckon ad ck rsize rval risP cnt look bad byZ inr rpl hld store tAt tSz hSg hVl hPl) → va_S A s.heap H locs → lv_has ls 4 [(0, .ref (ad 11))] → W p l e (headSpec ws_R_reckon ({ frames := 263, cells := 0, slots := 0, locals := 10288 } : Room)).room s m ([.ref (ad 11)] : List Value).toArray below meth c H locs 0 0 (k_Qi below (dC, dI) vwCl (TYr ck) A (fun (r : Int32) (u : Int64 × Int32 × Int32 × Int32 × Int32 × Int32 × Int32 × Int32 × Int32 × (Nat → Int32) × (Nat → Int32) × (Nat → Int32) × (Nat → Int64) × (Nat → Int32)) => post r u.1 u.2.1 u.2.2.1 u.2.2.2.1 u.2.2.2.2.1 u.2.2.2.2.2.1 u.2.2.2.2.2.2.1 u.2.2.2.2.2.2.2.1 u.2.2.2.2.2.2.2.2.1 u.2.2.2.2.2.2.2.2.2.1 u.2.2.2.2.2.2.2.2.2.2.1 u.2.2.2.2.2.2.2.2.2.2.2.1 u.2.2.2.2.2.2.2.2.2.2.2.2.1 u.2.2.2.2.2.2.2.2.2.2.2.2.2) (fun (u : Int64 × Int32 × Int32 × Int32 × Int32 × Int32 × Int32 × Int32 × Int32 × (Nat → Int32) × (Nat → Int32) × (Nat → Int32) × (Nat → Int64) × (Nat → Int32)) => wd_R_reckon ad ck rsize u.1 u.2.1 u.2.2.1 u.2.2.2.1 u.2.2.2.2.1 u.2.2.2.2.2.1 u.2.2.2.2.2.2.1 u.2.2.2.2.2.2.2.1 u.2.2.2.2.2.2.2.2.1 store u.2.2.2.2.2.2.2.2.2.1 u.2.2.2.2.2.2.2.2.2.2.1 u.2.2.2.2.2.2.2.2.2.2.2.1 u.2.2.2.2.2.2.2.2.2.2.2.2.1 u.2.2.2.2.2.2.2.2.2.2.2.2.2) ([.ref (ad 11)] : List Value).toArray s) (F0 m 17 ls [.int z0, .ref (ad 11)]) := by
    intro z0 rsize rval risP cnt look bad byZ inr rpl hld store tAt tSz hSg hVl hPl H locs ls hw hP hD hS hl
    refine va_put (D := (dC, dI)) (ci := 5) (v := .int z0) (ty := .int) (C := R_R) (T := T_R) (N := 16) hx hb hts in_R ty_R ty_R_ok nm_R hown hK hP hD hS 0 rfl rfl 7 (by decide) (hts _ ux_83) (fun _ h9 => h9) rfl (by decide +kernel) rfl rfl (Nat.le_of_ble_eq_true rfl) d_R_reckon_17 (fun H locs hP hD hS => ?_)
    have hP : va_P (dC, dI) vwCl (wd_R_reckon ad ck rsize rval risP cnt z0 bad byZ inr rpl hld store tAt tSz hSg hVl hPl) H := hP
    have hD : va_D A (wd_R_reckon ad ck rsize rval risP cnt z0 bad byZ inr rpl hld store tAt tSz hSg hVl hPl) := hD
    refine lv_aload_n hx hb d_R_reckon_20 rfl (lv_at hl 0 rfl) ?_
    refine lv_iconst (v := 0) hx hb d_R_reckon_21 (by decide) ?_
    refine va_put (D := (dC, dI)) (ci := 5) (v := .int 0) (ty := .boolean) (C := R_R) (T := T_R) (N := 16) hx hb hts in_R ty_R ty_R_ok nm_R hown hK hP hD hS 0 rfl rfl 8 (by decide) (hts _ ux_110) (fun _ h9 => h9) rfl (by decide +kernel) (by decide) (by decide) (Nat.le_of_ble_eq_true rfl) d_R_reckon_22 (fun H locs hP hD hS => ?_)
    have hP : va_P (dC, dI) vwCl (wd_R_reckon ad ck rsize rval risP cnt z0 0 byZ inr rpl hld store tAt tSz hSg hVl hPl) H := hP
    have hD : va_D A (wd_R_reckon ad ck rsize rval risP cnt z0 0 byZ inr rpl hld store tAt tSz hSg hVl hPl) := hD
    refine lv_aload_n hx hb d_R_reckon_25 rfl (lv_at hl 0 rfl) ?_
    refine lv_iconst (v := 0) hx hb d_R_reckon_26 (by decide) ?_
    refine va_put (D := (dC, dI)) (ci := 5) (v := .int 0) (ty := .boolean) (C := R_R) (T := T_R) (N := 16) hx hb hts in_R ty_R ty_R_ok nm_R hown hK hP hD hS 0 rfl rfl 9 (by decide) (hts _ ux_97) (fun _ h9 => h9) rfl (by decide +kernel) (by decide) (by decide) (Nat.le_of_ble_eq_true rfl) d_R_reckon_27 (fun H locs hP hD hS => ?_)
    have hP : va_P (dC, dI) vwCl (wd_R_reckon ad ck rsize rval risP cnt z0 0 0 inr rpl hld store tAt tSz hSg hVl hPl) H := hP
    have hD : va_D A (wd_R_reckon ad ck rsize rval risP cnt z0 0 0 inr rpl hld store tAt tSz hSg hVl hPl) := hD
    refine lv_aload_n hx hb d_R_reckon_30 rfl (lv_at hl 0 rfl) ?_
    refine lv_iconst (v := 0) hx hb d_R_reckon_31 (by decide) ?_
    refine va_put (D := (dC, dI)) (ci := 5) (v := .int 0) (ty := .int) (C := R_R) (T := T_R) (N := 16) hx hb hts in_R ty_R ty_R_ok nm_R hown hK hP hD hS 0 rfl rfl 10 (by decide) (hts _ ux_140) (fun _ h9 => h9) rfl (by decide +kernel) rfl rfl (Nat.le_of_ble_eq_true rfl) d_R_reckon_32 (fun H locs hP hD hS => ?_)
    have hP : va_P (dC, dI) vwCl (wd_R_reckon ad ck rsize rval risP cnt z0 0 0 0 rpl hld store tAt tSz hSg hVl hPl) H := hP
    have hD : va_D A (wd_R_reckon ad ck rsize rval risP cnt z0 0 0 0 rpl hld store tAt tSz hSg hVl hPl) := hD
    refine lv_aload_n hx hb d_R_reckon_35 rfl (lv_at hl 0 rfl) ?_
    refine lv_iconst (v := 0) hx hb d_R_reckon_36 (by decide) ?_
    refine va_put (D := (dC, dI)) (ci := 5) (v := .int 0) (ty := .int) (C := R_R) (T := T_R) (N := 16) hx hb hts in_R ty_R ty_R_ok nm_R hown hK hP hD hS 0 rfl rfl 12 (by decide) (hts _ ux_91) (fun _ h9 => h9) rfl (by decide +kernel) rfl rfl (Nat.le_of_ble_eq_true rfl) d_R_reckon_37 (fun H locs hP hD hS => ?_)
    have hP : va_P (dC, dI) vwCl (wd_R_reckon ad ck rsize rval risP cnt z0 0 0 0 rpl 0 store tAt tSz hSg hVl hPl) H := hP
    have hD : va_D A (wd_R_reckon ad ck rsize rval risP cnt z0 0 0 0 rpl 0 store tAt tSz hSg hVl hPl) := hD
    refine lv_aload_n hx hb d_R_reckon_40 rfl (lv_at hl 0 rfl) ?_
    refine lv_iconst (v := 1) hx hb d_R_reckon_41 (by decide) ?_
    refine k_callVl (As := [.int 1]) (rest := []) (fun (u : Int32 × Int32 × Int32 × Int32 × Int32 × Int32 × (Nat → Int32) × (Nat → Int64) × (Nat → Int32)) => wd_R_reckon ad ck rsize rval risP cnt u.1 u.2.1 u.2.2.1 u.2.2.2.1 u.2.2.2.2.1 u.2.2.2.2.2.1 store tAt tSz u.2.2.2.2.2.2.1 u.2.2.2.2.2.2.2.1 u.2.2.2.2.2.2.2.2) ⟨hx, hb, hml, hown, hts⟩ ((kc_G l dC dI ad ck sa sv sf 250).1 rsize rval risP cnt z0 0 0 0 rpl 0 store tAt tSz hSg hVl hPl 1 _ hw) (cwV 1 hts (gV ux_141 ux_143 ux_144 ux_49 ux_142) rfl rfl rfl hd_R_choice ⟨Nat.le_of_ble_eq_true rfl, Nat.le_of_ble_eq_true rfl⟩) hK hP hD hS hA (XR_c sa sv sf) hX [0, 1, 2, 3, 4, 5, 6] [] [0, 1, 2, 3, 4, 5, 6] rfl rfl (by decide) (by decide) (fun _ => rfl) (va_recv hK hP (ci := 5) (q0 := 0) rfl rfl) rfl hl.1 rfl (lv_room (Nat.le_of_ble_eq_true rfl)) d_R_reckon_42 ⟨Nat.zero_le _, Nat.zero_le _⟩ ?_
    intro r_5 u H locs hw hP hD hS
    obtain ⟨look_6, bad_7, byZ_8, inr_9, rpl_10, hld_11, hSg_12, hVl_13, hPl_14⟩ := u
    have hP : va_P (dC, dI) vwCl (wd_R_reckon ad ck rsize rval risP cnt look_6 bad_7 byZ_8 inr_9 rpl_10 hld_11 store tAt tSz hSg_12 hVl_13 hPl_14) H := hP
    have hD : va_D A (wd_R_reckon ad ck rsize rval risP cnt look_6 bad_7 byZ_8 inr_9 rpl_10 hld_11 store tAt tSz hSg_12 hVl_13 hPl_14) := hD
    try dsimp only at hw
    refine lv_lstore_n (lv' := [(1, .long r_5), (0, .ref (ad 11))]) hx hb d_R_reckon_45 rfl hl (by decide) rfl (fun ls hl => ?_)
    refine lv_aload_n hx hb d_R_reckon_46 rfl (lv_at hl 1 rfl) ?_
    refine va_get (D := (dC, dI)) (ci := 5) (v := .int bad_7) (C := R_R) (T := T_R) (N := 16) hx hb hts in_R hown hK hP 0 rfl rfl 8 (by decide) (hts _ ux_110) (fun _ h9 => h9) rfl d_R_reckon_47 ?_
    obtain ⟨hwt, hwf⟩ := hw
    refine lv_if_ne (tgt := 60) hx hb d_R_reckon_50 (by decide) (fun c_15 => ?_) (fun c_15 => ?_)
    · have hw := hwf c_15
      refine lv_bipush (v := 11) hx hb d_R_reckon_60 (by decide) ?_
      refine lv_goto (tgt := 78) hx hb d_R_reckon_62 (by decide) ?_
      refine lv_istore_n (lv' := [(3, .int 11), (1, .long r_5), (0, .ref (ad 11))]) hx hb d_R_reckon_78 rfl hl (by decide) rfl (fun ls hl => ?_)
      refine lv_aload_n hx hb d_R_reckon_79 rfl (lv_at hl 2 rfl) ?_
      refine lv_iload_n hx hb d_R_reckon_80 rfl (lv_at hl 0 rfl) ?_
      obtain ⟨hwt, hwf⟩ := hw
      refine lv_if_ne (tgt := 88) hx hb d_R_reckon_81 (by decide) (fun c_16 => ?_) (fun c_16 => ?_)
      · have hw := hwf c_16
        refine lv_lconst (v := 0) hx hb d_R_reckon_88 (by decide) ?_
        exact L_89 11 0 rsize rval risP cnt look_6 bad_7 byZ_8 inr_9 rpl_10 hld_11 store tAt tSz hSg_12 hVl_13 hPl_14 _ _ _ hw hP hD hS (lv_sub hl [2, 0] rfl)
      · have hw := hwt c_16
        refine lv_lload_n hx hb d_R_reckon_84 rfl (lv_at hl 1 rfl) ?_
        refine lv_goto (tgt := 89) hx hb d_R_reckon_85 (by decide) ?_
        exact L_89 11 r_5 rsize rval risP cnt look_6 bad_7 byZ_8 inr_9 rpl_10 hld_11 store tAt tSz hSg_12 hVl_13 hPl_14 _ _ _ hw hP hD hS (lv_sub hl [2, 0] rfl)
    · have hw := hwt c_15
      refine lv_aload_n hx hb d_R_reckon_53 rfl (lv_at hl 1 rfl) ?_
      refine va_get (D := (dC, dI)) (ci := 5) (v := .int look_6) (C := R_R) (T := T_R) (N := 16) hx hb hts in_R hown hK hP 0 rfl rfl 7 (by decide) (hts _ ux_83) (fun _ h9 => h9) rfl d_R_reckon_54 ?_
      obtain ⟨hwt, hwf⟩ := hw
      refine lv_if_lt (tgt := 65) hx hb d_R_reckon_57 (by decide) (fun c_19 => ?_) (fun c_19 => ?_)
      · have hw := hwt c_19
        refine lv_aload_n hx hb d_R_reckon_65 rfl (lv_at hl 1 rfl) ?_
        refine va_get (D := (dC, dI)) (ci := 5) (v := .int byZ_8) (C := R_R) (T := T_R) (N := 16) hx hb hts in_R hown hK hP 0 rfl rfl 9 (by decide) (hts _ ux_97) (fun _ h9 => h9) rfl d_R_reckon_66 ?_
        obtain ⟨hwt, hwf⟩ := hw
        refine lv_if_eq (tgt := 77) hx hb d_R_reckon_69 (by decide) (fun c_20 => ?_) (fun c_20 => ?_)
        · have hw := hwt c_20
          refine lv_iconst (v := 0) hx hb d_R_reckon_77 (by decide) ?_
          refine lv_istore_n (lv' := [(3, .int 0), (1, .long r_5), (0, .ref (ad 11))]) hx hb d_R_reckon_78 rfl hl (by decide) rfl (fun ls hl => ?_)
          refine lv_aload_n hx hb d_R_reckon_79 rfl (lv_at hl 2 rfl) ?_
          refine lv_iload_n hx hb d_R_reckon_80 rfl (lv_at hl 0 rfl) ?_
          obtain ⟨hwt, hwf⟩ := hw
          refine lv_if_ne (tgt := 88) hx hb d_R_reckon_81 (by decide) (fun c_21 => ?_) (fun c_21 => ?_)
          · have hw := hwf c_21
            refine lv_lconst (v := 0) hx hb d_R_reckon_88 (by decide) ?_
            exact L_89 0 0 rsize rval risP cnt look_6 bad_7 byZ_8 inr_9 rpl_10 hld_11 store tAt tSz hSg_12 hVl_13 hPl_14 _ _ _ hw hP hD hS (lv_sub hl [2, 0] rfl)
          · have hw := hwt c_21
            refine lv_lload_n hx hb d_R_reckon_84 rfl (lv_at hl 1 rfl) ?_
            refine lv_goto (tgt := 89) hx hb d_R_reckon_85 (by decide) ?_
            exact L_89 0 r_5 rsize rval risP cnt look_6 bad_7 byZ_8 inr_9 rpl_10 hld_11 store tAt tSz hSg_12 hVl_13 hPl_14 _ _ _ hw hP hD hS (lv_sub hl [2, 0] rfl)
        · have hw := hwf c_20
          refine lv_bipush (v := 12) hx hb d_R_reckon_72 (by decide) ?_
          refine lv_goto (tgt := 78) hx hb d_R_reckon_74 (by decide) ?_
          refine lv_istore_n (lv' := [(3, .int 12), (1, .long r_5), (0, .ref (ad 11))]) hx hb d_R_reckon_78 rfl hl (by decide) rfl (fun ls hl => ?_)
          refine lv_aload_n hx hb d_R_reckon_79 rfl (lv_at hl 2 rfl) ?_
          refine lv_iload_n hx hb d_R_reckon_80 rfl (lv_at hl 0 rfl) ?_
          obtain ⟨hwt, hwf⟩ := hw
          refine lv_if_ne (tgt := 88) hx hb d_R_reckon_81 (by decide) (fun c_22 => ?_) (fun c_22 => ?_)
          · have hw := hwf c_22
            refine lv_lconst (v := 0) hx hb d_R_reckon_88 (by decide) ?_
            exact L_89 12 0 rsize rval risP cnt look_6 bad_7 byZ_8 inr_9 rpl_10 hld_11 store tAt tSz hSg_12 hVl_13 hPl_14 _ _ _ hw hP hD hS (lv_sub hl [2, 0] rfl)
          · have hw := hwt c_22
            refine lv_lload_n hx hb d_R_reckon_84 rfl (lv_at hl 1 rfl) ?_
            refine lv_goto (tgt := 89) hx hb d_R_reckon_85 (by decide) ?_
            exact L_89 12 r_5 rsize rval risP cnt look_6 bad_7 byZ_8 inr_9 rpl_10 hld_11 store tAt tSz hSg_12 hVl_13 hPl_14 _ _ _ hw hP hD hS (lv_sub hl [2, 0] rfl)
      · have hw := hwf c_19
        refine lv_bipush (v := 11) hx hb d_R_reckon_60 (by decide) ?_
        refine lv_goto (tgt := 78) hx hb d_R_reckon_62 (by decide) ?_
        refine lv_istore_n (lv' := [(3, .int 11), (1, .long r_5), (0, .ref (ad 11))]) hx hb d_R_reckon_78 rfl hl (by decide) rfl (fun ls hl => ?_)
        refine lv_aload_n hx hb d_R_reckon_79 rfl (lv_at hl 2 rfl) ?_
        refine lv_iload_n hx hb d_R_reckon_80 rfl (lv_at hl 0 rfl) ?_
        obtain ⟨hwt, hwf⟩ := hw
        refine lv_if_ne (tgt := 88) hx hb d_R_reckon_81 (by decide) (fun c_23 => ?_) (fun c_23 => ?_)
        · have hw := hwf c_23
          refine lv_lconst (v := 0) hx hb d_R_reckon_88 (by decide) ?_
          exact L_89 11 0 rsize rval risP cnt look_6 bad_7 byZ_8 inr_9 rpl_10 hld_11 store tAt tSz hSg_12 hVl_13 hPl_14 _ _ _ hw hP hD hS (lv_sub hl [2, 0] rfl)
        · have hw := hwt c_23
          refine lv_lload_n hx hb d_R_reckon_84 rfl (lv_at hl 1 rfl) ?_
          refine lv_goto (tgt := 89) hx hb d_R_reckon_85 (by decide) ?_
          exact L_89 11 r_5 rsize rval risP cnt look_6 bad_7 byZ_8 inr_9 rpl_10 hld_11 store tAt tSz hSg_12 hVl_13 hPl_14 _ _ _ hw hP hD hS (lv_sub hl [2, 0] rfl)
  refine lv_aload_n hx hb d_R_reckon_0 rfl (lv_at hl 0 rfl) ?_
  refine k_callVv (As := []) (rest := []) (fun (u : Int32 × (Nat → Int32) × (Nat → Int32)) => wd_R_reckon ad ck rsize rval risP u.1 look bad byZ inr rpl hld store u.2.1 u.2.2 hSg hVl hPl) ⟨hx, hb, hml, hown, hts⟩ (kc_R_cutAll l dC dI ad ck sa sv sf rsize rval risP cnt look bad byZ inr rpl hld store tAt tSz (hw := hw)) (cwV 0 hts (gV ux_122 ux_124 ux_125 ux_49 ux_123) rfl rfl rfl hd_R_cutAll ⟨Nat.le_of_ble_eq_true rfl, Nat.le_of_ble_eq_true rfl⟩) hK hP hD hS hA (XR_c sa sv sf) hX [0, 1, 2, 3] [4, 5, 6] [3, 4, 5, 6, 0, 1, 2] rfl rfl (by decide) (by decide) (fun _ => rfl) (va_recv hK hP (ci := 5) (q0 := 0) rfl rfl) rfl hl.1 rfl (lv_room (Nat.le_of_ble_eq_true rfl)) d_R_reckon_1 ⟨Nat.zero_le _, Nat.zero_le _⟩ ?_
  intro u H locs hw hP hD hS
  obtain ⟨cnt_1, tAt_2, tSz_3⟩ := u
  have hP : va_P (dC, dI) vwCl (wd_R_reckon ad ck rsize rval risP cnt_1 look bad byZ inr rpl hld store tAt_2 tSz_3 hSg hVl hPl) H := hP
  have hD : va_D A (wd_R_reckon ad ck rsize rval risP cnt_1 look bad byZ inr rpl hld store tAt_2 tSz_3 hSg hVl hPl) := hD
  try dsimp only at hw
  refine lv_aload_n hx hb d_R_reckon_4 rfl (lv_at hl 0 rfl) ?_
  refine lv_aload_n hx hb d_R_reckon_5 rfl (lv_at hl 0 rfl) ?_
  refine va_get (D := (dC, dI)) (ci := 5) (v := .int cnt_1) (C := R_R) (T := T_R) (N := 16) hx hb hts in_R hown hK hP 0 rfl rfl 4 (by decide) (hts _ ux_68) (fun _ h9 => h9) rfl d_R_reckon_6 ?_
  obtain ⟨hwt, hwf⟩ := hw
  refine lv_if_le (tgt := 16) hx hb d_R_reckon_9 (by decide) (fun c_4 => ?_) (fun c_4 => ?_)
  · have hw := hwt c_4
    refine lv_iconst (v := (-1)) hx hb d_R_reckon_16 (by decide) ?_
    exact L_17 (-1) rsize rval risP cnt_1 look bad byZ inr rpl hld store tAt_2 tSz_3 hSg hVl hPl _ _ _ hw hP hD hS (lv_sub hl [0] rfl)
  · have hw := hwf c_4
    refine lv_iconst (v := 0) hx hb d_R_reckon_12 (by decide) ?_
    refine lv_goto (tgt := 17) hx hb d_R_reckon_13 (by decide) ?_
    exact L_17 0 rsize rval risP cnt_1 look bad byZ inr rpl hld store tAt_2 tSz_3 hSg hVl hPl _ _ _ hw hP hD hS (lv_sub hl [0] rfl)
