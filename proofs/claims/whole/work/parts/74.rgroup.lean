abbrev TG : Type := (Int64 → Int32 → Int32 → Int32 → Int32 → Int32 → Int32 → (Nat → Int32) → (Nat → Int64) → (Nat → Int32) → Prop) → Int32 → Int64 → Int32 → Int32 → Int32 → Int32 → Int32 → Int32 → Int32 → Int32 → (Nat → Int32) → (Nat → Int32) → (Nat → Int32) → (Nat → Int32) → (Nat → Int64) → (Nat → Int32) → Int32 → Prop
abbrev wd_RG (ad : Nat → Nat) (ck : Nat → ClassId) (rsize : Int32) (rval : Int64) (risP : Int32) (cnt : Int32) (look : Int32) (bad : Int32) (byZ : Int32) (inr : Int32) (rpl : Int32) (hld : Int32) (store : Nat → Int32) (tAt : Nat → Int32) (tSz : Nat → Int32) (hSg : Nat → Int32) (hVl : Nat → Int64) (hPl : Nat → Int32) : va_W := [(ad 11, .inr (5, [.int rsize, .ref (ad 12), .long rval, .int risP, .int cnt, .ref (ad 13), .ref (ad 14), .int look, .int bad, .int byZ, .int inr, .int rpl, .int hld, .ref (ad 15), .ref (ad 16), .ref (ad 17)])), (ad 12, .inl (ck 6, 4096, .inl store)), (ad 13, .inl (ck 7, 4096, .inl tAt)), (ad 14, .inl (ck 8, 4096, .inl tSz)), (ad 15, .inl (ck 9, 800, .inl hSg)), (ad 16, .inl (ck 10, 800, .inr (.inl hVl))), (ad 17, .inl (ck 11, 800, .inl hPl))]
def rmG (d : Nat) : Room := { frames := d + 12, cells := 0, slots := 0, locals := d * 40 + 260 }
def KC (l : Launch) (dC : Nat → ClassId) (dI : Nat → Nat → Nat) (ad : Nat → Nat) (ck : Nat → ClassId) (sa sv : Nat → Nat) (sf : Option Nat) (y : MethodName) (ws : List Cond) (rm : Room) (Wx : TG) : Prop := ∀ (rsize : Int32) (rval : Int64) (risP : Int32) (cnt : Int32) (look : Int32) (bad : Int32) (byZ : Int32) (inr : Int32) (rpl : Int32) (hld : Int32) (store : Nat → Int32) (tAt : Nat → Int32) (tSz : Nat → Int32) (hSg : Nat → Int32) (hVl : Nat → Int64) (hPl : Nat → Int32) (p0 : Int32) (post : Int64 → Int32 → Int32 → Int32 → Int32 → Int32 → Int32 → (Nat → Int32) → (Nat → Int64) → (Nat → Int32) → Prop), Wx post rsize rval risP cnt look bad byZ inr rpl hld store tAt tSz hSg hVl hPl p0 → k_Cl l y ws rm (dC, dI) vwCl (TYr ck) (XR sa sv sf) [.ref (ad 11), .int p0] (wd_RG ad ck rsize rval risP cnt look bad byZ inr rpl hld store tAt tSz hSg hVl hPl) (fun (r : Int64) (u : Int32 × Int32 × Int32 × Int32 × Int32 × Int32 × (Nat → Int32) × (Nat → Int64) × (Nat → Int32)) => post r u.1 u.2.1 u.2.2.1 u.2.2.2.1 u.2.2.2.2.1 u.2.2.2.2.2.1 u.2.2.2.2.2.2.1 u.2.2.2.2.2.2.2.1 u.2.2.2.2.2.2.2.2) (fun (u : Int32 × Int32 × Int32 × Int32 × Int32 × Int32 × (Nat → Int32) × (Nat → Int64) × (Nat → Int32)) => wd_RG ad ck rsize rval risP cnt u.1 u.2.1 u.2.2.1 u.2.2.2.1 u.2.2.2.2.1 u.2.2.2.2.2.1 store tAt tSz u.2.2.2.2.2.2.1 u.2.2.2.2.2.2.2.1 u.2.2.2.2.2.2.2.2)
def w_R_choice_161 (W_c W_e W_f : TG) (post : Int64 → Int32 → Int32 → Int32 → Int32 → Int32 → Int32 → (Nat → Int32) → (Nat → Int64) → (Nat → Int32) → Prop) (x2 : Int64) (x4 : Int64) (x6 : Int32) (z0 : Int64) (rsize : Int32) (rval : Int64) (risP : Int32) (cnt : Int32) (look : Int32) (bad : Int32) (byZ : Int32) (inr : Int32) (rpl : Int32) (hld : Int32) (store : Nat → Int32) (tAt : Nat → Int32) (tSz : Nat → Int32) (hSg : Nat → Int32) (hVl : Nat → Int64) (hPl : Nat → Int32) : Prop := ∀ inr_45 : Int32, inr_45 = (inr - 1) → ((x6 = 0 → ((rpl = 0 → (((lg_cmp x2 0) = 0 → (post z0 look bad byZ inr_45 0 hld hSg hVl hPl)) ∧ (¬ (lg_cmp x2 0) = 0 → (post x4 look bad byZ inr_45 0 hld hSg hVl hPl)))) ∧ (¬ rpl = 0 → (((lg_cmp x2 0) = 0 → (post z0 look bad byZ inr_45 1 hld hSg hVl hPl)) ∧ (¬ (lg_cmp x2 0) = 0 → (post x4 look bad byZ inr_45 1 hld hSg hVl hPl)))))) ∧ (¬ x6 = 0 → (((lg_cmp x2 0) = 0 → (post z0 look bad byZ inr_45 1 hld hSg hVl hPl)) ∧ (¬ (lg_cmp x2 0) = 0 → (post x4 look bad byZ inr_45 1 hld hSg hVl hPl)))))
def w_R_choice_124 (W_c W_e W_f : TG) (post : Int64 → Int32 → Int32 → Int32 → Int32 → Int32 → Int32 → (Nat → Int32) → (Nat → Int64) → (Nat → Int32) → Prop) (x1 : Int32) (x2 : Int64) (x4 : Int64) (x6 : Int32) (z0 : Int32) (rsize : Int32) (rval : Int64) (risP : Int32) (cnt : Int32) (look : Int32) (bad : Int32) (byZ : Int32) (inr : Int32) (rpl : Int32) (hld : Int32) (store : Nat → Int32) (tAt : Nat → Int32) (tSz : Nat → Int32) (hSg : Nat → Int32) (hVl : Nat → Int64) (hPl : Nat → Int32) : Prop := vz z0 ∧ (wp_R_goOn (fun (look_32 : Int32) => (z0 = 0 → ((x1 = 0 → (W_c (fun (r_35 : Int64) (look_36 : Int32) (bad_37 : Int32) (byZ_38 : Int32) (inr_39 : Int32) (rpl_40 : Int32) (hld_41 : Int32) (hSg_42 : Nat → Int32) (hVl_43 : Nat → Int64) (hPl_44 : Nat → Int32) => w_R_choice_161 W_c W_e W_f post x2 x4 x6 r_35 rsize rval risP cnt look_36 bad_37 byZ_38 inr_39 rpl_40 hld_41 store tAt tSz hSg_42 hVl_43 hPl_44) rsize rval risP cnt look_32 z0 byZ inr rpl hld store tAt tSz hSg hVl hPl 0)) ∧ (¬ x1 = 0 → (((lg_cmp x2 0) = 0 → (W_c (fun (r_62 : Int64) (look_63 : Int32) (bad_64 : Int32) (byZ_65 : Int32) (inr_66 : Int32) (rpl_67 : Int32) (hld_68 : Int32) (hSg_69 : Nat → Int32) (hVl_70 : Nat → Int64) (hPl_71 : Nat → Int32) => w_R_choice_161 W_c W_e W_f post x2 x4 x6 r_62 rsize rval risP cnt look_63 bad_64 byZ_65 inr_66 rpl_67 hld_68 store tAt tSz hSg_69 hVl_70 hPl_71) rsize rval risP cnt look_32 z0 byZ inr rpl hld store tAt tSz hSg hVl hPl 1)) ∧ (¬ (lg_cmp x2 0) = 0 → (W_c (fun (r_52 : Int64) (look_53 : Int32) (bad_54 : Int32) (byZ_55 : Int32) (inr_56 : Int32) (rpl_57 : Int32) (hld_58 : Int32) (hSg_59 : Nat → Int32) (hVl_60 : Nat → Int64) (hPl_61 : Nat → Int32) => w_R_choice_161 W_c W_e W_f post x2 x4 x6 r_52 rsize rval risP cnt look_53 bad_54 byZ_55 inr_56 rpl_57 hld_58 store tAt tSz hSg_59 hVl_60 hPl_61) rsize rval risP cnt look_32 z0 byZ inr rpl hld store tAt tSz hSg hVl hPl 0)))))) ∧ (¬ z0 = 0 → (w_R_choice_161 W_c W_e W_f post x2 x4 x6 0 rsize rval risP cnt look_32 z0 byZ inr rpl hld store tAt tSz hSg hVl hPl))) rsize rval risP cnt look z0 byZ inr rpl hld)
def w_R_choice_90 (W_c W_e W_f : TG) (post : Int64 → Int32 → Int32 → Int32 → Int32 → Int32 → Int32 → (Nat → Int32) → (Nat → Int64) → (Nat → Int32) → Prop) (x1 : Int32) (x2 : Int64) (z0 : Int64) (rsize : Int32) (rval : Int64) (risP : Int32) (cnt : Int32) (look : Int32) (bad : Int32) (byZ : Int32) (inr : Int32) (rpl : Int32) (hld : Int32) (store : Nat → Int32) (tAt : Nat → Int32) (tSz : Nat → Int32) (hSg : Nat → Int32) (hVl : Nat → Int64) (hPl : Nat → Int32) : Prop := (bad = 0 → (wp_R_is (fun (r_72 : Int32) => (r_72 = 0 → (w_R_choice_124 W_c W_e W_f post x1 x2 z0 rpl 1 rsize rval risP cnt look bad byZ inr rpl hld store tAt tSz hSg hVl hPl)) ∧ (¬ r_72 = 0 → (w_R_choice_124 W_c W_e W_f post x1 x2 z0 rpl 0 rsize rval risP cnt look bad byZ inr rpl hld store tAt tSz hSg hVl hPl))) rsize rval risP cnt look bad byZ inr rpl hld store tAt tSz look 27)) ∧ (¬ bad = 0 → (w_R_choice_124 W_c W_e W_f post x1 x2 z0 rpl 1 rsize rval risP cnt look bad byZ inr rpl hld store tAt tSz hSg hVl hPl))
def w_R_choice_57 (W_c W_e W_f : TG) (post : Int64 → Int32 → Int32 → Int32 → Int32 → Int32 → Int32 → (Nat → Int32) → (Nat → Int64) → (Nat → Int32) → Prop) (x1 : Int32) (x2 : Int64) (z0 : Int32) (rsize : Int32) (rval : Int64) (risP : Int32) (cnt : Int32) (look : Int32) (bad : Int32) (byZ : Int32) (inr : Int32) (rpl : Int32) (hld : Int32) (store : Nat → Int32) (tAt : Nat → Int32) (tSz : Nat → Int32) (hSg : Nat → Int32) (hVl : Nat → Int64) (hPl : Nat → Int32) : Prop := vz z0 ∧ ((z0 = 0 → ((x1 = 0 → (W_c (fun (r_20 : Int64) (look_21 : Int32) (bad_22 : Int32) (byZ_23 : Int32) (inr_24 : Int32) (rpl_25 : Int32) (hld_26 : Int32) (hSg_27 : Nat → Int32) (hVl_28 : Nat → Int64) (hPl_29 : Nat → Int32) => w_R_choice_90 W_c W_e W_f post x1 x2 r_20 rsize rval risP cnt look_21 bad_22 byZ_23 inr_24 rpl_25 hld_26 store tAt tSz hSg_27 hVl_28 hPl_29) rsize rval risP cnt look z0 byZ inr rpl hld store tAt tSz hSg hVl hPl 0)) ∧ (¬ x1 = 0 → (((lg_cmp x2 0) = 0 → (W_c (fun (r_75 : Int64) (look_76 : Int32) (bad_77 : Int32) (byZ_78 : Int32) (inr_79 : Int32) (rpl_80 : Int32) (hld_81 : Int32) (hSg_82 : Nat → Int32) (hVl_83 : Nat → Int64) (hPl_84 : Nat → Int32) => w_R_choice_90 W_c W_e W_f post x1 x2 r_75 rsize rval risP cnt look_76 bad_77 byZ_78 inr_79 rpl_80 hld_81 store tAt tSz hSg_82 hVl_83 hPl_84) rsize rval risP cnt look z0 byZ inr rpl hld store tAt tSz hSg hVl hPl 0)) ∧ (¬ (lg_cmp x2 0) = 0 → (W_c (fun (r_85 : Int64) (look_86 : Int32) (bad_87 : Int32) (byZ_88 : Int32) (inr_89 : Int32) (rpl_90 : Int32) (hld_91 : Int32) (hSg_92 : Nat → Int32) (hVl_93 : Nat → Int64) (hPl_94 : Nat → Int32) => w_R_choice_90 W_c W_e W_f post x1 x2 r_85 rsize rval risP cnt look_86 bad_87 byZ_88 inr_89 rpl_90 hld_91 store tAt tSz hSg_92 hVl_93 hPl_94) rsize rval risP cnt look z0 byZ inr rpl hld store tAt tSz hSg hVl hPl 1)))))) ∧ (¬ z0 = 0 → (w_R_choice_90 W_c W_e W_f post x1 x2 0 rsize rval risP cnt look z0 byZ inr rpl hld store tAt tSz hSg hVl hPl)))
def wb_R_choice (W_c W_e W_f : TG) (post : Int64 → Int32 → Int32 → Int32 → Int32 → Int32 → Int32 → (Nat → Int32) → (Nat → Int64) → (Nat → Int32) → Prop) (rsize : Int32) (rval : Int64) (risP : Int32) (cnt : Int32) (look : Int32) (bad : Int32) (byZ : Int32) (inr : Int32) (rpl : Int32) (hld : Int32) (store : Nat → Int32) (tAt : Nat → Int32) (tSz : Nat → Int32) (hSg : Nat → Int32) (hVl : Nat → Int64) (hPl : Nat → Int32) (p0 : Int32) : Prop := W_e (fun (r_1 : Int64) (look_2 : Int32) (bad_3 : Int32) (byZ_4 : Int32) (inr_5 : Int32) (rpl_6 : Int32) (hld_7 : Int32) (hSg_8 : Nat → Int32) (hVl_9 : Nat → Int64) (hPl_10 : Nat → Int32) => (bad_3 = 0 → (wp_R_is (fun (r_12 : Int32) => (r_12 = 0 → (post r_1 look_2 bad_3 byZ_4 inr_5 rpl_6 hld_7 hSg_8 hVl_9 hPl_10)) ∧ (¬ r_12 = 0 → (wp_R_goOn (fun (look_14 : Int32) => ∀ inr_15 : Int32, inr_15 = (inr_5 + 1) → ((inr_15 ≤ 60 → (w_R_choice_57 W_c W_e W_f post p0 r_1 0 rsize rval risP cnt look_14 bad_3 byZ_4 inr_15 rpl_6 hld_7 store tAt tSz hSg_8 hVl_9 hPl_10)) ∧ (¬ inr_15 ≤ 60 → (w_R_choice_57 W_c W_e W_f post p0 r_1 1 rsize rval risP cnt look_14 bad_3 byZ_4 inr_15 rpl_6 hld_7 store tAt tSz hSg_8 hVl_9 hPl_10)))) rsize rval risP cnt look_2 bad_3 byZ_4 inr_5 rpl_6 hld_7))) rsize rval risP cnt look_2 bad_3 byZ_4 inr_5 rpl_6 hld_7 store tAt tSz look_2 26)) ∧ (¬ bad_3 = 0 → (post r_1 look_2 bad_3 byZ_4 inr_5 rpl_6 hld_7 hSg_8 hVl_9 hPl_10))) rsize rval risP cnt look bad byZ inr rpl hld store tAt tSz hSg hVl hPl p0
set_option maxHeartbeats 4000000 in
set_option maxRecDepth 100000 in
theorem kb_R_choice (l : Launch) (dC : Nat → ClassId) (dI : Nat → Nat → Nat) (ad : Nat → Nat) (ck : Nat → ClassId) (sa sv : Nat → Nat) (sf : Option Nat) (d : Nat) {W_c W_e W_f : TG} (g_c : KC l dC dI ad ck sa sv sf y_R_choice ws_R_choice (rmG d) W_c) (g_e : KC l dC dI ad ck sa sv sf y_R_either ws_R_either (rmG d) W_e) (g_f : KC l dC dI ad ck sa sv sf y_R_front ws_R_front (rmG d) W_f) : KC l dC dI ad ck sa sv sf y_R_choice ws_R_choice (rmG (d + 1)) (wb_R_choice W_c W_e W_f) := by
  intro rsize rval risP cnt look bad byZ inr rpl hld store tAt tSz hSg hVl hPl p0 post hw
  intro sz
  refine Met.ofW (cc := c_R_choice) (maxL := 9) (ret := (some .long)) (by decide) rfl ?_
  intro p e s m args below meth c s₁ B hml hv
  obtain ⟨rfl, hsz, hP, hK, hD0, hX⟩ := hv
  have hx := B.exec
  have hb := B.bytes
  have hr := B.returns
  have hts : ∀ w ∈ TB, w.before _ s = true := fun w h => atoms_spec (ws := ws_R_choice) B.pre w (List.mem_cons_of_mem _ h)
  have hown : s.vm.findClass R_R = some m.cls := findClass_of_methodNamed B.named
  have hlocks := B.notSynchronized
  subst hsz
  have hD := hD0.self (sz := s.heap.size)
  generalize hAe : va_A (wd_RG ad ck rsize rval risP cnt look bad byZ inr rpl hld store tAt tSz hSg hVl hPl) s.heap.size = A at hD hX ⊢
  have hA : ∀ q : Nat, s.heap.size ≤ q → A q := fun q h => by rw [← hAe]; exact Or.inr h
  have hS : va_S A s.heap s.heap [] := va_S.rf
  have hP : va_P (dC, dI) vwCl (wd_RG ad ck rsize rval risP cnt look bad byZ inr rpl hld store tAt tSz hSg hVl hPl) s.heap := hP
  have hl := lv_entry ([.ref (ad 11), .int p0]) (n := 9) (Nat.le_of_ble_eq_true rfl)
  rw [lg_entry_eq]
  generalize (lg_sl ([.ref (ad 11), .int p0]) ++ List.replicate (9 - (lg_sl ([.ref (ad 11), .int p0])).length) Slot.unset).toArray = ls at hl ⊢
  have hl : lv_has ls 9 [(0, .ref (ad 11)), (1, .int p0)] := hl
  have L_161 : ∀ (x2 : Int64) (x4 : Int64) (x6 : Int32) (z0 : Int64) (rsize : Int32) (rval : Int64) (risP : Int32) (cnt : Int32) (look : Int32) (bad : Int32) (byZ : Int32) (inr : Int32) (rpl : Int32) (hld : Int32) (store : Nat → Int32) (tAt : Nat → Int32) (tSz : Nat → Int32) (hSg : Nat → Int32) (hVl : Nat → Int64) (hPl : Nat → Int32) (H : Heap) (locs : List Loc) (ls : Array Slot), w_R_choice_161 W_c W_e W_f post x2 x4 x6 z0 rsize rval risP cnt look bad byZ inr rpl hld store tAt tSz hSg hVl hPl → va_P (dC, dI) vwCl (wd_RG ad ck rsize rval risP cnt look bad byZ inr rpl hld store tAt tSz hSg hVl hPl) H → va_D A (wd_RG ad ck rsize rval risP cnt look bad byZ inr rpl hld store tAt tSz hSg hVl hPl) → va_S A s.heap H locs → lv_has ls 9 [(0, .ref (ad 11)), (2, .long x2), (4, .long x4), (6, .int x6)] → W p l e (headSpec ws_R_choice (rmG (d + 1))).room s m ([.ref (ad 11), .int p0] : List Value).toArray below meth c H locs 0 0 (k_Ql below (dC, dI) vwCl (TYr ck) A (fun (r : Int64) (u : Int32 × Int32 × Int32 × Int32 × Int32 × Int32 × (Nat → Int32) × (Nat → Int64) × (Nat → Int32)) => post r u.1 u.2.1 u.2.2.1 u.2.2.2.1 u.2.2.2.2.1 u.2.2.2.2.2.1 u.2.2.2.2.2.2.1 u.2.2.2.2.2.2.2.1 u.2.2.2.2.2.2.2.2) (fun (u : Int32 × Int32 × Int32 × Int32 × Int32 × Int32 × (Nat → Int32) × (Nat → Int64) × (Nat → Int32)) => wd_RG ad ck rsize rval risP cnt u.1 u.2.1 u.2.2.1 u.2.2.2.1 u.2.2.2.2.1 u.2.2.2.2.2.1 store tAt tSz u.2.2.2.2.2.2.1 u.2.2.2.2.2.2.2.1 u.2.2.2.2.2.2.2.2) ([.ref (ad 11), .int p0] : List Value).toArray s) (F0 m 161 ls [.long z0]) := by
    intro x2 x4 x6 z0 rsize rval risP cnt look bad byZ inr rpl hld store tAt tSz hSg hVl hPl H locs ls hw hP hD hS hl
    refine lv_lstore (lv' := [(7, .long z0), (0, .ref (ad 11)), (2, .long x2), (4, .long x4), (6, .int x6)]) hx hb d_R_choice_161 hl (by decide) rfl (fun ls hl => ?_)
    refine lv_aload_n hx hb d_R_choice_163 rfl (lv_at hl 1 rfl) ?_
    refine lv_dup hx hb d_R_choice_164 rfl ?_
    refine va_get (D := (dC, dI)) (ci := 5) (v := .int inr) (C := R_R) (T := T_R) (N := 16) hx hb hts in_R hown hK hP 0 rfl rfl 10 (by decide) (hts _ ux_140) (fun _ h9 => h9) rfl d_R_choice_165 ?_
    refine lv_iconst (v := 1) hx hb d_R_choice_168 (by decide) ?_
    refine lv_isub hx hb d_R_choice_169 ?_
    refine lv_topi (fun inr_45 einr_45 => ?_)
    have hw := hw inr_45 einr_45
    refine va_put (D := (dC, dI)) (ci := 5) (v := .int inr_45) (ty := .int) (C := R_R) (T := T_R) (N := 16) hx hb hts in_R ty_R ty_R_ok nm_R hown hK hP hD hS 0 rfl rfl 10 (by decide) (hts _ ux_140) (fun _ h9 => h9) rfl (by decide +kernel) rfl rfl (Nat.le_of_ble_eq_true rfl) d_R_choice_170 (fun H locs hP hD hS => ?_)
    have hP : va_P (dC, dI) vwCl (wd_RG ad ck rsize rval risP cnt look bad byZ inr_45 rpl hld store tAt tSz hSg hVl hPl) H := hP
    have hD : va_D A (wd_RG ad ck rsize rval risP cnt look bad byZ inr_45 rpl hld store tAt tSz hSg hVl hPl) := hD
    refine lv_aload_n hx hb d_R_choice_173 rfl (lv_at hl 1 rfl) ?_
    refine lv_iload hx hb d_R_choice_174 (lv_at hl 4 rfl) ?_
    obtain ⟨hwt, hwf⟩ := hw
    refine lv_if_ne (tgt := 186) hx hb d_R_choice_176 (by decide) (fun c_46 => ?_) (fun c_46 => ?_)
    · have hw := hwf c_46
      refine lv_iconst (v := 1) hx hb d_R_choice_186 (by decide) ?_
      refine lv_goto (tgt := 191) hx hb d_R_choice_187 (by decide) ?_
      refine va_put (D := (dC, dI)) (ci := 5) (v := .int 1) (ty := .boolean) (C := R_R) (T := T_R) (N := 16) hx hb hts in_R ty_R ty_R_ok nm_R hown hK hP hD hS 0 rfl rfl 11 (by decide) (hts _ ux_95) (fun _ h9 => h9) rfl (by decide +kernel) (by decide) (by decide) (Nat.le_of_ble_eq_true rfl) d_R_choice_191 (fun H locs hP hD hS => ?_)
      have hP : va_P (dC, dI) vwCl (wd_RG ad ck rsize rval risP cnt look bad byZ inr_45 1 hld store tAt tSz hSg hVl hPl) H := hP
      have hD : va_D A (wd_RG ad ck rsize rval risP cnt look bad byZ inr_45 1 hld store tAt tSz hSg hVl hPl) := hD
      refine lv_lload_n hx hb d_R_choice_194 rfl (lv_at hl 2 rfl) ?_
      refine lv_lconst (v := 0) hx hb d_R_choice_195 (by decide) ?_
      refine W.lcmp hx hb d_R_choice_196 ?_
      obtain ⟨hwt, hwf⟩ := hw
      refine lv_if_eq (tgt := 205) hx hb d_R_choice_197 (by decide) (fun c_47 => ?_) (fun c_47 => ?_)
      · have hw := hwt c_47
        refine lv_lload hx hb d_R_choice_205 (lv_at hl 0 rfl) ?_
        exact W.lret (v := z0) hx hb hr (fun t ht hW => ⟨⟨z0, (look, bad, byZ, inr_45, 1, hld, hSg, hVl, hPl), rfl, hw, by rw [ht]; exact hP, va_K.moved hW.alike hK, hD⟩, hS.F ht⟩) hS.2.2 d_R_choice_207
      · have hw := hwf c_47
        refine lv_lload hx hb d_R_choice_200 (lv_at hl 3 rfl) ?_
        refine lv_goto (tgt := 207) hx hb d_R_choice_202 (by decide) ?_
        exact W.lret (v := x4) hx hb hr (fun t ht hW => ⟨⟨x4, (look, bad, byZ, inr_45, 1, hld, hSg, hVl, hPl), rfl, hw, by rw [ht]; exact hP, va_K.moved hW.alike hK, hD⟩, hS.F ht⟩) hS.2.2 d_R_choice_207
    · have hw := hwt c_46
      refine lv_aload_n hx hb d_R_choice_179 rfl (lv_at hl 1 rfl) ?_
      refine va_get (D := (dC, dI)) (ci := 5) (v := .int rpl) (C := R_R) (T := T_R) (N := 16) hx hb hts in_R hown hK hP 0 rfl rfl 11 (by decide) (hts _ ux_95) (fun _ h9 => h9) rfl d_R_choice_180 ?_
      obtain ⟨hwt, hwf⟩ := hw
      refine lv_if_eq (tgt := 190) hx hb d_R_choice_183 (by decide) (fun c_48 => ?_) (fun c_48 => ?_)
      · have hw := hwt c_48
        refine lv_iconst (v := 0) hx hb d_R_choice_190 (by decide) ?_
        refine va_put (D := (dC, dI)) (ci := 5) (v := .int 0) (ty := .boolean) (C := R_R) (T := T_R) (N := 16) hx hb hts in_R ty_R ty_R_ok nm_R hown hK hP hD hS 0 rfl rfl 11 (by decide) (hts _ ux_95) (fun _ h9 => h9) rfl (by decide +kernel) (by decide) (by decide) (Nat.le_of_ble_eq_true rfl) d_R_choice_191 (fun H locs hP hD hS => ?_)
        have hP : va_P (dC, dI) vwCl (wd_RG ad ck rsize rval risP cnt look bad byZ inr_45 0 hld store tAt tSz hSg hVl hPl) H := hP
        have hD : va_D A (wd_RG ad ck rsize rval risP cnt look bad byZ inr_45 0 hld store tAt tSz hSg hVl hPl) := hD
        refine lv_lload_n hx hb d_R_choice_194 rfl (lv_at hl 2 rfl) ?_
        refine lv_lconst (v := 0) hx hb d_R_choice_195 (by decide) ?_
        refine W.lcmp hx hb d_R_choice_196 ?_
        obtain ⟨hwt, hwf⟩ := hw
        refine lv_if_eq (tgt := 205) hx hb d_R_choice_197 (by decide) (fun c_49 => ?_) (fun c_49 => ?_)
        · have hw := hwt c_49
          refine lv_lload hx hb d_R_choice_205 (lv_at hl 0 rfl) ?_
          exact W.lret (v := z0) hx hb hr (fun t ht hW => ⟨⟨z0, (look, bad, byZ, inr_45, 0, hld, hSg, hVl, hPl), rfl, hw, by rw [ht]; exact hP, va_K.moved hW.alike hK, hD⟩, hS.F ht⟩) hS.2.2 d_R_choice_207
        · have hw := hwf c_49
          refine lv_lload hx hb d_R_choice_200 (lv_at hl 3 rfl) ?_
          refine lv_goto (tgt := 207) hx hb d_R_choice_202 (by decide) ?_
          exact W.lret (v := x4) hx hb hr (fun t ht hW => ⟨⟨x4, (look, bad, byZ, inr_45, 0, hld, hSg, hVl, hPl), rfl, hw, by rw [ht]; exact hP, va_K.moved hW.alike hK, hD⟩, hS.F ht⟩) hS.2.2 d_R_choice_207
      · have hw := hwf c_48
        refine lv_iconst (v := 1) hx hb d_R_choice_186 (by decide) ?_
        refine lv_goto (tgt := 191) hx hb d_R_choice_187 (by decide) ?_
        refine va_put (D := (dC, dI)) (ci := 5) (v := .int 1) (ty := .boolean) (C := R_R) (T := T_R) (N := 16) hx hb hts in_R ty_R ty_R_ok nm_R hown hK hP hD hS 0 rfl rfl 11 (by decide) (hts _ ux_95) (fun _ h9 => h9) rfl (by decide +kernel) (by decide) (by decide) (Nat.le_of_ble_eq_true rfl) d_R_choice_191 (fun H locs hP hD hS => ?_)
        have hP : va_P (dC, dI) vwCl (wd_RG ad ck rsize rval risP cnt look bad byZ inr_45 1 hld store tAt tSz hSg hVl hPl) H := hP
        have hD : va_D A (wd_RG ad ck rsize rval risP cnt look bad byZ inr_45 1 hld store tAt tSz hSg hVl hPl) := hD
        refine lv_lload_n hx hb d_R_choice_194 rfl (lv_at hl 2 rfl) ?_
        refine lv_lconst (v := 0) hx hb d_R_choice_195 (by decide) ?_
        refine W.lcmp hx hb d_R_choice_196 ?_
        obtain ⟨hwt, hwf⟩ := hw
        refine lv_if_eq (tgt := 205) hx hb d_R_choice_197 (by decide) (fun c_50 => ?_) (fun c_50 => ?_)
        · have hw := hwt c_50
          refine lv_lload hx hb d_R_choice_205 (lv_at hl 0 rfl) ?_
          exact W.lret (v := z0) hx hb hr (fun t ht hW => ⟨⟨z0, (look, bad, byZ, inr_45, 1, hld, hSg, hVl, hPl), rfl, hw, by rw [ht]; exact hP, va_K.moved hW.alike hK, hD⟩, hS.F ht⟩) hS.2.2 d_R_choice_207
        · have hw := hwf c_50
          refine lv_lload hx hb d_R_choice_200 (lv_at hl 3 rfl) ?_
          refine lv_goto (tgt := 207) hx hb d_R_choice_202 (by decide) ?_
          exact W.lret (v := x4) hx hb hr (fun t ht hW => ⟨⟨x4, (look, bad, byZ, inr_45, 1, hld, hSg, hVl, hPl), rfl, hw, by rw [ht]; exact hP, va_K.moved hW.alike hK, hD⟩, hS.F ht⟩) hS.2.2 d_R_choice_207
  have L_124 : ∀ (x1 : Int32) (x2 : Int64) (x4 : Int64) (x6 : Int32) (z0 : Int32) (rsize : Int32) (rval : Int64) (risP : Int32) (cnt : Int32) (look : Int32) (bad : Int32) (byZ : Int32) (inr : Int32) (rpl : Int32) (hld : Int32) (store : Nat → Int32) (tAt : Nat → Int32) (tSz : Nat → Int32) (hSg : Nat → Int32) (hVl : Nat → Int64) (hPl : Nat → Int32) (H : Heap) (locs : List Loc) (ls : Array Slot), w_R_choice_124 W_c W_e W_f post x1 x2 x4 x6 z0 rsize rval risP cnt look bad byZ inr rpl hld store tAt tSz hSg hVl hPl → va_P (dC, dI) vwCl (wd_RG ad ck rsize rval risP cnt look bad byZ inr rpl hld store tAt tSz hSg hVl hPl) H → va_D A (wd_RG ad ck rsize rval risP cnt look bad byZ inr rpl hld store tAt tSz hSg hVl hPl) → va_S A s.heap H locs → lv_has ls 9 [(0, .ref (ad 11)), (1, .int x1), (2, .long x2), (4, .long x4), (6, .int x6)] → W p l e (headSpec ws_R_choice (rmG (d + 1))).room s m ([.ref (ad 11), .int p0] : List Value).toArray below meth c H locs 0 0 (k_Ql below (dC, dI) vwCl (TYr ck) A (fun (r : Int64) (u : Int32 × Int32 × Int32 × Int32 × Int32 × Int32 × (Nat → Int32) × (Nat → Int64) × (Nat → Int32)) => post r u.1 u.2.1 u.2.2.1 u.2.2.2.1 u.2.2.2.2.1 u.2.2.2.2.2.1 u.2.2.2.2.2.2.1 u.2.2.2.2.2.2.2.1 u.2.2.2.2.2.2.2.2) (fun (u : Int32 × Int32 × Int32 × Int32 × Int32 × Int32 × (Nat → Int32) × (Nat → Int64) × (Nat → Int32)) => wd_RG ad ck rsize rval risP cnt u.1 u.2.1 u.2.2.1 u.2.2.2.1 u.2.2.2.2.1 u.2.2.2.2.2.1 store tAt tSz u.2.2.2.2.2.2.1 u.2.2.2.2.2.2.2.1 u.2.2.2.2.2.2.2.2) ([.ref (ad 11), .int p0] : List Value).toArray s) (F0 m 124 ls [.int z0, .ref (ad 11)]) := by
    intro x1 x2 x4 x6 z0 rsize rval risP cnt look bad byZ inr rpl hld store tAt tSz hSg hVl hPl H locs ls hw hP hD hS hl
    obtain ⟨hz_31, hw⟩ := hw
    refine va_put (D := (dC, dI)) (ci := 5) (v := .int z0) (ty := .boolean) (C := R_R) (T := T_R) (N := 16) hx hb hts in_R ty_R ty_R_ok nm_R hown hK hP hD hS 0 rfl rfl 8 (by decide) (hts _ ux_110) (fun _ h9 => h9) rfl (by decide +kernel) (vz_n hz_31) (vz_f hz_31) (Nat.le_of_ble_eq_true rfl) d_R_choice_124 (fun H locs hP hD hS => ?_)
    have hP : va_P (dC, dI) vwCl (wd_RG ad ck rsize rval risP cnt look z0 byZ inr rpl hld store tAt tSz hSg hVl hPl) H := hP
    have hD : va_D A (wd_RG ad ck rsize rval risP cnt look z0 byZ inr rpl hld store tAt tSz hSg hVl hPl) := hD
    refine lv_aload_n hx hb d_R_choice_127 rfl (lv_at hl 0 rfl) ?_
    refine k_callVv (As := []) (rest := []) (fun (u : Int32) => wd_RG ad ck rsize rval risP cnt u z0 byZ inr rpl hld store tAt tSz hSg hVl hPl) ⟨hx, hb, hml, hown, hts⟩ (kc_R_goOn l dC dI ad ck rsize rval risP cnt look z0 byZ inr rpl hld (hw := hw)) (cwV 0 hts (gV ux_136 ux_138 ux_139 ux_49 ux_137) rfl rfl rfl hd_R_goOn ⟨show 0 + 1 ≤ d + 1 + 12 from by omega, show 8 + (1 + 11) + 0 ≤ (d + 1) * 40 + 260 from by omega⟩) hK hP hD hS hA k_x0c trivial [0] [1, 2, 3, 4, 5, 6] [6, 0, 1, 2, 3, 4, 5] rfl rfl (by decide) (by decide) (fun _ => rfl) (va_recv hK hP (ci := 5) (q0 := 0) rfl rfl) rfl hl.1 rfl (lv_room (Nat.le_of_ble_eq_true rfl)) d_R_choice_128 ⟨Nat.zero_le _, Nat.zero_le _⟩ ?_
    intro u H locs hw hP hD hS
    obtain ⟨look_32, rfl⟩ : ∃ z, z = u := ⟨_, rfl⟩
    have hP : va_P (dC, dI) vwCl (wd_RG ad ck rsize rval risP cnt look_32 z0 byZ inr rpl hld store tAt tSz hSg hVl hPl) H := hP
    have hD : va_D A (wd_RG ad ck rsize rval risP cnt look_32 z0 byZ inr rpl hld store tAt tSz hSg hVl hPl) := hD
    try dsimp only at hw
    refine lv_aload_n hx hb d_R_choice_131 rfl (lv_at hl 0 rfl) ?_
    refine va_get (D := (dC, dI)) (ci := 5) (v := .int z0) (C := R_R) (T := T_R) (N := 16) hx hb hts in_R hown hK hP 0 rfl rfl 8 (by decide) (hts _ ux_110) (fun _ h9 => h9) rfl d_R_choice_132 ?_
    obtain ⟨hwt, hwf⟩ := hw
    refine lv_if_eq (tgt := 142) hx hb d_R_choice_135 (by decide) (fun c_33 => ?_) (fun c_33 => ?_)
    · have hw := hwt c_33
      refine lv_aload_n hx hb d_R_choice_142 rfl (lv_at hl 0 rfl) ?_
      refine lv_iload_n hx hb d_R_choice_143 rfl (lv_at hl 1 rfl) ?_
      obtain ⟨hwt, hwf⟩ := hw
      refine lv_if_eq (tgt := 157) hx hb d_R_choice_144 (by decide) (fun c_34 => ?_) (fun c_34 => ?_)
      · have hw := hwt c_34
        refine lv_iconst (v := 0) hx hb d_R_choice_157 (by decide) ?_
        refine k_callVl (As := [.int 0]) (rest := []) (fun (u : Int32 × Int32 × Int32 × Int32 × Int32 × Int32 × (Nat → Int32) × (Nat → Int64) × (Nat → Int32)) => wd_RG ad ck rsize rval risP cnt u.1 u.2.1 u.2.2.1 u.2.2.2.1 u.2.2.2.2.1 u.2.2.2.2.2.1 store tAt tSz u.2.2.2.2.2.2.1 u.2.2.2.2.2.2.2.1 u.2.2.2.2.2.2.2.2) ⟨hx, hb, hml, hown, hts⟩ (g_c rsize rval risP cnt look_32 z0 byZ inr rpl hld store tAt tSz hSg hVl hPl 0 _ hw) (cwV 1 hts (gV ux_141 ux_143 ux_144 ux_49 ux_142) rfl rfl rfl hd_R_choice ⟨show d + 12 + 1 ≤ d + 1 + 12 from by omega, show 8 + (9 + 11) + (d * 40 + 260) ≤ (d + 1) * 40 + 260 from by omega⟩) hK hP hD hS hA (XR_c sa sv sf) hX [0, 1, 2, 3, 4, 5, 6] [] [0, 1, 2, 3, 4, 5, 6] rfl rfl (by decide) (by decide) (fun _ => rfl) (va_recv hK hP (ci := 5) (q0 := 0) rfl rfl) rfl hl.1 rfl (lv_room (Nat.le_of_ble_eq_true rfl)) d_R_choice_158 ⟨Nat.zero_le _, Nat.zero_le _⟩ ?_
        intro r_35 u H locs hw hP hD hS
        obtain ⟨look_36, bad_37, byZ_38, inr_39, rpl_40, hld_41, hSg_42, hVl_43, hPl_44⟩ := u
        have hP : va_P (dC, dI) vwCl (wd_RG ad ck rsize rval risP cnt look_36 bad_37 byZ_38 inr_39 rpl_40 hld_41 store tAt tSz hSg_42 hVl_43 hPl_44) H := hP
        have hD : va_D A (wd_RG ad ck rsize rval risP cnt look_36 bad_37 byZ_38 inr_39 rpl_40 hld_41 store tAt tSz hSg_42 hVl_43 hPl_44) := hD
        try dsimp only at hw
        exact L_161 x2 x4 x6 r_35 rsize rval risP cnt look_36 bad_37 byZ_38 inr_39 rpl_40 hld_41 store tAt tSz hSg_42 hVl_43 hPl_44 _ _ _ hw hP hD hS (lv_sub hl [0, 2, 3, 4] rfl)
      · have hw := hwf c_34
        refine lv_lload_n hx hb d_R_choice_147 rfl (lv_at hl 2 rfl) ?_
        refine lv_lconst (v := 0) hx hb d_R_choice_148 (by decide) ?_
        refine W.lcmp hx hb d_R_choice_149 ?_
        obtain ⟨hwt, hwf⟩ := hw
        refine lv_if_ne (tgt := 157) hx hb d_R_choice_150 (by decide) (fun c_51 => ?_) (fun c_51 => ?_)
        · have hw := hwf c_51
          refine lv_iconst (v := 0) hx hb d_R_choice_157 (by decide) ?_
          refine k_callVl (As := [.int 0]) (rest := []) (fun (u : Int32 × Int32 × Int32 × Int32 × Int32 × Int32 × (Nat → Int32) × (Nat → Int64) × (Nat → Int32)) => wd_RG ad ck rsize rval risP cnt u.1 u.2.1 u.2.2.1 u.2.2.2.1 u.2.2.2.2.1 u.2.2.2.2.2.1 store tAt tSz u.2.2.2.2.2.2.1 u.2.2.2.2.2.2.2.1 u.2.2.2.2.2.2.2.2) ⟨hx, hb, hml, hown, hts⟩ (g_c rsize rval risP cnt look_32 z0 byZ inr rpl hld store tAt tSz hSg hVl hPl 0 _ hw) (cwV 1 hts (gV ux_141 ux_143 ux_144 ux_49 ux_142) rfl rfl rfl hd_R_choice ⟨show d + 12 + 1 ≤ d + 1 + 12 from by omega, show 8 + (9 + 11) + (d * 40 + 260) ≤ (d + 1) * 40 + 260 from by omega⟩) hK hP hD hS hA (XR_c sa sv sf) hX [0, 1, 2, 3, 4, 5, 6] [] [0, 1, 2, 3, 4, 5, 6] rfl rfl (by decide) (by decide) (fun _ => rfl) (va_recv hK hP (ci := 5) (q0 := 0) rfl rfl) rfl hl.1 rfl (lv_room (Nat.le_of_ble_eq_true rfl)) d_R_choice_158 ⟨Nat.zero_le _, Nat.zero_le _⟩ ?_
          intro r_52 u H locs hw hP hD hS
          obtain ⟨look_53, bad_54, byZ_55, inr_56, rpl_57, hld_58, hSg_59, hVl_60, hPl_61⟩ := u
          have hP : va_P (dC, dI) vwCl (wd_RG ad ck rsize rval risP cnt look_53 bad_54 byZ_55 inr_56 rpl_57 hld_58 store tAt tSz hSg_59 hVl_60 hPl_61) H := hP
          have hD : va_D A (wd_RG ad ck rsize rval risP cnt look_53 bad_54 byZ_55 inr_56 rpl_57 hld_58 store tAt tSz hSg_59 hVl_60 hPl_61) := hD
          try dsimp only at hw
          exact L_161 x2 x4 x6 r_52 rsize rval risP cnt look_53 bad_54 byZ_55 inr_56 rpl_57 hld_58 store tAt tSz hSg_59 hVl_60 hPl_61 _ _ _ hw hP hD hS (lv_sub hl [0, 2, 3, 4] rfl)
        · have hw := hwt c_51
          refine lv_iconst (v := 1) hx hb d_R_choice_153 (by decide) ?_
          refine lv_goto (tgt := 158) hx hb d_R_choice_154 (by decide) ?_
          refine k_callVl (As := [.int 1]) (rest := []) (fun (u : Int32 × Int32 × Int32 × Int32 × Int32 × Int32 × (Nat → Int32) × (Nat → Int64) × (Nat → Int32)) => wd_RG ad ck rsize rval risP cnt u.1 u.2.1 u.2.2.1 u.2.2.2.1 u.2.2.2.2.1 u.2.2.2.2.2.1 store tAt tSz u.2.2.2.2.2.2.1 u.2.2.2.2.2.2.2.1 u.2.2.2.2.2.2.2.2) ⟨hx, hb, hml, hown, hts⟩ (g_c rsize rval risP cnt look_32 z0 byZ inr rpl hld store tAt tSz hSg hVl hPl 1 _ hw) (cwV 1 hts (gV ux_141 ux_143 ux_144 ux_49 ux_142) rfl rfl rfl hd_R_choice ⟨show d + 12 + 1 ≤ d + 1 + 12 from by omega, show 8 + (9 + 11) + (d * 40 + 260) ≤ (d + 1) * 40 + 260 from by omega⟩) hK hP hD hS hA (XR_c sa sv sf) hX [0, 1, 2, 3, 4, 5, 6] [] [0, 1, 2, 3, 4, 5, 6] rfl rfl (by decide) (by decide) (fun _ => rfl) (va_recv hK hP (ci := 5) (q0 := 0) rfl rfl) rfl hl.1 rfl (lv_room (Nat.le_of_ble_eq_true rfl)) d_R_choice_158 ⟨Nat.zero_le _, Nat.zero_le _⟩ ?_
          intro r_62 u H locs hw hP hD hS
          obtain ⟨look_63, bad_64, byZ_65, inr_66, rpl_67, hld_68, hSg_69, hVl_70, hPl_71⟩ := u
          have hP : va_P (dC, dI) vwCl (wd_RG ad ck rsize rval risP cnt look_63 bad_64 byZ_65 inr_66 rpl_67 hld_68 store tAt tSz hSg_69 hVl_70 hPl_71) H := hP
          have hD : va_D A (wd_RG ad ck rsize rval risP cnt look_63 bad_64 byZ_65 inr_66 rpl_67 hld_68 store tAt tSz hSg_69 hVl_70 hPl_71) := hD
          try dsimp only at hw
          exact L_161 x2 x4 x6 r_62 rsize rval risP cnt look_63 bad_64 byZ_65 inr_66 rpl_67 hld_68 store tAt tSz hSg_69 hVl_70 hPl_71 _ _ _ hw hP hD hS (lv_sub hl [0, 2, 3, 4] rfl)
    · have hw := hwf c_33
      refine lv_lconst (v := 0) hx hb d_R_choice_138 (by decide) ?_
      refine lv_goto (tgt := 161) hx hb d_R_choice_139 (by decide) ?_
      exact L_161 x2 x4 x6 0 rsize rval risP cnt look_32 z0 byZ inr rpl hld store tAt tSz hSg hVl hPl _ _ _ hw hP hD hS (lv_sub hl [0, 2, 3, 4] rfl)
  have L_90 : ∀ (x1 : Int32) (x2 : Int64) (z0 : Int64) (rsize : Int32) (rval : Int64) (risP : Int32) (cnt : Int32) (look : Int32) (bad : Int32) (byZ : Int32) (inr : Int32) (rpl : Int32) (hld : Int32) (store : Nat → Int32) (tAt : Nat → Int32) (tSz : Nat → Int32) (hSg : Nat → Int32) (hVl : Nat → Int64) (hPl : Nat → Int32) (H : Heap) (locs : List Loc) (ls : Array Slot), w_R_choice_90 W_c W_e W_f post x1 x2 z0 rsize rval risP cnt look bad byZ inr rpl hld store tAt tSz hSg hVl hPl → va_P (dC, dI) vwCl (wd_RG ad ck rsize rval risP cnt look bad byZ inr rpl hld store tAt tSz hSg hVl hPl) H → va_D A (wd_RG ad ck rsize rval risP cnt look bad byZ inr rpl hld store tAt tSz hSg hVl hPl) → va_S A s.heap H locs → lv_has ls 9 [(0, .ref (ad 11)), (1, .int x1), (2, .long x2)] → W p l e (headSpec ws_R_choice (rmG (d + 1))).room s m ([.ref (ad 11), .int p0] : List Value).toArray below meth c H locs 0 0 (k_Ql below (dC, dI) vwCl (TYr ck) A (fun (r : Int64) (u : Int32 × Int32 × Int32 × Int32 × Int32 × Int32 × (Nat → Int32) × (Nat → Int64) × (Nat → Int32)) => post r u.1 u.2.1 u.2.2.1 u.2.2.2.1 u.2.2.2.2.1 u.2.2.2.2.2.1 u.2.2.2.2.2.2.1 u.2.2.2.2.2.2.2.1 u.2.2.2.2.2.2.2.2) (fun (u : Int32 × Int32 × Int32 × Int32 × Int32 × Int32 × (Nat → Int32) × (Nat → Int64) × (Nat → Int32)) => wd_RG ad ck rsize rval risP cnt u.1 u.2.1 u.2.2.1 u.2.2.2.1 u.2.2.2.2.1 u.2.2.2.2.2.1 store tAt tSz u.2.2.2.2.2.2.1 u.2.2.2.2.2.2.2.1 u.2.2.2.2.2.2.2.2) ([.ref (ad 11), .int p0] : List Value).toArray s) (F0 m 90 ls [.long z0]) := by
    intro x1 x2 z0 rsize rval risP cnt look bad byZ inr rpl hld store tAt tSz hSg hVl hPl H locs ls hw hP hD hS hl
    refine lv_lstore (lv' := [(4, .long z0), (0, .ref (ad 11)), (1, .int x1), (2, .long x2)]) hx hb d_R_choice_90 hl (by decide) rfl (fun ls hl => ?_)
    refine lv_aload_n hx hb d_R_choice_92 rfl (lv_at hl 1 rfl) ?_
    refine va_get (D := (dC, dI)) (ci := 5) (v := .int rpl) (C := R_R) (T := T_R) (N := 16) hx hb hts in_R hown hK hP 0 rfl rfl 11 (by decide) (hts _ ux_95) (fun _ h9 => h9) rfl d_R_choice_93 ?_
    refine lv_istore (lv' := [(6, .int rpl), (4, .long z0), (0, .ref (ad 11)), (1, .int x1), (2, .long x2)]) hx hb d_R_choice_96 hl (by decide) rfl (fun ls hl => ?_)
    refine lv_aload_n hx hb d_R_choice_98 rfl (lv_at hl 2 rfl) ?_
    refine lv_aload_n hx hb d_R_choice_99 rfl (lv_at hl 2 rfl) ?_
    refine va_get (D := (dC, dI)) (ci := 5) (v := .int bad) (C := R_R) (T := T_R) (N := 16) hx hb hts in_R hown hK hP 0 rfl rfl 8 (by decide) (hts _ ux_110) (fun _ h9 => h9) rfl d_R_choice_100 ?_
    obtain ⟨hwt, hwf⟩ := hw
    refine lv_if_ne (tgt := 119) hx hb d_R_choice_103 (by decide) (fun c_30 => ?_) (fun c_30 => ?_)
    · have hw := hwf c_30
      refine lv_iconst (v := 1) hx hb d_R_choice_119 (by decide) ?_
      refine lv_goto (tgt := 124) hx hb d_R_choice_120 (by decide) ?_
      exact L_124 x1 x2 z0 rpl 1 rsize rval risP cnt look bad byZ inr rpl hld store tAt tSz hSg hVl hPl _ _ _ hw hP hD hS (lv_sub hl [2, 3, 4, 1, 0] rfl)
    · have hw := hwt c_30
      refine lv_aload_n hx hb d_R_choice_106 rfl (lv_at hl 2 rfl) ?_
      refine lv_aload_n hx hb d_R_choice_107 rfl (lv_at hl 2 rfl) ?_
      refine va_get (D := (dC, dI)) (ci := 5) (v := .int look) (C := R_R) (T := T_R) (N := 16) hx hb hts in_R hown hK hP 0 rfl rfl 7 (by decide) (hts _ ux_83) (fun _ h9 => h9) rfl d_R_choice_108 ?_
      refine va_ldcS hx hb hown (hX.1 _ rs_27) d_R_choice_111 ?_
      refine k_callVi (As := [.int look, .ref (sa 27)]) (rest := [.ref (ad 11)]) (fun (u : Unit) => wd_RG ad ck rsize rval risP cnt look bad byZ inr rpl hld store tAt tSz hSg hVl hPl) ⟨hx, hb, hml, hown, hts⟩ (kc_R_is l dC dI ad ck sa sv sf rsize rval risP cnt look bad byZ inr rpl hld store tAt tSz look 27 (hw := hw)) (cwV 2 hts (gV ux_87 ux_89 ux_90 ux_49 ux_88) rfl rfl rfl hd_R_is ⟨show 4 + 1 ≤ d + 1 + 12 from by omega, show 8 + (5 + 11) + 85 ≤ (d + 1) * 40 + 260 from by omega⟩) hK hP hD hS hA (XR_c sa sv sf) hX [0, 1, 2, 3] [4, 5, 6] [3, 4, 5, 6, 0, 1, 2] rfl rfl (by decide) (by decide) (fun _ => rfl) (va_recv hK hP (ci := 5) (q0 := 0) rfl rfl) rfl hl.1 rfl (lv_room (Nat.le_of_ble_eq_true rfl)) d_R_choice_113 ⟨Nat.zero_le _, Nat.zero_le _⟩ ?_
      intro r_72 u H locs hw hP hD hS
      have hP : va_P (dC, dI) vwCl (wd_RG ad ck rsize rval risP cnt look bad byZ inr rpl hld store tAt tSz hSg hVl hPl) H := hP
      have hD : va_D A (wd_RG ad ck rsize rval risP cnt look bad byZ inr rpl hld store tAt tSz hSg hVl hPl) := hD
      try dsimp only at hw
      obtain ⟨hwt, hwf⟩ := hw
      refine lv_if_ne (tgt := 123) hx hb d_R_choice_116 (by decide) (fun c_73 => ?_) (fun c_73 => ?_)
      · have hw := hwf c_73
        refine lv_iconst (v := 0) hx hb d_R_choice_123 (by decide) ?_
        exact L_124 x1 x2 z0 rpl 0 rsize rval risP cnt look bad byZ inr rpl hld store tAt tSz hSg hVl hPl _ _ _ hw hP hD hS (lv_sub hl [2, 3, 4, 1, 0] rfl)
      · have hw := hwt c_73
        refine lv_iconst (v := 1) hx hb d_R_choice_119 (by decide) ?_
        refine lv_goto (tgt := 124) hx hb d_R_choice_120 (by decide) ?_
        exact L_124 x1 x2 z0 rpl 1 rsize rval risP cnt look bad byZ inr rpl hld store tAt tSz hSg hVl hPl _ _ _ hw hP hD hS (lv_sub hl [2, 3, 4, 1, 0] rfl)
  have L_57 : ∀ (x1 : Int32) (x2 : Int64) (z0 : Int32) (rsize : Int32) (rval : Int64) (risP : Int32) (cnt : Int32) (look : Int32) (bad : Int32) (byZ : Int32) (inr : Int32) (rpl : Int32) (hld : Int32) (store : Nat → Int32) (tAt : Nat → Int32) (tSz : Nat → Int32) (hSg : Nat → Int32) (hVl : Nat → Int64) (hPl : Nat → Int32) (H : Heap) (locs : List Loc) (ls : Array Slot), w_R_choice_57 W_c W_e W_f post x1 x2 z0 rsize rval risP cnt look bad byZ inr rpl hld store tAt tSz hSg hVl hPl → va_P (dC, dI) vwCl (wd_RG ad ck rsize rval risP cnt look bad byZ inr rpl hld store tAt tSz hSg hVl hPl) H → va_D A (wd_RG ad ck rsize rval risP cnt look bad byZ inr rpl hld store tAt tSz hSg hVl hPl) → va_S A s.heap H locs → lv_has ls 9 [(0, .ref (ad 11)), (1, .int x1), (2, .long x2)] → W p l e (headSpec ws_R_choice (rmG (d + 1))).room s m ([.ref (ad 11), .int p0] : List Value).toArray below meth c H locs 0 0 (k_Ql below (dC, dI) vwCl (TYr ck) A (fun (r : Int64) (u : Int32 × Int32 × Int32 × Int32 × Int32 × Int32 × (Nat → Int32) × (Nat → Int64) × (Nat → Int32)) => post r u.1 u.2.1 u.2.2.1 u.2.2.2.1 u.2.2.2.2.1 u.2.2.2.2.2.1 u.2.2.2.2.2.2.1 u.2.2.2.2.2.2.2.1 u.2.2.2.2.2.2.2.2) (fun (u : Int32 × Int32 × Int32 × Int32 × Int32 × Int32 × (Nat → Int32) × (Nat → Int64) × (Nat → Int32)) => wd_RG ad ck rsize rval risP cnt u.1 u.2.1 u.2.2.1 u.2.2.2.1 u.2.2.2.2.1 u.2.2.2.2.2.1 store tAt tSz u.2.2.2.2.2.2.1 u.2.2.2.2.2.2.2.1 u.2.2.2.2.2.2.2.2) ([.ref (ad 11), .int p0] : List Value).toArray s) (F0 m 57 ls [.int z0, .ref (ad 11)]) := by
    intro x1 x2 z0 rsize rval risP cnt look bad byZ inr rpl hld store tAt tSz hSg hVl hPl H locs ls hw hP hD hS hl
    obtain ⟨hz_17, hw⟩ := hw
    refine va_put (D := (dC, dI)) (ci := 5) (v := .int z0) (ty := .boolean) (C := R_R) (T := T_R) (N := 16) hx hb hts in_R ty_R ty_R_ok nm_R hown hK hP hD hS 0 rfl rfl 8 (by decide) (hts _ ux_110) (fun _ h9 => h9) rfl (by decide +kernel) (vz_n hz_17) (vz_f hz_17) (Nat.le_of_ble_eq_true rfl) d_R_choice_57 (fun H locs hP hD hS => ?_)
    have hP : va_P (dC, dI) vwCl (wd_RG ad ck rsize rval risP cnt look z0 byZ inr rpl hld store tAt tSz hSg hVl hPl) H := hP
    have hD : va_D A (wd_RG ad ck rsize rval risP cnt look z0 byZ inr rpl hld store tAt tSz hSg hVl hPl) := hD
    refine lv_aload_n hx hb d_R_choice_60 rfl (lv_at hl 0 rfl) ?_
    refine va_get (D := (dC, dI)) (ci := 5) (v := .int z0) (C := R_R) (T := T_R) (N := 16) hx hb hts in_R hown hK hP 0 rfl rfl 8 (by decide) (hts _ ux_110) (fun _ h9 => h9) rfl d_R_choice_61 ?_
    obtain ⟨hwt, hwf⟩ := hw
    refine lv_if_eq (tgt := 71) hx hb d_R_choice_64 (by decide) (fun c_18 => ?_) (fun c_18 => ?_)
    · have hw := hwt c_18
      refine lv_aload_n hx hb d_R_choice_71 rfl (lv_at hl 0 rfl) ?_
      refine lv_iload_n hx hb d_R_choice_72 rfl (lv_at hl 1 rfl) ?_
      obtain ⟨hwt, hwf⟩ := hw
      refine lv_if_eq (tgt := 86) hx hb d_R_choice_73 (by decide) (fun c_19 => ?_) (fun c_19 => ?_)
      · have hw := hwt c_19
        refine lv_iconst (v := 0) hx hb d_R_choice_86 (by decide) ?_
        refine k_callVl (As := [.int 0]) (rest := []) (fun (u : Int32 × Int32 × Int32 × Int32 × Int32 × Int32 × (Nat → Int32) × (Nat → Int64) × (Nat → Int32)) => wd_RG ad ck rsize rval risP cnt u.1 u.2.1 u.2.2.1 u.2.2.2.1 u.2.2.2.2.1 u.2.2.2.2.2.1 store tAt tSz u.2.2.2.2.2.2.1 u.2.2.2.2.2.2.2.1 u.2.2.2.2.2.2.2.2) ⟨hx, hb, hml, hown, hts⟩ (g_c rsize rval risP cnt look z0 byZ inr rpl hld store tAt tSz hSg hVl hPl 0 _ hw) (cwV 1 hts (gV ux_141 ux_143 ux_144 ux_49 ux_142) rfl rfl rfl hd_R_choice ⟨show d + 12 + 1 ≤ d + 1 + 12 from by omega, show 8 + (9 + 11) + (d * 40 + 260) ≤ (d + 1) * 40 + 260 from by omega⟩) hK hP hD hS hA (XR_c sa sv sf) hX [0, 1, 2, 3, 4, 5, 6] [] [0, 1, 2, 3, 4, 5, 6] rfl rfl (by decide) (by decide) (fun _ => rfl) (va_recv hK hP (ci := 5) (q0 := 0) rfl rfl) rfl hl.1 rfl (lv_room (Nat.le_of_ble_eq_true rfl)) d_R_choice_87 ⟨Nat.zero_le _, Nat.zero_le _⟩ ?_
        intro r_20 u H locs hw hP hD hS
        obtain ⟨look_21, bad_22, byZ_23, inr_24, rpl_25, hld_26, hSg_27, hVl_28, hPl_29⟩ := u
        have hP : va_P (dC, dI) vwCl (wd_RG ad ck rsize rval risP cnt look_21 bad_22 byZ_23 inr_24 rpl_25 hld_26 store tAt tSz hSg_27 hVl_28 hPl_29) H := hP
        have hD : va_D A (wd_RG ad ck rsize rval risP cnt look_21 bad_22 byZ_23 inr_24 rpl_25 hld_26 store tAt tSz hSg_27 hVl_28 hPl_29) := hD
        try dsimp only at hw
        exact L_90 x1 x2 r_20 rsize rval risP cnt look_21 bad_22 byZ_23 inr_24 rpl_25 hld_26 store tAt tSz hSg_27 hVl_28 hPl_29 _ _ _ hw hP hD hS (lv_sub hl [0, 1, 2] rfl)
      · have hw := hwf c_19
        refine lv_lload_n hx hb d_R_choice_76 rfl (lv_at hl 2 rfl) ?_
        refine lv_lconst (v := 0) hx hb d_R_choice_77 (by decide) ?_
        refine W.lcmp hx hb d_R_choice_78 ?_
        obtain ⟨hwt, hwf⟩ := hw
        refine lv_if_eq (tgt := 86) hx hb d_R_choice_79 (by decide) (fun c_74 => ?_) (fun c_74 => ?_)
        · have hw := hwt c_74
          refine lv_iconst (v := 0) hx hb d_R_choice_86 (by decide) ?_
          refine k_callVl (As := [.int 0]) (rest := []) (fun (u : Int32 × Int32 × Int32 × Int32 × Int32 × Int32 × (Nat → Int32) × (Nat → Int64) × (Nat → Int32)) => wd_RG ad ck rsize rval risP cnt u.1 u.2.1 u.2.2.1 u.2.2.2.1 u.2.2.2.2.1 u.2.2.2.2.2.1 store tAt tSz u.2.2.2.2.2.2.1 u.2.2.2.2.2.2.2.1 u.2.2.2.2.2.2.2.2) ⟨hx, hb, hml, hown, hts⟩ (g_c rsize rval risP cnt look z0 byZ inr rpl hld store tAt tSz hSg hVl hPl 0 _ hw) (cwV 1 hts (gV ux_141 ux_143 ux_144 ux_49 ux_142) rfl rfl rfl hd_R_choice ⟨show d + 12 + 1 ≤ d + 1 + 12 from by omega, show 8 + (9 + 11) + (d * 40 + 260) ≤ (d + 1) * 40 + 260 from by omega⟩) hK hP hD hS hA (XR_c sa sv sf) hX [0, 1, 2, 3, 4, 5, 6] [] [0, 1, 2, 3, 4, 5, 6] rfl rfl (by decide) (by decide) (fun _ => rfl) (va_recv hK hP (ci := 5) (q0 := 0) rfl rfl) rfl hl.1 rfl (lv_room (Nat.le_of_ble_eq_true rfl)) d_R_choice_87 ⟨Nat.zero_le _, Nat.zero_le _⟩ ?_
          intro r_75 u H locs hw hP hD hS
          obtain ⟨look_76, bad_77, byZ_78, inr_79, rpl_80, hld_81, hSg_82, hVl_83, hPl_84⟩ := u
          have hP : va_P (dC, dI) vwCl (wd_RG ad ck rsize rval risP cnt look_76 bad_77 byZ_78 inr_79 rpl_80 hld_81 store tAt tSz hSg_82 hVl_83 hPl_84) H := hP
          have hD : va_D A (wd_RG ad ck rsize rval risP cnt look_76 bad_77 byZ_78 inr_79 rpl_80 hld_81 store tAt tSz hSg_82 hVl_83 hPl_84) := hD
          try dsimp only at hw
          exact L_90 x1 x2 r_75 rsize rval risP cnt look_76 bad_77 byZ_78 inr_79 rpl_80 hld_81 store tAt tSz hSg_82 hVl_83 hPl_84 _ _ _ hw hP hD hS (lv_sub hl [0, 1, 2] rfl)
        · have hw := hwf c_74
          refine lv_iconst (v := 1) hx hb d_R_choice_82 (by decide) ?_
          refine lv_goto (tgt := 87) hx hb d_R_choice_83 (by decide) ?_
          refine k_callVl (As := [.int 1]) (rest := []) (fun (u : Int32 × Int32 × Int32 × Int32 × Int32 × Int32 × (Nat → Int32) × (Nat → Int64) × (Nat → Int32)) => wd_RG ad ck rsize rval risP cnt u.1 u.2.1 u.2.2.1 u.2.2.2.1 u.2.2.2.2.1 u.2.2.2.2.2.1 store tAt tSz u.2.2.2.2.2.2.1 u.2.2.2.2.2.2.2.1 u.2.2.2.2.2.2.2.2) ⟨hx, hb, hml, hown, hts⟩ (g_c rsize rval risP cnt look z0 byZ inr rpl hld store tAt tSz hSg hVl hPl 1 _ hw) (cwV 1 hts (gV ux_141 ux_143 ux_144 ux_49 ux_142) rfl rfl rfl hd_R_choice ⟨show d + 12 + 1 ≤ d + 1 + 12 from by omega, show 8 + (9 + 11) + (d * 40 + 260) ≤ (d + 1) * 40 + 260 from by omega⟩) hK hP hD hS hA (XR_c sa sv sf) hX [0, 1, 2, 3, 4, 5, 6] [] [0, 1, 2, 3, 4, 5, 6] rfl rfl (by decide) (by decide) (fun _ => rfl) (va_recv hK hP (ci := 5) (q0 := 0) rfl rfl) rfl hl.1 rfl (lv_room (Nat.le_of_ble_eq_true rfl)) d_R_choice_87 ⟨Nat.zero_le _, Nat.zero_le _⟩ ?_
          intro r_85 u H locs hw hP hD hS
          obtain ⟨look_86, bad_87, byZ_88, inr_89, rpl_90, hld_91, hSg_92, hVl_93, hPl_94⟩ := u
          have hP : va_P (dC, dI) vwCl (wd_RG ad ck rsize rval risP cnt look_86 bad_87 byZ_88 inr_89 rpl_90 hld_91 store tAt tSz hSg_92 hVl_93 hPl_94) H := hP
          have hD : va_D A (wd_RG ad ck rsize rval risP cnt look_86 bad_87 byZ_88 inr_89 rpl_90 hld_91 store tAt tSz hSg_92 hVl_93 hPl_94) := hD
          try dsimp only at hw
          exact L_90 x1 x2 r_85 rsize rval risP cnt look_86 bad_87 byZ_88 inr_89 rpl_90 hld_91 store tAt tSz hSg_92 hVl_93 hPl_94 _ _ _ hw hP hD hS (lv_sub hl [0, 1, 2] rfl)
    · have hw := hwf c_18
      refine lv_lconst (v := 0) hx hb d_R_choice_67 (by decide) ?_
      refine lv_goto (tgt := 90) hx hb d_R_choice_68 (by decide) ?_
      exact L_90 x1 x2 0 rsize rval risP cnt look z0 byZ inr rpl hld store tAt tSz hSg hVl hPl _ _ _ hw hP hD hS (lv_sub hl [0, 1, 2] rfl)
  refine lv_aload_n hx hb d_R_choice_0 rfl (lv_at hl 0 rfl) ?_
  refine lv_iload_n hx hb d_R_choice_1 rfl (lv_at hl 1 rfl) ?_
  refine k_callVl (As := [.int p0]) (rest := []) (fun (u : Int32 × Int32 × Int32 × Int32 × Int32 × Int32 × (Nat → Int32) × (Nat → Int64) × (Nat → Int32)) => wd_RG ad ck rsize rval risP cnt u.1 u.2.1 u.2.2.1 u.2.2.2.1 u.2.2.2.2.1 u.2.2.2.2.2.1 store tAt tSz u.2.2.2.2.2.2.1 u.2.2.2.2.2.2.2.1 u.2.2.2.2.2.2.2.2) ⟨hx, hb, hml, hown, hts⟩ (g_e rsize rval risP cnt look bad byZ inr rpl hld store tAt tSz hSg hVl hPl p0 _ hw) (cwV 1 hts (gV ux_132 ux_134 ux_135 ux_49 ux_133) rfl rfl rfl hd_R_either ⟨show d + 12 + 1 ≤ d + 1 + 12 from by omega, show 8 + (6 + 11) + (d * 40 + 260) ≤ (d + 1) * 40 + 260 from by omega⟩) hK hP hD hS hA (XR_c sa sv sf) hX [0, 1, 2, 3, 4, 5, 6] [] [0, 1, 2, 3, 4, 5, 6] rfl rfl (by decide) (by decide) (fun _ => rfl) (va_recv hK hP (ci := 5) (q0 := 0) rfl rfl) rfl hl.1 rfl (lv_room (Nat.le_of_ble_eq_true rfl)) d_R_choice_2 ⟨Nat.zero_le _, Nat.zero_le _⟩ ?_
  intro r_1 u H locs hw hP hD hS
  obtain ⟨look_2, bad_3, byZ_4, inr_5, rpl_6, hld_7, hSg_8, hVl_9, hPl_10⟩ := u
  have hP : va_P (dC, dI) vwCl (wd_RG ad ck rsize rval risP cnt look_2 bad_3 byZ_4 inr_5 rpl_6 hld_7 store tAt tSz hSg_8 hVl_9 hPl_10) H := hP
  have hD : va_D A (wd_RG ad ck rsize rval risP cnt look_2 bad_3 byZ_4 inr_5 rpl_6 hld_7 store tAt tSz hSg_8 hVl_9 hPl_10) := hD
  try dsimp only at hw
  refine lv_lstore_n (lv' := [(2, .long r_1), (0, .ref (ad 11)), (1, .int p0)]) hx hb d_R_choice_5 rfl hl (by decide) rfl (fun ls hl => ?_)
  refine lv_aload_n hx hb d_R_choice_6 rfl (lv_at hl 1 rfl) ?_
  refine va_get (D := (dC, dI)) (ci := 5) (v := .int bad_3) (C := R_R) (T := T_R) (N := 16) hx hb hts in_R hown hK hP 0 rfl rfl 8 (by decide) (hts _ ux_110) (fun _ h9 => h9) rfl d_R_choice_7 ?_
  obtain ⟨hwt, hwf⟩ := hw
  refine lv_if_ne (tgt := 26) hx hb d_R_choice_10 (by decide) (fun c_11 => ?_) (fun c_11 => ?_)
  · have hw := hwf c_11
    refine lv_lload_n hx hb d_R_choice_26 rfl (lv_at hl 0 rfl) ?_
    exact W.lret (v := r_1) hx hb hr (fun t ht hW => ⟨⟨r_1, (look_2, bad_3, byZ_4, inr_5, rpl_6, hld_7, hSg_8, hVl_9, hPl_10), rfl, hw, by rw [ht]; exact hP, va_K.moved hW.alike hK, hD⟩, hS.F ht⟩) hS.2.2 d_R_choice_27
  · have hw := hwt c_11
    refine lv_aload_n hx hb d_R_choice_13 rfl (lv_at hl 1 rfl) ?_
    refine lv_aload_n hx hb d_R_choice_14 rfl (lv_at hl 1 rfl) ?_
    refine va_get (D := (dC, dI)) (ci := 5) (v := .int look_2) (C := R_R) (T := T_R) (N := 16) hx hb hts in_R hown hK hP 0 rfl rfl 7 (by decide) (hts _ ux_83) (fun _ h9 => h9) rfl d_R_choice_15 ?_
    refine va_ldcS hx hb hown (hX.1 _ rs_26) d_R_choice_18 ?_
    refine k_callVi (As := [.int look_2, .ref (sa 26)]) (rest := []) (fun (u : Unit) => wd_RG ad ck rsize rval risP cnt look_2 bad_3 byZ_4 inr_5 rpl_6 hld_7 store tAt tSz hSg_8 hVl_9 hPl_10) ⟨hx, hb, hml, hown, hts⟩ (kc_R_is l dC dI ad ck sa sv sf rsize rval risP cnt look_2 bad_3 byZ_4 inr_5 rpl_6 hld_7 store tAt tSz look_2 26 (hw := hw)) (cwV 2 hts (gV ux_87 ux_89 ux_90 ux_49 ux_88) rfl rfl rfl hd_R_is ⟨show 4 + 1 ≤ d + 1 + 12 from by omega, show 8 + (5 + 11) + 85 ≤ (d + 1) * 40 + 260 from by omega⟩) hK hP hD hS hA (XR_c sa sv sf) hX [0, 1, 2, 3] [4, 5, 6] [3, 4, 5, 6, 0, 1, 2] rfl rfl (by decide) (by decide) (fun _ => rfl) (va_recv hK hP (ci := 5) (q0 := 0) rfl rfl) rfl hl.1 rfl (lv_room (Nat.le_of_ble_eq_true rfl)) d_R_choice_20 ⟨Nat.zero_le _, Nat.zero_le _⟩ ?_
    intro r_12 u H locs hw hP hD hS
    have hP : va_P (dC, dI) vwCl (wd_RG ad ck rsize rval risP cnt look_2 bad_3 byZ_4 inr_5 rpl_6 hld_7 store tAt tSz hSg_8 hVl_9 hPl_10) H := hP
    have hD : va_D A (wd_RG ad ck rsize rval risP cnt look_2 bad_3 byZ_4 inr_5 rpl_6 hld_7 store tAt tSz hSg_8 hVl_9 hPl_10) := hD
    try dsimp only at hw
    obtain ⟨hwt, hwf⟩ := hw
    refine lv_if_ne (tgt := 28) hx hb d_R_choice_23 (by decide) (fun c_13 => ?_) (fun c_13 => ?_)
    · have hw := hwf c_13
      refine lv_aload_n hx hb d_R_choice_28 rfl (lv_at hl 1 rfl) ?_
      refine k_callVv (As := []) (rest := []) (fun (u : Int32) => wd_RG ad ck rsize rval risP cnt u bad_3 byZ_4 inr_5 rpl_6 hld_7 store tAt tSz hSg_8 hVl_9 hPl_10) ⟨hx, hb, hml, hown, hts⟩ (kc_R_goOn l dC dI ad ck rsize rval risP cnt look_2 bad_3 byZ_4 inr_5 rpl_6 hld_7 (hw := hw)) (cwV 0 hts (gV ux_136 ux_138 ux_139 ux_49 ux_137) rfl rfl rfl hd_R_goOn ⟨show 0 + 1 ≤ d + 1 + 12 from by omega, show 8 + (1 + 11) + 0 ≤ (d + 1) * 40 + 260 from by omega⟩) hK hP hD hS hA k_x0c trivial [0] [1, 2, 3, 4, 5, 6] [6, 0, 1, 2, 3, 4, 5] rfl rfl (by decide) (by decide) (fun _ => rfl) (va_recv hK hP (ci := 5) (q0 := 0) rfl rfl) rfl hl.1 rfl (lv_room (Nat.le_of_ble_eq_true rfl)) d_R_choice_29 ⟨Nat.zero_le _, Nat.zero_le _⟩ ?_
      intro u H locs hw hP hD hS
      obtain ⟨look_14, rfl⟩ : ∃ z, z = u := ⟨_, rfl⟩
      have hP : va_P (dC, dI) vwCl (wd_RG ad ck rsize rval risP cnt look_14 bad_3 byZ_4 inr_5 rpl_6 hld_7 store tAt tSz hSg_8 hVl_9 hPl_10) H := hP
      have hD : va_D A (wd_RG ad ck rsize rval risP cnt look_14 bad_3 byZ_4 inr_5 rpl_6 hld_7 store tAt tSz hSg_8 hVl_9 hPl_10) := hD
      try dsimp only at hw
      refine lv_aload_n hx hb d_R_choice_32 rfl (lv_at hl 1 rfl) ?_
      refine lv_dup hx hb d_R_choice_33 rfl ?_
      refine va_get (D := (dC, dI)) (ci := 5) (v := .int inr_5) (C := R_R) (T := T_R) (N := 16) hx hb hts in_R hown hK hP 0 rfl rfl 10 (by decide) (hts _ ux_140) (fun _ h9 => h9) rfl d_R_choice_34 ?_
      refine lv_iconst (v := 1) hx hb d_R_choice_37 (by decide) ?_
      refine lv_iadd hx hb d_R_choice_38 ?_
      refine lv_topi (fun inr_15 einr_15 => ?_)
      have hw := hw inr_15 einr_15
      refine va_put (D := (dC, dI)) (ci := 5) (v := .int inr_15) (ty := .int) (C := R_R) (T := T_R) (N := 16) hx hb hts in_R ty_R ty_R_ok nm_R hown hK hP hD hS 0 rfl rfl 10 (by decide) (hts _ ux_140) (fun _ h9 => h9) rfl (by decide +kernel) rfl rfl (Nat.le_of_ble_eq_true rfl) d_R_choice_39 (fun H locs hP hD hS => ?_)
      have hP : va_P (dC, dI) vwCl (wd_RG ad ck rsize rval risP cnt look_14 bad_3 byZ_4 inr_15 rpl_6 hld_7 store tAt tSz hSg_8 hVl_9 hPl_10) H := hP
      have hD : va_D A (wd_RG ad ck rsize rval risP cnt look_14 bad_3 byZ_4 inr_15 rpl_6 hld_7 store tAt tSz hSg_8 hVl_9 hPl_10) := hD
      refine lv_aload_n hx hb d_R_choice_42 rfl (lv_at hl 1 rfl) ?_
      refine lv_aload_n hx hb d_R_choice_43 rfl (lv_at hl 1 rfl) ?_
      refine va_get (D := (dC, dI)) (ci := 5) (v := .int inr_15) (C := R_R) (T := T_R) (N := 16) hx hb hts in_R hown hK hP 0 rfl rfl 10 (by decide) (hts _ ux_140) (fun _ h9 => h9) rfl d_R_choice_44 ?_
      refine lv_bipush (v := 60) hx hb d_R_choice_47 (by decide) ?_
      obtain ⟨hwt, hwf⟩ := hw
      refine lv_icmp_le (tgt := 56) hx hb d_R_choice_49 (by decide) (fun c_16 => ?_) (fun c_16 => ?_)
      · have hw := hwt c_16
        refine lv_iconst (v := 0) hx hb d_R_choice_56 (by decide) ?_
        exact L_57 p0 r_1 0 rsize rval risP cnt look_14 bad_3 byZ_4 inr_15 rpl_6 hld_7 store tAt tSz hSg_8 hVl_9 hPl_10 _ _ _ hw hP hD hS (lv_sub hl [1, 2, 0] rfl)
      · have hw := hwf c_16
        refine lv_iconst (v := 1) hx hb d_R_choice_52 (by decide) ?_
        refine lv_goto (tgt := 57) hx hb d_R_choice_53 (by decide) ?_
        exact L_57 p0 r_1 1 rsize rval risP cnt look_14 bad_3 byZ_4 inr_15 rpl_6 hld_7 store tAt tSz hSg_8 hVl_9 hPl_10 _ _ _ hw hP hD hS (lv_sub hl [1, 2, 0] rfl)
    · have hw := hwt c_13
      refine lv_lload_n hx hb d_R_choice_26 rfl (lv_at hl 0 rfl) ?_
      exact W.lret (v := r_1) hx hb hr (fun t ht hW => ⟨⟨r_1, (look_2, bad_3, byZ_4, inr_5, rpl_6, hld_7, hSg_8, hVl_9, hPl_10), rfl, hw, by rw [ht]; exact hP, va_K.moved hW.alike hK, hD⟩, hS.F ht⟩) hS.2.2 d_R_choice_27
def w_R_either_144 (W_c W_e W_f : TG) (post : Int64 → Int32 → Int32 → Int32 → Int32 → Int32 → Int32 → (Nat → Int32) → (Nat → Int64) → (Nat → Int32) → Prop) (x1 : Int32) (x2 : Int32) (rsize : Int32) (rval : Int64) (risP : Int32) (cnt : Int32) (look : Int32) (bad : Int32) (inr : Int32) (store : Nat → Int32) (tAt : Nat → Int32) (tSz : Nat → Int32) (hSg : Nat → Int32) (hVl : Nat → Int64) (hPl : Nat → Int32) : Nat → Int64 → Int32 → Int32 → Int32 → Prop
  | 0 => fun _ _ _ _ => False
  | n + 1 => fun x3 byZ rpl hld => (hld ≤ x2 → (post x3 look bad byZ inr rpl hld hSg hVl hPl)) ∧ (¬ hld ≤ x2 → ((bad = 0 → (wp_R_settle (fun (r_15 : Int64) (byZ_16 : Int32) (rpl_17 : Int32) (hld_18 : Int32) => (bad = 0 → (w_R_either_144 W_c W_e W_f post x1 x2 rsize rval risP cnt look bad inr store tAt tSz hSg hVl hPl n r_15 byZ_16 rpl_17 hld_18)) ∧ (¬ bad = 0 → (w_R_either_144 W_c W_e W_f post x1 x2 rsize rval risP cnt look bad inr store tAt tSz hSg hVl hPl n r_15 byZ_16 rpl_17 x2))) rsize rval risP cnt look bad byZ inr rpl hld hSg hVl hPl x3 x2 x1)) ∧ (¬ bad = 0 → ((bad = 0 → (w_R_either_144 W_c W_e W_f post x1 x2 rsize rval risP cnt look bad inr store tAt tSz hSg hVl hPl n 0 byZ rpl hld)) ∧ (¬ bad = 0 → (w_R_either_144 W_c W_e W_f post x1 x2 rsize rval risP cnt look bad inr store tAt tSz hSg hVl hPl n 0 byZ rpl x2))))))
def w_R_either_29 (W_c W_e W_f : TG) (post : Int64 → Int32 → Int32 → Int32 → Int32 → Int32 → Int32 → (Nat → Int32) → (Nat → Int64) → (Nat → Int32) → Prop) (J17 : Int64 → Int32 → Int32 → Int32 → Int32 → Int32 → Int32 → Int32 → (Nat → Int32) → (Nat → Int64) → (Nat → Int32) → Prop) (x1 : Int32) (x2 : Int32) (x5 : Int32) (rsize : Int32) (rval : Int64) (risP : Int32) (cnt : Int32) (look : Int32) (bad : Int32) (inr : Int32) (store : Nat → Int32) (tAt : Nat → Int32) (tSz : Nat → Int32) (hSg : Nat → Int32) (hVl : Nat → Int64) (hPl : Nat → Int32) : Nat → Int64 → Int32 → Int32 → Int32 → Prop
  | 0 => fun _ _ _ _ => False
  | n + 1 => fun x3 byZ rpl hld => (hld ≤ x2 → (vp_in hld 800 ∧ (∀ hSg_24 : Nat → Int32, hSg_24 = upd hSg hld.toNatClampNeg x5 → (vp_in hld 800 ∧ (∀ hVl_26 : Nat → Int64, hVl_26 = vp_updL hVl hld.toNatClampNeg x3 → (vp_in hld 800 ∧ (∀ hPl_28 : Nat → Int32, hPl_28 = upd hPl hld.toNatClampNeg (vp_nar .boolean rpl) → (∀ hld_29 : Int32, hld_29 = (hld + 1) → (wp_R_goOn (fun (look_30 : Int32) => wp_R_isNeeded (fun (r_31 : Int32) => W_f (fun (r_32 : Int64) (look_33 : Int32) (bad_34 : Int32) (byZ_35 : Int32) (inr_36 : Int32) (rpl_37 : Int32) (hld_38 : Int32) (hSg_39 : Nat → Int32) (hVl_40 : Nat → Int64) (hPl_41 : Nat → Int32) => wp_R_operatorHere (fun (r_42 : Int32) => J17 r_32 r_42 look_33 bad_34 byZ_35 inr_36 rpl_37 hld_38 hSg_39 hVl_40 hPl_41) rsize rval risP cnt look_33 bad_34 byZ_35 inr_36 rpl_37 hld_38 store tAt tSz) rsize rval risP cnt look_30 bad byZ inr rpl hld_29 store tAt tSz hSg_24 hVl_26 hPl_28 r_31) rsize rval risP cnt look_30 bad byZ inr rpl hld_29 hSg_24 hVl_26 x2 x1) rsize rval risP cnt look bad byZ inr rpl hld_29))))))))) ∧ (¬ hld ≤ x2 → (vp_in (hld - 1) 800 ∧ (wp_R_signOf (fun (r_44 : Nat) => wp_R_strengthOf (fun (r_45 : Int32) => wp_R_signOf (fun (r_46 : Nat) => wp_R_strengthOf (fun (r_47 : Int32) => (r_45 < r_47 → (vp_in hld 800 ∧ (∀ hSg_50 : Nat → Int32, hSg_50 = upd hSg hld.toNatClampNeg x5 → (vp_in hld 800 ∧ (∀ hVl_52 : Nat → Int64, hVl_52 = vp_updL hVl hld.toNatClampNeg x3 → (vp_in hld 800 ∧ (∀ hPl_54 : Nat → Int32, hPl_54 = upd hPl hld.toNatClampNeg (vp_nar .boolean rpl) → (∀ hld_55 : Int32, hld_55 = (hld + 1) → (wp_R_goOn (fun (look_56 : Int32) => wp_R_isNeeded (fun (r_57 : Int32) => W_f (fun (r_58 : Int64) (look_59 : Int32) (bad_60 : Int32) (byZ_61 : Int32) (inr_62 : Int32) (rpl_63 : Int32) (hld_64 : Int32) (hSg_65 : Nat → Int32) (hVl_66 : Nat → Int64) (hPl_67 : Nat → Int32) => wp_R_operatorHere (fun (r_68 : Int32) => J17 r_58 r_68 look_59 bad_60 byZ_61 inr_62 rpl_63 hld_64 hSg_65 hVl_66 hPl_67) rsize rval risP cnt look_59 bad_60 byZ_61 inr_62 rpl_63 hld_64 store tAt tSz) rsize rval risP cnt look_56 bad byZ inr rpl hld_55 store tAt tSz hSg_50 hVl_52 hPl_54 r_57) rsize rval risP cnt look_56 bad byZ inr rpl hld_55 hSg_50 hVl_52 x2 x1) rsize rval risP cnt look bad byZ inr rpl hld_55))))))))) ∧ (¬ r_45 < r_47 → (wp_R_settle (fun (r_69 : Int64) (byZ_70 : Int32) (rpl_71 : Int32) (hld_72 : Int32) => w_R_either_29 W_c W_e W_f post J17 x1 x2 x5 rsize rval risP cnt look bad inr store tAt tSz hSg hVl hPl n r_69 byZ_70 rpl_71 hld_72) rsize rval risP cnt look bad byZ inr rpl hld hSg hVl hPl x3 x2 x1))) r_46) x5) r_44) (hSg (hld - 1).toNatClampNeg))))
def w_R_either_17 (W_c W_e W_f : TG) (post : Int64 → Int32 → Int32 → Int32 → Int32 → Int32 → Int32 → (Nat → Int32) → (Nat → Int64) → (Nat → Int32) → Prop) (x1 : Int32) (x2 : Int32) (rsize : Int32) (rval : Int64) (risP : Int32) (cnt : Int32) (store : Nat → Int32) (tAt : Nat → Int32) (tSz : Nat → Int32) : Nat → Int64 → Int32 → Int32 → Int32 → Int32 → Int32 → Int32 → Int32 → (Nat → Int32) → (Nat → Int64) → (Nat → Int32) → Prop
  | 0 => fun _ _ _ _ _ _ _ _ _ _ _ => False
  | n + 1 => fun x3 x5 look bad byZ inr rpl hld hSg hVl hPl => (bad = 0 → ((x5 < 0 → (∃ fu144 : Nat, w_R_either_144 W_c W_e W_f post x1 x2 rsize rval risP cnt look bad inr store tAt tSz hSg hVl hPl fu144 x3 byZ rpl hld)) ∧ (¬ x5 < 0 → (∃ fu29 : Nat, w_R_either_29 W_c W_e W_f post (w_R_either_17 W_c W_e W_f post x1 x2 rsize rval risP cnt store tAt tSz n) x1 x2 x5 rsize rval risP cnt look bad inr store tAt tSz hSg hVl hPl fu29 x3 byZ rpl hld)))) ∧ (¬ bad = 0 → (∃ fu144 : Nat, w_R_either_144 W_c W_e W_f post x1 x2 rsize rval risP cnt look bad inr store tAt tSz hSg hVl hPl fu144 x3 byZ rpl hld))
def wb_R_either (W_c W_e W_f : TG) (post : Int64 → Int32 → Int32 → Int32 → Int32 → Int32 → Int32 → (Nat → Int32) → (Nat → Int64) → (Nat → Int32) → Prop) (rsize : Int32) (rval : Int64) (risP : Int32) (cnt : Int32) (look : Int32) (bad : Int32) (byZ : Int32) (inr : Int32) (rpl : Int32) (hld : Int32) (store : Nat → Int32) (tAt : Nat → Int32) (tSz : Nat → Int32) (hSg : Nat → Int32) (hVl : Nat → Int64) (hPl : Nat → Int32) (p0 : Int32) : Prop := W_f (fun (r_1 : Int64) (look_2 : Int32) (bad_3 : Int32) (byZ_4 : Int32) (inr_5 : Int32) (rpl_6 : Int32) (hld_7 : Int32) (hSg_8 : Nat → Int32) (hVl_9 : Nat → Int64) (hPl_10 : Nat → Int32) => wp_R_operatorHere (fun (r_11 : Int32) => ∃ fu17 : Nat, w_R_either_17 W_c W_e W_f post p0 hld rsize rval risP cnt store tAt tSz fu17 r_1 r_11 look_2 bad_3 byZ_4 inr_5 rpl_6 hld_7 hSg_8 hVl_9 hPl_10) rsize rval risP cnt look_2 bad_3 byZ_4 inr_5 rpl_6 hld_7 store tAt tSz) rsize rval risP cnt look bad byZ inr rpl hld store tAt tSz hSg hVl hPl p0
set_option maxHeartbeats 4000000 in
set_option maxRecDepth 100000 in
theorem kb_R_either (l : Launch) (dC : Nat → ClassId) (dI : Nat → Nat → Nat) (ad : Nat → Nat) (ck : Nat → ClassId) (sa sv : Nat → Nat) (sf : Option Nat) (d : Nat) {W_c W_e W_f : TG} (g_c : KC l dC dI ad ck sa sv sf y_R_choice ws_R_choice (rmG d) W_c) (g_e : KC l dC dI ad ck sa sv sf y_R_either ws_R_either (rmG d) W_e) (g_f : KC l dC dI ad ck sa sv sf y_R_front ws_R_front (rmG d) W_f) : KC l dC dI ad ck sa sv sf y_R_either ws_R_either (rmG (d + 1)) (wb_R_either W_c W_e W_f) := by
  intro rsize rval risP cnt look bad byZ inr rpl hld store tAt tSz hSg hVl hPl p0 post hw
  intro sz
  refine Met.ofW (cc := c_R_either) (maxL := 6) (ret := (some .long)) (by decide) rfl ?_
  intro p e s m args below meth c s₁ B hml hv
  obtain ⟨rfl, hsz, hP, hK, hD0, hX⟩ := hv
  have hx := B.exec
  have hb := B.bytes
  have hr := B.returns
  have hts : ∀ w ∈ TB, w.before _ s = true := fun w h => atoms_spec (ws := ws_R_either) B.pre w (List.mem_cons_of_mem _ h)
  have hown : s.vm.findClass R_R = some m.cls := findClass_of_methodNamed B.named
  have hlocks := B.notSynchronized
  subst hsz
  have hD := hD0.self (sz := s.heap.size)
  generalize hAe : va_A (wd_RG ad ck rsize rval risP cnt look bad byZ inr rpl hld store tAt tSz hSg hVl hPl) s.heap.size = A at hD hX ⊢
  have hA : ∀ q : Nat, s.heap.size ≤ q → A q := fun q h => by rw [← hAe]; exact Or.inr h
  have hS : va_S A s.heap s.heap [] := va_S.rf
  have hP : va_P (dC, dI) vwCl (wd_RG ad ck rsize rval risP cnt look bad byZ inr rpl hld store tAt tSz hSg hVl hPl) s.heap := hP
  have hl := lv_entry ([.ref (ad 11), .int p0]) (n := 6) (Nat.le_of_ble_eq_true rfl)
  rw [lg_entry_eq]
  generalize (lg_sl ([.ref (ad 11), .int p0]) ++ List.replicate (6 - (lg_sl ([.ref (ad 11), .int p0])).length) Slot.unset).toArray = ls at hl ⊢
  have hl : lv_has ls 6 [(0, .ref (ad 11)), (1, .int p0)] := hl
  have L_144 : ∀ (x1 : Int32) (x2 : Int32) (rsize : Int32) (rval : Int64) (risP : Int32) (cnt : Int32) (look : Int32) (bad : Int32) (inr : Int32) (store : Nat → Int32) (tAt : Nat → Int32) (tSz : Nat → Int32) (hSg : Nat → Int32) (hVl : Nat → Int64) (hPl : Nat → Int32) (n : Nat) (x3 : Int64) (byZ : Int32) (rpl : Int32) (hld : Int32) (H : Heap) (locs : List Loc) (ls : Array Slot), w_R_either_144 W_c W_e W_f post x1 x2 rsize rval risP cnt look bad inr store tAt tSz hSg hVl hPl n x3 byZ rpl hld → va_P (dC, dI) vwCl (wd_RG ad ck rsize rval risP cnt look bad byZ inr rpl hld store tAt tSz hSg hVl hPl) H → va_D A (wd_RG ad ck rsize rval risP cnt look bad byZ inr rpl hld store tAt tSz hSg hVl hPl) → va_S A s.heap H locs → lv_has ls 6 [(0, .ref (ad 11)), (1, .int x1), (2, .int x2), (3, .long x3)] → W p l e (headSpec ws_R_either (rmG (d + 1))).room s m ([.ref (ad 11), .int p0] : List Value).toArray below meth c H locs 0 0 (k_Ql below (dC, dI) vwCl (TYr ck) A (fun (r : Int64) (u : Int32 × Int32 × Int32 × Int32 × Int32 × Int32 × (Nat → Int32) × (Nat → Int64) × (Nat → Int32)) => post r u.1 u.2.1 u.2.2.1 u.2.2.2.1 u.2.2.2.2.1 u.2.2.2.2.2.1 u.2.2.2.2.2.2.1 u.2.2.2.2.2.2.2.1 u.2.2.2.2.2.2.2.2) (fun (u : Int32 × Int32 × Int32 × Int32 × Int32 × Int32 × (Nat → Int32) × (Nat → Int64) × (Nat → Int32)) => wd_RG ad ck rsize rval risP cnt u.1 u.2.1 u.2.2.1 u.2.2.2.1 u.2.2.2.2.1 u.2.2.2.2.2.1 store tAt tSz u.2.2.2.2.2.2.1 u.2.2.2.2.2.2.2.1 u.2.2.2.2.2.2.2.2) ([.ref (ad 11), .int p0] : List Value).toArray s) (F0 m 144 ls []) := by
    intro x1 x2 rsize rval risP cnt look bad inr store tAt tSz hSg hVl hPl n
    induction n with
    | zero =>
      intro x3 byZ rpl hld H locs ls hw
      exact False.elim hw
    | succ n ih =>
      intro x3 byZ rpl hld H locs ls hw hP hD hS hl
      refine lv_aload_n hx hb d_R_either_144 rfl (lv_at hl 0 rfl) ?_
      refine va_get (D := (dC, dI)) (ci := 5) (v := .int hld) (C := R_R) (T := T_R) (N := 16) hx hb hts in_R hown hK hP 0 rfl rfl 12 (by decide) (hts _ ux_91) (fun _ h9 => h9) rfl d_R_either_145 ?_
      refine lv_iload_n hx hb d_R_either_148 rfl (lv_at hl 2 rfl) ?_
      obtain ⟨hwt, hwf⟩ := hw
      refine lv_icmp_le (tgt := 193) hx hb d_R_either_149 (by decide) (fun c_13 => ?_) (fun c_13 => ?_)
      · have hw := hwt c_13
        refine lv_lload_n hx hb d_R_either_193 rfl (lv_at hl 3 rfl) ?_
        exact W.lret (v := x3) hx hb hr (fun t ht hW => ⟨⟨x3, (look, bad, byZ, inr, rpl, hld, hSg, hVl, hPl), rfl, hw, by rw [ht]; exact hP, va_K.moved hW.alike hK, hD⟩, hS.F ht⟩) hS.2.2 d_R_either_194
      · have hw := hwf c_13
        refine lv_aload_n hx hb d_R_either_152 rfl (lv_at hl 0 rfl) ?_
        refine va_get (D := (dC, dI)) (ci := 5) (v := .int bad) (C := R_R) (T := T_R) (N := 16) hx hb hts in_R hown hK hP 0 rfl rfl 8 (by decide) (hts _ ux_110) (fun _ h9 => h9) rfl d_R_either_153 ?_
        obtain ⟨hwt, hwf⟩ := hw
        refine lv_if_eq (tgt := 163) hx hb d_R_either_156 (by decide) (fun c_14 => ?_) (fun c_14 => ?_)
        · have hw := hwt c_14
          refine lv_aload_n hx hb d_R_either_163 rfl (lv_at hl 0 rfl) ?_
          refine lv_lload_n hx hb d_R_either_164 rfl (lv_at hl 3 rfl) ?_
          refine lv_iload_n hx hb d_R_either_165 rfl (lv_at hl 2 rfl) ?_
          refine lv_iload_n hx hb d_R_either_166 rfl (lv_at hl 1 rfl) ?_
          refine k_callVl (As := [.long x3, .int x2, .int x1]) (rest := []) (fun (u : Int32 × Int32 × Int32) => wd_RG ad ck rsize rval risP cnt look bad u.1 inr u.2.1 u.2.2 store tAt tSz hSg hVl hPl) ⟨hx, hb, hml, hown, hts⟩ (kc_R_settle l dC dI ad ck rsize rval risP cnt look bad byZ inr rpl hld hSg hVl hPl x3 x2 x1 (hw := hw)) (cwV 3 hts (gV ux_153 ux_155 ux_156 ux_49 ux_154) rfl rfl rfl hd_R_settle ⟨show 2 + 1 ≤ d + 1 + 12 from by omega, show 8 + (5 + 11) + 60 ≤ (d + 1) * 40 + 260 from by omega⟩) hK hP hD hS hA k_x0c trivial [0, 4, 5, 6] [1, 2, 3] [3, 0, 1, 2, 4, 5, 6] rfl rfl (by decide) (by decide) (fun _ => rfl) (va_recv hK hP (ci := 5) (q0 := 0) rfl rfl) rfl hl.1 rfl (lv_room (Nat.le_of_ble_eq_true rfl)) d_R_either_167 ⟨Nat.zero_le _, Nat.zero_le _⟩ ?_
          intro r_15 u H locs hw hP hD hS
          obtain ⟨byZ_16, rpl_17, hld_18⟩ := u
          have hP : va_P (dC, dI) vwCl (wd_RG ad ck rsize rval risP cnt look bad byZ_16 inr rpl_17 hld_18 store tAt tSz hSg hVl hPl) H := hP
          have hD : va_D A (wd_RG ad ck rsize rval risP cnt look bad byZ_16 inr rpl_17 hld_18 store tAt tSz hSg hVl hPl) := hD
          try dsimp only at hw
          refine lv_lstore_n (lv' := [(3, .long r_15), (0, .ref (ad 11)), (1, .int x1), (2, .int x2)]) hx hb d_R_either_170 rfl hl (by decide) rfl (fun ls hl => ?_)
          refine lv_aload_n hx hb d_R_either_171 rfl (lv_at hl 1 rfl) ?_
          refine lv_aload_n hx hb d_R_either_172 rfl (lv_at hl 1 rfl) ?_
          refine va_get (D := (dC, dI)) (ci := 5) (v := .int bad) (C := R_R) (T := T_R) (N := 16) hx hb hts in_R hown hK hP 0 rfl rfl 8 (by decide) (hts _ ux_110) (fun _ h9 => h9) rfl d_R_either_173 ?_
          obtain ⟨hwt, hwf⟩ := hw
          refine lv_if_eq (tgt := 183) hx hb d_R_either_176 (by decide) (fun c_19 => ?_) (fun c_19 => ?_)
          · have hw := hwt c_19
            refine lv_aload_n hx hb d_R_either_183 rfl (lv_at hl 1 rfl) ?_
            refine va_get (D := (dC, dI)) (ci := 5) (v := .int hld_18) (C := R_R) (T := T_R) (N := 16) hx hb hts in_R hown hK hP 0 rfl rfl 12 (by decide) (hts _ ux_91) (fun _ h9 => h9) rfl d_R_either_184 ?_
            refine va_put (D := (dC, dI)) (ci := 5) (v := .int hld_18) (ty := .int) (C := R_R) (T := T_R) (N := 16) hx hb hts in_R ty_R ty_R_ok nm_R hown hK hP hD hS 0 rfl rfl 12 (by decide) (hts _ ux_91) (fun _ h9 => h9) rfl (by decide +kernel) rfl rfl (Nat.le_of_ble_eq_true rfl) d_R_either_187 (fun H locs hP hD hS => ?_)
            have hP : va_P (dC, dI) vwCl (wd_RG ad ck rsize rval risP cnt look bad byZ_16 inr rpl_17 hld_18 store tAt tSz hSg hVl hPl) H := hP
            have hD : va_D A (wd_RG ad ck rsize rval risP cnt look bad byZ_16 inr rpl_17 hld_18 store tAt tSz hSg hVl hPl) := hD
            refine lv_goto (tgt := 144) hx hb d_R_either_190 (by decide) ?_
            exact ih r_15 byZ_16 rpl_17 hld_18 _ _ _ hw hP hD hS (lv_sub hl [1, 2, 3, 0] rfl)
          · have hw := hwf c_19
            refine lv_iload_n hx hb d_R_either_179 rfl (lv_at hl 3 rfl) ?_
            refine lv_goto (tgt := 187) hx hb d_R_either_180 (by decide) ?_
            refine va_put (D := (dC, dI)) (ci := 5) (v := .int x2) (ty := .int) (C := R_R) (T := T_R) (N := 16) hx hb hts in_R ty_R ty_R_ok nm_R hown hK hP hD hS 0 rfl rfl 12 (by decide) (hts _ ux_91) (fun _ h9 => h9) rfl (by decide +kernel) rfl rfl (Nat.le_of_ble_eq_true rfl) d_R_either_187 (fun H locs hP hD hS => ?_)
            have hP : va_P (dC, dI) vwCl (wd_RG ad ck rsize rval risP cnt look bad byZ_16 inr rpl_17 x2 store tAt tSz hSg hVl hPl) H := hP
            have hD : va_D A (wd_RG ad ck rsize rval risP cnt look bad byZ_16 inr rpl_17 x2 store tAt tSz hSg hVl hPl) := hD
            refine lv_goto (tgt := 144) hx hb d_R_either_190 (by decide) ?_
            exact ih r_15 byZ_16 rpl_17 x2 _ _ _ hw hP hD hS (lv_sub hl [1, 2, 3, 0] rfl)
        · have hw := hwf c_14
          refine lv_lconst (v := 0) hx hb d_R_either_159 (by decide) ?_
          refine lv_goto (tgt := 170) hx hb d_R_either_160 (by decide) ?_
          refine lv_lstore_n (lv' := [(3, .long 0), (0, .ref (ad 11)), (1, .int x1), (2, .int x2)]) hx hb d_R_either_170 rfl hl (by decide) rfl (fun ls hl => ?_)
          refine lv_aload_n hx hb d_R_either_171 rfl (lv_at hl 1 rfl) ?_
          refine lv_aload_n hx hb d_R_either_172 rfl (lv_at hl 1 rfl) ?_
          refine va_get (D := (dC, dI)) (ci := 5) (v := .int bad) (C := R_R) (T := T_R) (N := 16) hx hb hts in_R hown hK hP 0 rfl rfl 8 (by decide) (hts _ ux_110) (fun _ h9 => h9) rfl d_R_either_173 ?_
          obtain ⟨hwt, hwf⟩ := hw
          refine lv_if_eq (tgt := 183) hx hb d_R_either_176 (by decide) (fun c_20 => ?_) (fun c_20 => ?_)
          · have hw := hwt c_20
            refine lv_aload_n hx hb d_R_either_183 rfl (lv_at hl 1 rfl) ?_
            refine va_get (D := (dC, dI)) (ci := 5) (v := .int hld) (C := R_R) (T := T_R) (N := 16) hx hb hts in_R hown hK hP 0 rfl rfl 12 (by decide) (hts _ ux_91) (fun _ h9 => h9) rfl d_R_either_184 ?_
            refine va_put (D := (dC, dI)) (ci := 5) (v := .int hld) (ty := .int) (C := R_R) (T := T_R) (N := 16) hx hb hts in_R ty_R ty_R_ok nm_R hown hK hP hD hS 0 rfl rfl 12 (by decide) (hts _ ux_91) (fun _ h9 => h9) rfl (by decide +kernel) rfl rfl (Nat.le_of_ble_eq_true rfl) d_R_either_187 (fun H locs hP hD hS => ?_)
            have hP : va_P (dC, dI) vwCl (wd_RG ad ck rsize rval risP cnt look bad byZ inr rpl hld store tAt tSz hSg hVl hPl) H := hP
            have hD : va_D A (wd_RG ad ck rsize rval risP cnt look bad byZ inr rpl hld store tAt tSz hSg hVl hPl) := hD
            refine lv_goto (tgt := 144) hx hb d_R_either_190 (by decide) ?_
            exact ih 0 byZ rpl hld _ _ _ hw hP hD hS (lv_sub hl [1, 2, 3, 0] rfl)
          · have hw := hwf c_20
            refine lv_iload_n hx hb d_R_either_179 rfl (lv_at hl 3 rfl) ?_
            refine lv_goto (tgt := 187) hx hb d_R_either_180 (by decide) ?_
            refine va_put (D := (dC, dI)) (ci := 5) (v := .int x2) (ty := .int) (C := R_R) (T := T_R) (N := 16) hx hb hts in_R ty_R ty_R_ok nm_R hown hK hP hD hS 0 rfl rfl 12 (by decide) (hts _ ux_91) (fun _ h9 => h9) rfl (by decide +kernel) rfl rfl (Nat.le_of_ble_eq_true rfl) d_R_either_187 (fun H locs hP hD hS => ?_)
            have hP : va_P (dC, dI) vwCl (wd_RG ad ck rsize rval risP cnt look bad byZ inr rpl x2 store tAt tSz hSg hVl hPl) H := hP
            have hD : va_D A (wd_RG ad ck rsize rval risP cnt look bad byZ inr rpl x2 store tAt tSz hSg hVl hPl) := hD
            refine lv_goto (tgt := 144) hx hb d_R_either_190 (by decide) ?_
            exact ih 0 byZ rpl x2 _ _ _ hw hP hD hS (lv_sub hl [1, 2, 3, 0] rfl)
  have L_29 : ∀ (x1 : Int32) (x2 : Int32) (x5 : Int32) (rsize : Int32) (rval : Int64) (risP : Int32) (cnt : Int32) (look : Int32) (bad : Int32) (inr : Int32) (store : Nat → Int32) (tAt : Nat → Int32) (tSz : Nat → Int32) (hSg : Nat → Int32) (hVl : Nat → Int64) (hPl : Nat → Int32) (J17 : Int64 → Int32 → Int32 → Int32 → Int32 → Int32 → Int32 → Int32 → (Nat → Int32) → (Nat → Int64) → (Nat → Int32) → Prop) (hJ17 : ∀ (x3 : Int64) (x5 : Int32) (look : Int32) (bad : Int32) (byZ : Int32) (inr : Int32) (rpl : Int32) (hld : Int32) (hSg : Nat → Int32) (hVl : Nat → Int64) (hPl : Nat → Int32) (H : Heap) (locs : List Loc) (ls : Array Slot), J17 x3 x5 look bad byZ inr rpl hld hSg hVl hPl → va_P (dC, dI) vwCl (wd_RG ad ck rsize rval risP cnt look bad byZ inr rpl hld store tAt tSz hSg hVl hPl) H → va_D A (wd_RG ad ck rsize rval risP cnt look bad byZ inr rpl hld store tAt tSz hSg hVl hPl) → va_S A s.heap H locs → lv_has ls 6 [(0, .ref (ad 11)), (1, .int x1), (2, .int x2), (3, .long x3), (5, .int x5)] → W p l e (headSpec ws_R_either (rmG (d + 1))).room s m ([.ref (ad 11), .int p0] : List Value).toArray below meth c H locs 0 0 (k_Ql below (dC, dI) vwCl (TYr ck) A (fun (r : Int64) (u : Int32 × Int32 × Int32 × Int32 × Int32 × Int32 × (Nat → Int32) × (Nat → Int64) × (Nat → Int32)) => post r u.1 u.2.1 u.2.2.1 u.2.2.2.1 u.2.2.2.2.1 u.2.2.2.2.2.1 u.2.2.2.2.2.2.1 u.2.2.2.2.2.2.2.1 u.2.2.2.2.2.2.2.2) (fun (u : Int32 × Int32 × Int32 × Int32 × Int32 × Int32 × (Nat → Int32) × (Nat → Int64) × (Nat → Int32)) => wd_RG ad ck rsize rval risP cnt u.1 u.2.1 u.2.2.1 u.2.2.2.1 u.2.2.2.2.1 u.2.2.2.2.2.1 store tAt tSz u.2.2.2.2.2.2.1 u.2.2.2.2.2.2.2.1 u.2.2.2.2.2.2.2.2) ([.ref (ad 11), .int p0] : List Value).toArray s) (F0 m 17 ls [])) (n : Nat) (x3 : Int64) (byZ : Int32) (rpl : Int32) (hld : Int32) (H : Heap) (locs : List Loc) (ls : Array Slot), w_R_either_29 W_c W_e W_f post J17 x1 x2 x5 rsize rval risP cnt look bad inr store tAt tSz hSg hVl hPl n x3 byZ rpl hld → va_P (dC, dI) vwCl (wd_RG ad ck rsize rval risP cnt look bad byZ inr rpl hld store tAt tSz hSg hVl hPl) H → va_D A (wd_RG ad ck rsize rval risP cnt look bad byZ inr rpl hld store tAt tSz hSg hVl hPl) → va_S A s.heap H locs → lv_has ls 6 [(0, .ref (ad 11)), (1, .int x1), (2, .int x2), (3, .long x3), (5, .int x5)] → W p l e (headSpec ws_R_either (rmG (d + 1))).room s m ([.ref (ad 11), .int p0] : List Value).toArray below meth c H locs 0 0 (k_Ql below (dC, dI) vwCl (TYr ck) A (fun (r : Int64) (u : Int32 × Int32 × Int32 × Int32 × Int32 × Int32 × (Nat → Int32) × (Nat → Int64) × (Nat → Int32)) => post r u.1 u.2.1 u.2.2.1 u.2.2.2.1 u.2.2.2.2.1 u.2.2.2.2.2.1 u.2.2.2.2.2.2.1 u.2.2.2.2.2.2.2.1 u.2.2.2.2.2.2.2.2) (fun (u : Int32 × Int32 × Int32 × Int32 × Int32 × Int32 × (Nat → Int32) × (Nat → Int64) × (Nat → Int32)) => wd_RG ad ck rsize rval risP cnt u.1 u.2.1 u.2.2.1 u.2.2.2.1 u.2.2.2.2.1 u.2.2.2.2.2.1 store tAt tSz u.2.2.2.2.2.2.1 u.2.2.2.2.2.2.2.1 u.2.2.2.2.2.2.2.2) ([.ref (ad 11), .int p0] : List Value).toArray s) (F0 m 29 ls []) := by
    intro x1 x2 x5 rsize rval risP cnt look bad inr store tAt tSz hSg hVl hPl J17 hJ17 n
    induction n with
    | zero =>
      intro x3 byZ rpl hld H locs ls hw
      exact False.elim hw
    | succ n ih =>
      intro x3 byZ rpl hld H locs ls hw hP hD hS hl
      refine lv_aload_n hx hb d_R_either_29 rfl (lv_at hl 0 rfl) ?_
      refine va_get (D := (dC, dI)) (ci := 5) (v := .int hld) (C := R_R) (T := T_R) (N := 16) hx hb hts in_R hown hK hP 0 rfl rfl 12 (by decide) (hts _ ux_91) (fun _ h9 => h9) rfl d_R_either_30 ?_
      refine lv_iload_n hx hb d_R_either_33 rfl (lv_at hl 2 rfl) ?_
      obtain ⟨hwt, hwf⟩ := hw
      refine lv_icmp_le (tgt := 76) hx hb d_R_either_34 (by decide) (fun c_22 => ?_) (fun c_22 => ?_)
      · have hw := hwt c_22
        refine lv_aload_n hx hb d_R_either_76 rfl (lv_at hl 0 rfl) ?_
        refine va_get (D := (dC, dI)) (ci := 5) (v := .ref (ad 15)) (C := R_R) (T := T_R) (N := 16) hx hb hts in_R hown hK hP 0 rfl rfl 13 (by decide) (hts _ ux_92) (fun _ h9 => h9) rfl d_R_either_77 ?_
        refine lv_aload_n hx hb d_R_either_80 rfl (lv_at hl 0 rfl) ?_
        refine va_get (D := (dC, dI)) (ci := 5) (v := .int hld) (C := R_R) (T := T_R) (N := 16) hx hb hts in_R hown hK hP 0 rfl rfl 12 (by decide) (hts _ ux_91) (fun _ h9 => h9) rfl d_R_either_81 ?_
        refine lv_iload hx hb d_R_either_84 (lv_at hl 4 rfl) ?_
        obtain ⟨hi_23, hw⟩ := hw
        refine va_iast hx hb hK hP hD hS 4 3 rfl rfl hi_23 d_R_either_86 (fun H locs hP hD hS => ?_)
        obtain ⟨hSg_24, ehSg_24⟩ : ∃ z : Nat → Int32, z = upd hSg hld.toNatClampNeg x5 := ⟨_, rfl⟩
        have hw := hw hSg_24 ehSg_24
        have hP : va_P (dC, dI) vwCl (wd_RG ad ck rsize rval risP cnt look bad byZ inr rpl hld store tAt tSz hSg_24 hVl hPl) H := by rw [ehSg_24]; exact hP
        have hD : va_D A (wd_RG ad ck rsize rval risP cnt look bad byZ inr rpl hld store tAt tSz hSg_24 hVl hPl) := by rw [ehSg_24]; exact hD
        refine lv_aload_n hx hb d_R_either_87 rfl (lv_at hl 0 rfl) ?_
        refine va_get (D := (dC, dI)) (ci := 5) (v := .ref (ad 16)) (C := R_R) (T := T_R) (N := 16) hx hb hts in_R hown hK hP 0 rfl rfl 14 (by decide) (hts _ ux_93) (fun _ h9 => h9) rfl d_R_either_88 ?_
        refine lv_aload_n hx hb d_R_either_91 rfl (lv_at hl 0 rfl) ?_
        refine va_get (D := (dC, dI)) (ci := 5) (v := .int hld) (C := R_R) (T := T_R) (N := 16) hx hb hts in_R hown hK hP 0 rfl rfl 12 (by decide) (hts _ ux_91) (fun _ h9 => h9) rfl d_R_either_92 ?_
        refine lv_lload_n hx hb d_R_either_95 rfl (lv_at hl 3 rfl) ?_
        obtain ⟨hi_25, hw⟩ := hw
        refine va_last hx hb hK hP hD hS 5 4 rfl rfl hi_25 d_R_either_96 (fun H locs hP hD hS => ?_)
        obtain ⟨hVl_26, ehVl_26⟩ : ∃ z : Nat → Int64, z = vp_updL hVl hld.toNatClampNeg x3 := ⟨_, rfl⟩
        have hw := hw hVl_26 ehVl_26
        have hP : va_P (dC, dI) vwCl (wd_RG ad ck rsize rval risP cnt look bad byZ inr rpl hld store tAt tSz hSg_24 hVl_26 hPl) H := by rw [ehVl_26]; exact hP
        have hD : va_D A (wd_RG ad ck rsize rval risP cnt look bad byZ inr rpl hld store tAt tSz hSg_24 hVl_26 hPl) := by rw [ehVl_26]; exact hD
        refine lv_aload_n hx hb d_R_either_97 rfl (lv_at hl 0 rfl) ?_
        refine va_get (D := (dC, dI)) (ci := 5) (v := .ref (ad 17)) (C := R_R) (T := T_R) (N := 16) hx hb hts in_R hown hK hP 0 rfl rfl 15 (by decide) (hts _ ux_101) (fun _ h9 => h9) rfl d_R_either_98 ?_
        refine lv_aload_n hx hb d_R_either_101 rfl (lv_at hl 0 rfl) ?_
        refine va_get (D := (dC, dI)) (ci := 5) (v := .int hld) (C := R_R) (T := T_R) (N := 16) hx hb hts in_R hown hK hP 0 rfl rfl 12 (by decide) (hts _ ux_91) (fun _ h9 => h9) rfl d_R_either_102 ?_
        refine lv_aload_n hx hb d_R_either_105 rfl (lv_at hl 0 rfl) ?_
        refine va_get (D := (dC, dI)) (ci := 5) (v := .int rpl) (C := R_R) (T := T_R) (N := 16) hx hb hts in_R hown hK hP 0 rfl rfl 11 (by decide) (hts _ ux_95) (fun _ h9 => h9) rfl d_R_either_106 ?_
        obtain ⟨hi_27, hw⟩ := hw
        refine va_zast hx hb hK hP hD hS 6 5 rfl rfl hi_27 d_R_either_109 (fun H locs hP hD hS => ?_)
        obtain ⟨hPl_28, ehPl_28⟩ : ∃ z : Nat → Int32, z = upd hPl hld.toNatClampNeg (vp_nar .boolean rpl) := ⟨_, rfl⟩
        have hw := hw hPl_28 ehPl_28
        have hP : va_P (dC, dI) vwCl (wd_RG ad ck rsize rval risP cnt look bad byZ inr rpl hld store tAt tSz hSg_24 hVl_26 hPl_28) H := by rw [ehPl_28]; exact hP
        have hD : va_D A (wd_RG ad ck rsize rval risP cnt look bad byZ inr rpl hld store tAt tSz hSg_24 hVl_26 hPl_28) := by rw [ehPl_28]; exact hD
        refine lv_aload_n hx hb d_R_either_110 rfl (lv_at hl 0 rfl) ?_
        refine lv_dup hx hb d_R_either_111 rfl ?_
        refine va_get (D := (dC, dI)) (ci := 5) (v := .int hld) (C := R_R) (T := T_R) (N := 16) hx hb hts in_R hown hK hP 0 rfl rfl 12 (by decide) (hts _ ux_91) (fun _ h9 => h9) rfl d_R_either_112 ?_
        refine lv_iconst (v := 1) hx hb d_R_either_115 (by decide) ?_
        refine lv_iadd hx hb d_R_either_116 ?_
        refine lv_topi (fun hld_29 ehld_29 => ?_)
        have hw := hw hld_29 ehld_29
        refine va_put (D := (dC, dI)) (ci := 5) (v := .int hld_29) (ty := .int) (C := R_R) (T := T_R) (N := 16) hx hb hts in_R ty_R ty_R_ok nm_R hown hK hP hD hS 0 rfl rfl 12 (by decide) (hts _ ux_91) (fun _ h9 => h9) rfl (by decide +kernel) rfl rfl (Nat.le_of_ble_eq_true rfl) d_R_either_117 (fun H locs hP hD hS => ?_)
        have hP : va_P (dC, dI) vwCl (wd_RG ad ck rsize rval risP cnt look bad byZ inr rpl hld_29 store tAt tSz hSg_24 hVl_26 hPl_28) H := hP
        have hD : va_D A (wd_RG ad ck rsize rval risP cnt look bad byZ inr rpl hld_29 store tAt tSz hSg_24 hVl_26 hPl_28) := hD
        refine lv_aload_n hx hb d_R_either_120 rfl (lv_at hl 0 rfl) ?_
        refine k_callVv (As := []) (rest := []) (fun (u : Int32) => wd_RG ad ck rsize rval risP cnt u bad byZ inr rpl hld_29 store tAt tSz hSg_24 hVl_26 hPl_28) ⟨hx, hb, hml, hown, hts⟩ (kc_R_goOn l dC dI ad ck rsize rval risP cnt look bad byZ inr rpl hld_29 (hw := hw)) (cwV 0 hts (gV ux_136 ux_138 ux_139 ux_49 ux_137) rfl rfl rfl hd_R_goOn ⟨show 0 + 1 ≤ d + 1 + 12 from by omega, show 8 + (1 + 11) + 0 ≤ (d + 1) * 40 + 260 from by omega⟩) hK hP hD hS hA k_x0c trivial [0] [1, 2, 3, 4, 5, 6] [6, 0, 1, 2, 3, 4, 5] rfl rfl (by decide) (by decide) (fun _ => rfl) (va_recv hK hP (ci := 5) (q0 := 0) rfl rfl) rfl hl.1 rfl (lv_room (Nat.le_of_ble_eq_true rfl)) d_R_either_121 ⟨Nat.zero_le _, Nat.zero_le _⟩ ?_
        intro u H locs hw hP hD hS
        obtain ⟨look_30, rfl⟩ : ∃ z, z = u := ⟨_, rfl⟩
        have hP : va_P (dC, dI) vwCl (wd_RG ad ck rsize rval risP cnt look_30 bad byZ inr rpl hld_29 store tAt tSz hSg_24 hVl_26 hPl_28) H := hP
        have hD : va_D A (wd_RG ad ck rsize rval risP cnt look_30 bad byZ inr rpl hld_29 store tAt tSz hSg_24 hVl_26 hPl_28) := hD
        try dsimp only at hw
        refine lv_aload_n hx hb d_R_either_124 rfl (lv_at hl 0 rfl) ?_
        refine lv_aload_n hx hb d_R_either_125 rfl (lv_at hl 0 rfl) ?_
        refine lv_iload_n hx hb d_R_either_126 rfl (lv_at hl 2 rfl) ?_
        refine lv_iload_n hx hb d_R_either_127 rfl (lv_at hl 1 rfl) ?_
        refine k_callVi (As := [.int x2, .int x1]) (rest := [.ref (ad 11)]) (fun (u : Unit) => wd_RG ad ck rsize rval risP cnt look_30 bad byZ inr rpl hld_29 store tAt tSz hSg_24 hVl_26 hPl_28) ⟨hx, hb, hml, hown, hts⟩ (kc_R_isNeeded l dC dI ad ck rsize rval risP cnt look_30 bad byZ inr rpl hld_29 hSg_24 hVl_26 x2 x1 (hw := hw)) (cwV 2 hts (gV ux_102 ux_104 ux_105 ux_49 ux_103) rfl rfl rfl hd_R_isNeeded ⟨show 0 + 1 ≤ d + 1 + 12 from by omega, show 8 + (5 + 11) + 0 ≤ (d + 1) * 40 + 260 from by omega⟩) hK hP hD hS hA k_x0c trivial [0, 4, 5] [1, 2, 3, 6] [4, 0, 1, 2, 5, 6, 3] rfl rfl (by decide) (by decide) (fun _ => rfl) (va_recv hK hP (ci := 5) (q0 := 0) rfl rfl) rfl hl.1 rfl (lv_room (Nat.le_of_ble_eq_true rfl)) d_R_either_128 ⟨Nat.zero_le _, Nat.zero_le _⟩ ?_
        intro r_31 u H locs hw hP hD hS
        have hP : va_P (dC, dI) vwCl (wd_RG ad ck rsize rval risP cnt look_30 bad byZ inr rpl hld_29 store tAt tSz hSg_24 hVl_26 hPl_28) H := hP
        have hD : va_D A (wd_RG ad ck rsize rval risP cnt look_30 bad byZ inr rpl hld_29 store tAt tSz hSg_24 hVl_26 hPl_28) := hD
        try dsimp only at hw
        refine k_callVl (As := [.int r_31]) (rest := []) (fun (u : Int32 × Int32 × Int32 × Int32 × Int32 × Int32 × (Nat → Int32) × (Nat → Int64) × (Nat → Int32)) => wd_RG ad ck rsize rval risP cnt u.1 u.2.1 u.2.2.1 u.2.2.2.1 u.2.2.2.2.1 u.2.2.2.2.2.1 store tAt tSz u.2.2.2.2.2.2.1 u.2.2.2.2.2.2.2.1 u.2.2.2.2.2.2.2.2) ⟨hx, hb, hml, hown, hts⟩ (g_f rsize rval risP cnt look_30 bad byZ inr rpl hld_29 store tAt tSz hSg_24 hVl_26 hPl_28 r_31 _ hw) (cwV 1 hts (gV ux_145 ux_147 ux_148 ux_49 ux_146) rfl rfl rfl hd_R_front ⟨show d + 12 + 1 ≤ d + 1 + 12 from by omega, show 8 + (7 + 11) + (d * 40 + 260) ≤ (d + 1) * 40 + 260 from by omega⟩) hK hP hD hS hA (XR_c sa sv sf) hX [0, 1, 2, 3, 4, 5, 6] [] [0, 1, 2, 3, 4, 5, 6] rfl rfl (by decide) (by decide) (fun _ => rfl) (va_recv hK hP (ci := 5) (q0 := 0) rfl rfl) rfl hl.1 rfl (lv_room (Nat.le_of_ble_eq_true rfl)) d_R_either_131 ⟨Nat.zero_le _, Nat.zero_le _⟩ ?_
        intro r_32 u H locs hw hP hD hS
        obtain ⟨look_33, bad_34, byZ_35, inr_36, rpl_37, hld_38, hSg_39, hVl_40, hPl_41⟩ := u
        have hP : va_P (dC, dI) vwCl (wd_RG ad ck rsize rval risP cnt look_33 bad_34 byZ_35 inr_36 rpl_37 hld_38 store tAt tSz hSg_39 hVl_40 hPl_41) H := hP
        have hD : va_D A (wd_RG ad ck rsize rval risP cnt look_33 bad_34 byZ_35 inr_36 rpl_37 hld_38 store tAt tSz hSg_39 hVl_40 hPl_41) := hD
        try dsimp only at hw
        refine lv_lstore_n (lv' := [(3, .long r_32), (0, .ref (ad 11)), (1, .int x1), (2, .int x2), (5, .int x5)]) hx hb d_R_either_134 rfl hl (by decide) rfl (fun ls hl => ?_)
        refine lv_aload_n hx hb d_R_either_135 rfl (lv_at hl 1 rfl) ?_
        refine k_callVi (As := []) (rest := []) (fun (u : Unit) => wd_RG ad ck rsize rval risP cnt look_33 bad_34 byZ_35 inr_36 rpl_37 hld_38 store tAt tSz hSg_39 hVl_40 hPl_41) ⟨hx, hb, hml, hown, hts⟩ (kc_R_operatorHere l dC dI ad ck sa sv sf rsize rval risP cnt look_33 bad_34 byZ_35 inr_36 rpl_37 hld_38 store tAt tSz (hw := hw)) (cwV 0 hts (gV ux_149 ux_151 ux_152 ux_49 ux_150) rfl rfl rfl hd_R_operatorHere ⟨show 5 + 1 ≤ d + 1 + 12 from by omega, show 8 + (3 + 11) + 109 ≤ (d + 1) * 40 + 260 from by omega⟩) hK hP hD hS hA (XR_c sa sv sf) hX [0, 1, 2, 3] [4, 5, 6] [3, 4, 5, 6, 0, 1, 2] rfl rfl (by decide) (by decide) (fun _ => rfl) (va_recv hK hP (ci := 5) (q0 := 0) rfl rfl) rfl hl.1 rfl (lv_room (Nat.le_of_ble_eq_true rfl)) d_R_either_136 ⟨Nat.zero_le _, Nat.zero_le _⟩ ?_
        intro r_42 u H locs hw hP hD hS
        have hP : va_P (dC, dI) vwCl (wd_RG ad ck rsize rval risP cnt look_33 bad_34 byZ_35 inr_36 rpl_37 hld_38 store tAt tSz hSg_39 hVl_40 hPl_41) H := hP
        have hD : va_D A (wd_RG ad ck rsize rval risP cnt look_33 bad_34 byZ_35 inr_36 rpl_37 hld_38 store tAt tSz hSg_39 hVl_40 hPl_41) := hD
        try dsimp only at hw
        refine lv_istore (lv' := [(5, .int r_42), (3, .long r_32), (0, .ref (ad 11)), (1, .int x1), (2, .int x2)]) hx hb d_R_either_139 hl (by decide) rfl (fun ls hl => ?_)
        refine lv_goto (tgt := 17) hx hb d_R_either_141 (by decide) ?_
        exact hJ17 r_32 r_42 look_33 bad_34 byZ_35 inr_36 rpl_37 hld_38 hSg_39 hVl_40 hPl_41 _ _ _ hw hP hD hS (lv_sub hl [2, 3, 4, 1, 0] rfl)
      · have hw := hwf c_22
        refine lv_aload_n hx hb d_R_either_37 rfl (lv_at hl 0 rfl) ?_
        refine va_get (D := (dC, dI)) (ci := 5) (v := .ref (ad 15)) (C := R_R) (T := T_R) (N := 16) hx hb hts in_R hown hK hP 0 rfl rfl 13 (by decide) (hts _ ux_92) (fun _ h9 => h9) rfl d_R_either_38 ?_
        refine lv_aload_n hx hb d_R_either_41 rfl (lv_at hl 0 rfl) ?_
        refine va_get (D := (dC, dI)) (ci := 5) (v := .int hld) (C := R_R) (T := T_R) (N := 16) hx hb hts in_R hown hK hP 0 rfl rfl 12 (by decide) (hts _ ux_91) (fun _ h9 => h9) rfl d_R_either_42 ?_
        refine lv_iconst (v := 1) hx hb d_R_either_45 (by decide) ?_
        refine lv_isub hx hb d_R_either_46 ?_
        obtain ⟨hi_43, hw⟩ := hw
        refine va_iald hx hb hK hP 4 3 rfl rfl hi_43 d_R_either_47 ?_
        refine k_callSs (As := [.int (hSg (hld - 1).toNatClampNeg)]) (rest := []) (fun (u : Unit) => wd_RG ad ck rsize rval risP cnt look bad byZ inr rpl hld store tAt tSz hSg hVl hPl) ⟨hx, hb, hml, hown, hts⟩ (kc_R_signOf l dC dI ad ck sa sv sf (hSg (hld - 1).toNatClampNeg) (hw := hw)) (va_cwS 1 hts (gS ux_84 ux_86 ux_49 ux_85) rfl rfl rfl hd_R_signOf ⟨show 0 + 1 ≤ d + 1 + 12 from by omega, show 8 + (1 + 11) + 0 ≤ (d + 1) * 40 + 260 from by omega⟩) hK hP hD hS hA (XR_c sa sv sf) hX [] [0, 1, 2, 3, 4, 5, 6] [0, 1, 2, 3, 4, 5, 6] rfl rfl (by decide) (by decide) (fun _ => rfl) rfl hl.1 rfl (lv_room (Nat.le_of_ble_eq_true rfl)) d_R_either_48 ⟨Nat.zero_le _, Nat.zero_le _⟩ ?_
        intro r_44 u H locs hw hP hD hS
        have hP : va_P (dC, dI) vwCl (wd_RG ad ck rsize rval risP cnt look bad byZ inr rpl hld store tAt tSz hSg hVl hPl) H := hP
        have hD : va_D A (wd_RG ad ck rsize rval risP cnt look bad byZ inr rpl hld store tAt tSz hSg hVl hPl) := hD
        try dsimp only at hw
        refine k_callSi (As := [.ref (sa r_44)]) (rest := []) (fun (u : Unit) => wd_RG ad ck rsize rval risP cnt look bad byZ inr rpl hld store tAt tSz hSg hVl hPl) ⟨hx, hb, hml, hown, hts⟩ (kc_R_strengthOf l dC dI ad ck sa sv sf r_44 (hw := hw)) (va_cwS 1 hts (gS ux_157 ux_159 ux_49 ux_158) rfl rfl rfl hd_R_strengthOf ⟨show 2 + 1 ≤ d + 1 + 12 from by omega, show 8 + (3 + 11) + 44 ≤ (d + 1) * 40 + 260 from by omega⟩) hK hP hD hS hA (XR_c sa sv sf) hX [] [0, 1, 2, 3, 4, 5, 6] [0, 1, 2, 3, 4, 5, 6] rfl rfl (by decide) (by decide) (fun _ => rfl) rfl hl.1 rfl (lv_room (Nat.le_of_ble_eq_true rfl)) d_R_either_51 ⟨Nat.zero_le _, Nat.zero_le _⟩ ?_
        intro r_45 u H locs hw hP hD hS
        have hP : va_P (dC, dI) vwCl (wd_RG ad ck rsize rval risP cnt look bad byZ inr rpl hld store tAt tSz hSg hVl hPl) H := hP
        have hD : va_D A (wd_RG ad ck rsize rval risP cnt look bad byZ inr rpl hld store tAt tSz hSg hVl hPl) := hD
        try dsimp only at hw
        refine lv_iload hx hb d_R_either_54 (lv_at hl 4 rfl) ?_
        refine k_callSs (As := [.int x5]) (rest := [.int r_45]) (fun (u : Unit) => wd_RG ad ck rsize rval risP cnt look bad byZ inr rpl hld store tAt tSz hSg hVl hPl) ⟨hx, hb, hml, hown, hts⟩ (kc_R_signOf l dC dI ad ck sa sv sf x5 (hw := hw)) (va_cwS 1 hts (gS ux_84 ux_86 ux_49 ux_85) rfl rfl rfl hd_R_signOf ⟨show 0 + 1 ≤ d + 1 + 12 from by omega, show 8 + (1 + 11) + 0 ≤ (d + 1) * 40 + 260 from by omega⟩) hK hP hD hS hA (XR_c sa sv sf) hX [] [0, 1, 2, 3, 4, 5, 6] [0, 1, 2, 3, 4, 5, 6] rfl rfl (by decide) (by decide) (fun _ => rfl) rfl hl.1 rfl (lv_room (Nat.le_of_ble_eq_true rfl)) d_R_either_56 ⟨Nat.zero_le _, Nat.zero_le _⟩ ?_
        intro r_46 u H locs hw hP hD hS
        have hP : va_P (dC, dI) vwCl (wd_RG ad ck rsize rval risP cnt look bad byZ inr rpl hld store tAt tSz hSg hVl hPl) H := hP
        have hD : va_D A (wd_RG ad ck rsize rval risP cnt look bad byZ inr rpl hld store tAt tSz hSg hVl hPl) := hD
        try dsimp only at hw
        refine k_callSi (As := [.ref (sa r_46)]) (rest := [.int r_45]) (fun (u : Unit) => wd_RG ad ck rsize rval risP cnt look bad byZ inr rpl hld store tAt tSz hSg hVl hPl) ⟨hx, hb, hml, hown, hts⟩ (kc_R_strengthOf l dC dI ad ck sa sv sf r_46 (hw := hw)) (va_cwS 1 hts (gS ux_157 ux_159 ux_49 ux_158) rfl rfl rfl hd_R_strengthOf ⟨show 2 + 1 ≤ d + 1 + 12 from by omega, show 8 + (3 + 11) + 44 ≤ (d + 1) * 40 + 260 from by omega⟩) hK hP hD hS hA (XR_c sa sv sf) hX [] [0, 1, 2, 3, 4, 5, 6] [0, 1, 2, 3, 4, 5, 6] rfl rfl (by decide) (by decide) (fun _ => rfl) rfl hl.1 rfl (lv_room (Nat.le_of_ble_eq_true rfl)) d_R_either_59 ⟨Nat.zero_le _, Nat.zero_le _⟩ ?_
        intro r_47 u H locs hw hP hD hS
        have hP : va_P (dC, dI) vwCl (wd_RG ad ck rsize rval risP cnt look bad byZ inr rpl hld store tAt tSz hSg hVl hPl) H := hP
        have hD : va_D A (wd_RG ad ck rsize rval risP cnt look bad byZ inr rpl hld store tAt tSz hSg hVl hPl) := hD
        try dsimp only at hw
        obtain ⟨hwt, hwf⟩ := hw
        refine lv_icmp_lt (tgt := 76) hx hb d_R_either_62 (by decide) (fun c_48 => ?_) (fun c_48 => ?_)
        · have hw := hwt c_48
          refine lv_aload_n hx hb d_R_either_76 rfl (lv_at hl 0 rfl) ?_
          refine va_get (D := (dC, dI)) (ci := 5) (v := .ref (ad 15)) (C := R_R) (T := T_R) (N := 16) hx hb hts in_R hown hK hP 0 rfl rfl 13 (by decide) (hts _ ux_92) (fun _ h9 => h9) rfl d_R_either_77 ?_
          refine lv_aload_n hx hb d_R_either_80 rfl (lv_at hl 0 rfl) ?_
          refine va_get (D := (dC, dI)) (ci := 5) (v := .int hld) (C := R_R) (T := T_R) (N := 16) hx hb hts in_R hown hK hP 0 rfl rfl 12 (by decide) (hts _ ux_91) (fun _ h9 => h9) rfl d_R_either_81 ?_
          refine lv_iload hx hb d_R_either_84 (lv_at hl 4 rfl) ?_
          obtain ⟨hi_49, hw⟩ := hw
          refine va_iast hx hb hK hP hD hS 4 3 rfl rfl hi_49 d_R_either_86 (fun H locs hP hD hS => ?_)
          obtain ⟨hSg_50, ehSg_50⟩ : ∃ z : Nat → Int32, z = upd hSg hld.toNatClampNeg x5 := ⟨_, rfl⟩
          have hw := hw hSg_50 ehSg_50
          have hP : va_P (dC, dI) vwCl (wd_RG ad ck rsize rval risP cnt look bad byZ inr rpl hld store tAt tSz hSg_50 hVl hPl) H := by rw [ehSg_50]; exact hP
          have hD : va_D A (wd_RG ad ck rsize rval risP cnt look bad byZ inr rpl hld store tAt tSz hSg_50 hVl hPl) := by rw [ehSg_50]; exact hD
          refine lv_aload_n hx hb d_R_either_87 rfl (lv_at hl 0 rfl) ?_
          refine va_get (D := (dC, dI)) (ci := 5) (v := .ref (ad 16)) (C := R_R) (T := T_R) (N := 16) hx hb hts in_R hown hK hP 0 rfl rfl 14 (by decide) (hts _ ux_93) (fun _ h9 => h9) rfl d_R_either_88 ?_
          refine lv_aload_n hx hb d_R_either_91 rfl (lv_at hl 0 rfl) ?_
          refine va_get (D := (dC, dI)) (ci := 5) (v := .int hld) (C := R_R) (T := T_R) (N := 16) hx hb hts in_R hown hK hP 0 rfl rfl 12 (by decide) (hts _ ux_91) (fun _ h9 => h9) rfl d_R_either_92 ?_
          refine lv_lload_n hx hb d_R_either_95 rfl (lv_at hl 3 rfl) ?_
          obtain ⟨hi_51, hw⟩ := hw
          refine va_last hx hb hK hP hD hS 5 4 rfl rfl hi_51 d_R_either_96 (fun H locs hP hD hS => ?_)
          obtain ⟨hVl_52, ehVl_52⟩ : ∃ z : Nat → Int64, z = vp_updL hVl hld.toNatClampNeg x3 := ⟨_, rfl⟩
          have hw := hw hVl_52 ehVl_52
          have hP : va_P (dC, dI) vwCl (wd_RG ad ck rsize rval risP cnt look bad byZ inr rpl hld store tAt tSz hSg_50 hVl_52 hPl) H := by rw [ehVl_52]; exact hP
          have hD : va_D A (wd_RG ad ck rsize rval risP cnt look bad byZ inr rpl hld store tAt tSz hSg_50 hVl_52 hPl) := by rw [ehVl_52]; exact hD
          refine lv_aload_n hx hb d_R_either_97 rfl (lv_at hl 0 rfl) ?_
          refine va_get (D := (dC, dI)) (ci := 5) (v := .ref (ad 17)) (C := R_R) (T := T_R) (N := 16) hx hb hts in_R hown hK hP 0 rfl rfl 15 (by decide) (hts _ ux_101) (fun _ h9 => h9) rfl d_R_either_98 ?_
          refine lv_aload_n hx hb d_R_either_101 rfl (lv_at hl 0 rfl) ?_
          refine va_get (D := (dC, dI)) (ci := 5) (v := .int hld) (C := R_R) (T := T_R) (N := 16) hx hb hts in_R hown hK hP 0 rfl rfl 12 (by decide) (hts _ ux_91) (fun _ h9 => h9) rfl d_R_either_102 ?_
          refine lv_aload_n hx hb d_R_either_105 rfl (lv_at hl 0 rfl) ?_
          refine va_get (D := (dC, dI)) (ci := 5) (v := .int rpl) (C := R_R) (T := T_R) (N := 16) hx hb hts in_R hown hK hP 0 rfl rfl 11 (by decide) (hts _ ux_95) (fun _ h9 => h9) rfl d_R_either_106 ?_
          obtain ⟨hi_53, hw⟩ := hw
          refine va_zast hx hb hK hP hD hS 6 5 rfl rfl hi_53 d_R_either_109 (fun H locs hP hD hS => ?_)
          obtain ⟨hPl_54, ehPl_54⟩ : ∃ z : Nat → Int32, z = upd hPl hld.toNatClampNeg (vp_nar .boolean rpl) := ⟨_, rfl⟩
          have hw := hw hPl_54 ehPl_54
          have hP : va_P (dC, dI) vwCl (wd_RG ad ck rsize rval risP cnt look bad byZ inr rpl hld store tAt tSz hSg_50 hVl_52 hPl_54) H := by rw [ehPl_54]; exact hP
          have hD : va_D A (wd_RG ad ck rsize rval risP cnt look bad byZ inr rpl hld store tAt tSz hSg_50 hVl_52 hPl_54) := by rw [ehPl_54]; exact hD
          refine lv_aload_n hx hb d_R_either_110 rfl (lv_at hl 0 rfl) ?_
          refine lv_dup hx hb d_R_either_111 rfl ?_
          refine va_get (D := (dC, dI)) (ci := 5) (v := .int hld) (C := R_R) (T := T_R) (N := 16) hx hb hts in_R hown hK hP 0 rfl rfl 12 (by decide) (hts _ ux_91) (fun _ h9 => h9) rfl d_R_either_112 ?_
          refine lv_iconst (v := 1) hx hb d_R_either_115 (by decide) ?_
          refine lv_iadd hx hb d_R_either_116 ?_
          refine lv_topi (fun hld_55 ehld_55 => ?_)
          have hw := hw hld_55 ehld_55
          refine va_put (D := (dC, dI)) (ci := 5) (v := .int hld_55) (ty := .int) (C := R_R) (T := T_R) (N := 16) hx hb hts in_R ty_R ty_R_ok nm_R hown hK hP hD hS 0 rfl rfl 12 (by decide) (hts _ ux_91) (fun _ h9 => h9) rfl (by decide +kernel) rfl rfl (Nat.le_of_ble_eq_true rfl) d_R_either_117 (fun H locs hP hD hS => ?_)
          have hP : va_P (dC, dI) vwCl (wd_RG ad ck rsize rval risP cnt look bad byZ inr rpl hld_55 store tAt tSz hSg_50 hVl_52 hPl_54) H := hP
          have hD : va_D A (wd_RG ad ck rsize rval risP cnt look bad byZ inr rpl hld_55 store tAt tSz hSg_50 hVl_52 hPl_54) := hD
          refine lv_aload_n hx hb d_R_either_120 rfl (lv_at hl 0 rfl) ?_
          refine k_callVv (As := []) (rest := []) (fun (u : Int32) => wd_RG ad ck rsize rval risP cnt u bad byZ inr rpl hld_55 store tAt tSz hSg_50 hVl_52 hPl_54) ⟨hx, hb, hml, hown, hts⟩ (kc_R_goOn l dC dI ad ck rsize rval risP cnt look bad byZ inr rpl hld_55 (hw := hw)) (cwV 0 hts (gV ux_136 ux_138 ux_139 ux_49 ux_137) rfl rfl rfl hd_R_goOn ⟨show 0 + 1 ≤ d + 1 + 12 from by omega, show 8 + (1 + 11) + 0 ≤ (d + 1) * 40 + 260 from by omega⟩) hK hP hD hS hA k_x0c trivial [0] [1, 2, 3, 4, 5, 6] [6, 0, 1, 2, 3, 4, 5] rfl rfl (by decide) (by decide) (fun _ => rfl) (va_recv hK hP (ci := 5) (q0 := 0) rfl rfl) rfl hl.1 rfl (lv_room (Nat.le_of_ble_eq_true rfl)) d_R_either_121 ⟨Nat.zero_le _, Nat.zero_le _⟩ ?_
          intro u H locs hw hP hD hS
          obtain ⟨look_56, rfl⟩ : ∃ z, z = u := ⟨_, rfl⟩
          have hP : va_P (dC, dI) vwCl (wd_RG ad ck rsize rval risP cnt look_56 bad byZ inr rpl hld_55 store tAt tSz hSg_50 hVl_52 hPl_54) H := hP
          have hD : va_D A (wd_RG ad ck rsize rval risP cnt look_56 bad byZ inr rpl hld_55 store tAt tSz hSg_50 hVl_52 hPl_54) := hD
          try dsimp only at hw
          refine lv_aload_n hx hb d_R_either_124 rfl (lv_at hl 0 rfl) ?_
          refine lv_aload_n hx hb d_R_either_125 rfl (lv_at hl 0 rfl) ?_
          refine lv_iload_n hx hb d_R_either_126 rfl (lv_at hl 2 rfl) ?_
          refine lv_iload_n hx hb d_R_either_127 rfl (lv_at hl 1 rfl) ?_
          refine k_callVi (As := [.int x2, .int x1]) (rest := [.ref (ad 11)]) (fun (u : Unit) => wd_RG ad ck rsize rval risP cnt look_56 bad byZ inr rpl hld_55 store tAt tSz hSg_50 hVl_52 hPl_54) ⟨hx, hb, hml, hown, hts⟩ (kc_R_isNeeded l dC dI ad ck rsize rval risP cnt look_56 bad byZ inr rpl hld_55 hSg_50 hVl_52 x2 x1 (hw := hw)) (cwV 2 hts (gV ux_102 ux_104 ux_105 ux_49 ux_103) rfl rfl rfl hd_R_isNeeded ⟨show 0 + 1 ≤ d + 1 + 12 from by omega, show 8 + (5 + 11) + 0 ≤ (d + 1) * 40 + 260 from by omega⟩) hK hP hD hS hA k_x0c trivial [0, 4, 5] [1, 2, 3, 6] [4, 0, 1, 2, 5, 6, 3] rfl rfl (by decide) (by decide) (fun _ => rfl) (va_recv hK hP (ci := 5) (q0 := 0) rfl rfl) rfl hl.1 rfl (lv_room (Nat.le_of_ble_eq_true rfl)) d_R_either_128 ⟨Nat.zero_le _, Nat.zero_le _⟩ ?_
          intro r_57 u H locs hw hP hD hS
          have hP : va_P (dC, dI) vwCl (wd_RG ad ck rsize rval risP cnt look_56 bad byZ inr rpl hld_55 store tAt tSz hSg_50 hVl_52 hPl_54) H := hP
          have hD : va_D A (wd_RG ad ck rsize rval risP cnt look_56 bad byZ inr rpl hld_55 store tAt tSz hSg_50 hVl_52 hPl_54) := hD
          try dsimp only at hw
          refine k_callVl (As := [.int r_57]) (rest := []) (fun (u : Int32 × Int32 × Int32 × Int32 × Int32 × Int32 × (Nat → Int32) × (Nat → Int64) × (Nat → Int32)) => wd_RG ad ck rsize rval risP cnt u.1 u.2.1 u.2.2.1 u.2.2.2.1 u.2.2.2.2.1 u.2.2.2.2.2.1 store tAt tSz u.2.2.2.2.2.2.1 u.2.2.2.2.2.2.2.1 u.2.2.2.2.2.2.2.2) ⟨hx, hb, hml, hown, hts⟩ (g_f rsize rval risP cnt look_56 bad byZ inr rpl hld_55 store tAt tSz hSg_50 hVl_52 hPl_54 r_57 _ hw) (cwV 1 hts (gV ux_145 ux_147 ux_148 ux_49 ux_146) rfl rfl rfl hd_R_front ⟨show d + 12 + 1 ≤ d + 1 + 12 from by omega, show 8 + (7 + 11) + (d * 40 + 260) ≤ (d + 1) * 40 + 260 from by omega⟩) hK hP hD hS hA (XR_c sa sv sf) hX [0, 1, 2, 3, 4, 5, 6] [] [0, 1, 2, 3, 4, 5, 6] rfl rfl (by decide) (by decide) (fun _ => rfl) (va_recv hK hP (ci := 5) (q0 := 0) rfl rfl) rfl hl.1 rfl (lv_room (Nat.le_of_ble_eq_true rfl)) d_R_either_131 ⟨Nat.zero_le _, Nat.zero_le _⟩ ?_
          intro r_58 u H locs hw hP hD hS
          obtain ⟨look_59, bad_60, byZ_61, inr_62, rpl_63, hld_64, hSg_65, hVl_66, hPl_67⟩ := u
          have hP : va_P (dC, dI) vwCl (wd_RG ad ck rsize rval risP cnt look_59 bad_60 byZ_61 inr_62 rpl_63 hld_64 store tAt tSz hSg_65 hVl_66 hPl_67) H := hP
          have hD : va_D A (wd_RG ad ck rsize rval risP cnt look_59 bad_60 byZ_61 inr_62 rpl_63 hld_64 store tAt tSz hSg_65 hVl_66 hPl_67) := hD
          try dsimp only at hw
          refine lv_lstore_n (lv' := [(3, .long r_58), (0, .ref (ad 11)), (1, .int x1), (2, .int x2), (5, .int x5)]) hx hb d_R_either_134 rfl hl (by decide) rfl (fun ls hl => ?_)
          refine lv_aload_n hx hb d_R_either_135 rfl (lv_at hl 1 rfl) ?_
          refine k_callVi (As := []) (rest := []) (fun (u : Unit) => wd_RG ad ck rsize rval risP cnt look_59 bad_60 byZ_61 inr_62 rpl_63 hld_64 store tAt tSz hSg_65 hVl_66 hPl_67) ⟨hx, hb, hml, hown, hts⟩ (kc_R_operatorHere l dC dI ad ck sa sv sf rsize rval risP cnt look_59 bad_60 byZ_61 inr_62 rpl_63 hld_64 store tAt tSz (hw := hw)) (cwV 0 hts (gV ux_149 ux_151 ux_152 ux_49 ux_150) rfl rfl rfl hd_R_operatorHere ⟨show 5 + 1 ≤ d + 1 + 12 from by omega, show 8 + (3 + 11) + 109 ≤ (d + 1) * 40 + 260 from by omega⟩) hK hP hD hS hA (XR_c sa sv sf) hX [0, 1, 2, 3] [4, 5, 6] [3, 4, 5, 6, 0, 1, 2] rfl rfl (by decide) (by decide) (fun _ => rfl) (va_recv hK hP (ci := 5) (q0 := 0) rfl rfl) rfl hl.1 rfl (lv_room (Nat.le_of_ble_eq_true rfl)) d_R_either_136 ⟨Nat.zero_le _, Nat.zero_le _⟩ ?_
          intro r_68 u H locs hw hP hD hS
          have hP : va_P (dC, dI) vwCl (wd_RG ad ck rsize rval risP cnt look_59 bad_60 byZ_61 inr_62 rpl_63 hld_64 store tAt tSz hSg_65 hVl_66 hPl_67) H := hP
          have hD : va_D A (wd_RG ad ck rsize rval risP cnt look_59 bad_60 byZ_61 inr_62 rpl_63 hld_64 store tAt tSz hSg_65 hVl_66 hPl_67) := hD
          try dsimp only at hw
          refine lv_istore (lv' := [(5, .int r_68), (3, .long r_58), (0, .ref (ad 11)), (1, .int x1), (2, .int x2)]) hx hb d_R_either_139 hl (by decide) rfl (fun ls hl => ?_)
          refine lv_goto (tgt := 17) hx hb d_R_either_141 (by decide) ?_
          exact hJ17 r_58 r_68 look_59 bad_60 byZ_61 inr_62 rpl_63 hld_64 hSg_65 hVl_66 hPl_67 _ _ _ hw hP hD hS (lv_sub hl [2, 3, 4, 1, 0] rfl)
        · have hw := hwf c_48
          refine lv_aload_n hx hb d_R_either_65 rfl (lv_at hl 0 rfl) ?_
          refine lv_lload_n hx hb d_R_either_66 rfl (lv_at hl 3 rfl) ?_
          refine lv_iload_n hx hb d_R_either_67 rfl (lv_at hl 2 rfl) ?_
          refine lv_iload_n hx hb d_R_either_68 rfl (lv_at hl 1 rfl) ?_
          refine k_callVl (As := [.long x3, .int x2, .int x1]) (rest := []) (fun (u : Int32 × Int32 × Int32) => wd_RG ad ck rsize rval risP cnt look bad u.1 inr u.2.1 u.2.2 store tAt tSz hSg hVl hPl) ⟨hx, hb, hml, hown, hts⟩ (kc_R_settle l dC dI ad ck rsize rval risP cnt look bad byZ inr rpl hld hSg hVl hPl x3 x2 x1 (hw := hw)) (cwV 3 hts (gV ux_153 ux_155 ux_156 ux_49 ux_154) rfl rfl rfl hd_R_settle ⟨show 2 + 1 ≤ d + 1 + 12 from by omega, show 8 + (5 + 11) + 60 ≤ (d + 1) * 40 + 260 from by omega⟩) hK hP hD hS hA k_x0c trivial [0, 4, 5, 6] [1, 2, 3] [3, 0, 1, 2, 4, 5, 6] rfl rfl (by decide) (by decide) (fun _ => rfl) (va_recv hK hP (ci := 5) (q0 := 0) rfl rfl) rfl hl.1 rfl (lv_room (Nat.le_of_ble_eq_true rfl)) d_R_either_69 ⟨Nat.zero_le _, Nat.zero_le _⟩ ?_
          intro r_69 u H locs hw hP hD hS
          obtain ⟨byZ_70, rpl_71, hld_72⟩ := u
          have hP : va_P (dC, dI) vwCl (wd_RG ad ck rsize rval risP cnt look bad byZ_70 inr rpl_71 hld_72 store tAt tSz hSg hVl hPl) H := hP
          have hD : va_D A (wd_RG ad ck rsize rval risP cnt look bad byZ_70 inr rpl_71 hld_72 store tAt tSz hSg hVl hPl) := hD
          try dsimp only at hw
          refine lv_lstore_n (lv' := [(3, .long r_69), (0, .ref (ad 11)), (1, .int x1), (2, .int x2), (5, .int x5)]) hx hb d_R_either_72 rfl hl (by decide) rfl (fun ls hl => ?_)
          refine lv_goto (tgt := 29) hx hb d_R_either_73 (by decide) ?_
          exact ih r_69 byZ_70 rpl_71 hld_72 _ _ _ hw hP hD hS (lv_sub hl [1, 2, 3, 0, 4] rfl)
  have L_17 : ∀ (x1 : Int32) (x2 : Int32) (rsize : Int32) (rval : Int64) (risP : Int32) (cnt : Int32) (store : Nat → Int32) (tAt : Nat → Int32) (tSz : Nat → Int32) (n : Nat) (x3 : Int64) (x5 : Int32) (look : Int32) (bad : Int32) (byZ : Int32) (inr : Int32) (rpl : Int32) (hld : Int32) (hSg : Nat → Int32) (hVl : Nat → Int64) (hPl : Nat → Int32) (H : Heap) (locs : List Loc) (ls : Array Slot), w_R_either_17 W_c W_e W_f post x1 x2 rsize rval risP cnt store tAt tSz n x3 x5 look bad byZ inr rpl hld hSg hVl hPl → va_P (dC, dI) vwCl (wd_RG ad ck rsize rval risP cnt look bad byZ inr rpl hld store tAt tSz hSg hVl hPl) H → va_D A (wd_RG ad ck rsize rval risP cnt look bad byZ inr rpl hld store tAt tSz hSg hVl hPl) → va_S A s.heap H locs → lv_has ls 6 [(0, .ref (ad 11)), (1, .int x1), (2, .int x2), (3, .long x3), (5, .int x5)] → W p l e (headSpec ws_R_either (rmG (d + 1))).room s m ([.ref (ad 11), .int p0] : List Value).toArray below meth c H locs 0 0 (k_Ql below (dC, dI) vwCl (TYr ck) A (fun (r : Int64) (u : Int32 × Int32 × Int32 × Int32 × Int32 × Int32 × (Nat → Int32) × (Nat → Int64) × (Nat → Int32)) => post r u.1 u.2.1 u.2.2.1 u.2.2.2.1 u.2.2.2.2.1 u.2.2.2.2.2.1 u.2.2.2.2.2.2.1 u.2.2.2.2.2.2.2.1 u.2.2.2.2.2.2.2.2) (fun (u : Int32 × Int32 × Int32 × Int32 × Int32 × Int32 × (Nat → Int32) × (Nat → Int64) × (Nat → Int32)) => wd_RG ad ck rsize rval risP cnt u.1 u.2.1 u.2.2.1 u.2.2.2.1 u.2.2.2.2.1 u.2.2.2.2.2.1 store tAt tSz u.2.2.2.2.2.2.1 u.2.2.2.2.2.2.2.1 u.2.2.2.2.2.2.2.2) ([.ref (ad 11), .int p0] : List Value).toArray s) (F0 m 17 ls []) := by
    intro x1 x2 rsize rval risP cnt store tAt tSz n
    induction n with
    | zero =>
      intro x3 x5 look bad byZ inr rpl hld hSg hVl hPl H locs ls hw
      exact False.elim hw
    | succ n ih =>
      intro x3 x5 look bad byZ inr rpl hld hSg hVl hPl H locs ls hw hP hD hS hl
      refine lv_aload_n hx hb d_R_either_17 rfl (lv_at hl 0 rfl) ?_
      refine va_get (D := (dC, dI)) (ci := 5) (v := .int bad) (C := R_R) (T := T_R) (N := 16) hx hb hts in_R hown hK hP 0 rfl rfl 8 (by decide) (hts _ ux_110) (fun _ h9 => h9) rfl d_R_either_18 ?_
      obtain ⟨hwt, hwf⟩ := hw
      refine lv_if_ne (tgt := 144) hx hb d_R_either_21 (by decide) (fun c_12 => ?_) (fun c_12 => ?_)
      · have hw := hwf c_12
        obtain ⟨fu144, hw⟩ := hw
        exact L_144 x1 x2 rsize rval risP cnt look bad inr store tAt tSz hSg hVl hPl fu144 x3 byZ rpl hld _ _ _ hw hP hD hS (lv_sub hl [0, 1, 2, 3] rfl)
      · have hw := hwt c_12
        refine lv_iload hx hb d_R_either_24 (lv_at hl 4 rfl) ?_
        obtain ⟨hwt, hwf⟩ := hw
        refine lv_if_lt (tgt := 144) hx hb d_R_either_26 (by decide) (fun c_21 => ?_) (fun c_21 => ?_)
        · have hw := hwt c_21
          obtain ⟨fu144, hw⟩ := hw
          exact L_144 x1 x2 rsize rval risP cnt look bad inr store tAt tSz hSg hVl hPl fu144 x3 byZ rpl hld _ _ _ hw hP hD hS (lv_sub hl [0, 1, 2, 3] rfl)
        · have hw := hwf c_21
          obtain ⟨fu29, hw⟩ := hw
          exact L_29 x1 x2 x5 rsize rval risP cnt look bad inr store tAt tSz hSg hVl hPl _ ih fu29 x3 byZ rpl hld _ _ _ hw hP hD hS (lv_sub hl [0, 1, 2, 3, 4] rfl)
  refine lv_aload_n hx hb d_R_either_0 rfl (lv_at hl 0 rfl) ?_
  refine va_get (D := (dC, dI)) (ci := 5) (v := .int hld) (C := R_R) (T := T_R) (N := 16) hx hb hts in_R hown hK hP 0 rfl rfl 12 (by decide) (hts _ ux_91) (fun _ h9 => h9) rfl d_R_either_1 ?_
  refine lv_istore_n (lv' := [(2, .int hld), (0, .ref (ad 11)), (1, .int p0)]) hx hb d_R_either_4 rfl hl (by decide) rfl (fun ls hl => ?_)
  refine lv_aload_n hx hb d_R_either_5 rfl (lv_at hl 1 rfl) ?_
  refine lv_iload_n hx hb d_R_either_6 rfl (lv_at hl 2 rfl) ?_
  refine k_callVl (As := [.int p0]) (rest := []) (fun (u : Int32 × Int32 × Int32 × Int32 × Int32 × Int32 × (Nat → Int32) × (Nat → Int64) × (Nat → Int32)) => wd_RG ad ck rsize rval risP cnt u.1 u.2.1 u.2.2.1 u.2.2.2.1 u.2.2.2.2.1 u.2.2.2.2.2.1 store tAt tSz u.2.2.2.2.2.2.1 u.2.2.2.2.2.2.2.1 u.2.2.2.2.2.2.2.2) ⟨hx, hb, hml, hown, hts⟩ (g_f rsize rval risP cnt look bad byZ inr rpl hld store tAt tSz hSg hVl hPl p0 _ hw) (cwV 1 hts (gV ux_145 ux_147 ux_148 ux_49 ux_146) rfl rfl rfl hd_R_front ⟨show d + 12 + 1 ≤ d + 1 + 12 from by omega, show 8 + (7 + 11) + (d * 40 + 260) ≤ (d + 1) * 40 + 260 from by omega⟩) hK hP hD hS hA (XR_c sa sv sf) hX [0, 1, 2, 3, 4, 5, 6] [] [0, 1, 2, 3, 4, 5, 6] rfl rfl (by decide) (by decide) (fun _ => rfl) (va_recv hK hP (ci := 5) (q0 := 0) rfl rfl) rfl hl.1 rfl (lv_room (Nat.le_of_ble_eq_true rfl)) d_R_either_7 ⟨Nat.zero_le _, Nat.zero_le _⟩ ?_
  intro r_1 u H locs hw hP hD hS
  obtain ⟨look_2, bad_3, byZ_4, inr_5, rpl_6, hld_7, hSg_8, hVl_9, hPl_10⟩ := u
  have hP : va_P (dC, dI) vwCl (wd_RG ad ck rsize rval risP cnt look_2 bad_3 byZ_4 inr_5 rpl_6 hld_7 store tAt tSz hSg_8 hVl_9 hPl_10) H := hP
  have hD : va_D A (wd_RG ad ck rsize rval risP cnt look_2 bad_3 byZ_4 inr_5 rpl_6 hld_7 store tAt tSz hSg_8 hVl_9 hPl_10) := hD
  try dsimp only at hw
  refine lv_lstore_n (lv' := [(3, .long r_1), (2, .int hld), (0, .ref (ad 11)), (1, .int p0)]) hx hb d_R_either_10 rfl hl (by decide) rfl (fun ls hl => ?_)
  refine lv_aload_n hx hb d_R_either_11 rfl (lv_at hl 2 rfl) ?_
  refine k_callVi (As := []) (rest := []) (fun (u : Unit) => wd_RG ad ck rsize rval risP cnt look_2 bad_3 byZ_4 inr_5 rpl_6 hld_7 store tAt tSz hSg_8 hVl_9 hPl_10) ⟨hx, hb, hml, hown, hts⟩ (kc_R_operatorHere l dC dI ad ck sa sv sf rsize rval risP cnt look_2 bad_3 byZ_4 inr_5 rpl_6 hld_7 store tAt tSz (hw := hw)) (cwV 0 hts (gV ux_149 ux_151 ux_152 ux_49 ux_150) rfl rfl rfl hd_R_operatorHere ⟨show 5 + 1 ≤ d + 1 + 12 from by omega, show 8 + (3 + 11) + 109 ≤ (d + 1) * 40 + 260 from by omega⟩) hK hP hD hS hA (XR_c sa sv sf) hX [0, 1, 2, 3] [4, 5, 6] [3, 4, 5, 6, 0, 1, 2] rfl rfl (by decide) (by decide) (fun _ => rfl) (va_recv hK hP (ci := 5) (q0 := 0) rfl rfl) rfl hl.1 rfl (lv_room (Nat.le_of_ble_eq_true rfl)) d_R_either_12 ⟨Nat.zero_le _, Nat.zero_le _⟩ ?_
  intro r_11 u H locs hw hP hD hS
  have hP : va_P (dC, dI) vwCl (wd_RG ad ck rsize rval risP cnt look_2 bad_3 byZ_4 inr_5 rpl_6 hld_7 store tAt tSz hSg_8 hVl_9 hPl_10) H := hP
  have hD : va_D A (wd_RG ad ck rsize rval risP cnt look_2 bad_3 byZ_4 inr_5 rpl_6 hld_7 store tAt tSz hSg_8 hVl_9 hPl_10) := hD
  try dsimp only at hw
  refine lv_istore (lv' := [(5, .int r_11), (3, .long r_1), (2, .int hld), (0, .ref (ad 11)), (1, .int p0)]) hx hb d_R_either_15 hl (by decide) rfl (fun ls hl => ?_)
  obtain ⟨fu17, hw⟩ := hw
  exact L_17 p0 hld rsize rval risP cnt store tAt tSz fu17 r_1 r_11 look_2 bad_3 byZ_4 inr_5 rpl_6 hld_7 hSg_8 hVl_9 hPl_10 _ _ _ hw hP hD hS (lv_sub hl [3, 4, 2, 1, 0] rfl)
def w_R_front_197 (W_c W_e W_f : TG) (post : Int64 → Int32 → Int32 → Int32 → Int32 → Int32 → Int32 → (Nat → Int32) → (Nat → Int64) → (Nat → Int32) → Prop) (x2 : Int32) (x4 : Int32) (z0 : Int64) (rsize : Int32) (rval : Int64) (risP : Int32) (cnt : Int32) (look : Int32) (bad : Int32) (byZ : Int32) (inr : Int32) (rpl : Int32) (hld : Int32) (store : Nat → Int32) (tAt : Nat → Int32) (tSz : Nat → Int32) (hSg : Nat → Int32) (hVl : Nat → Int64) (hPl : Nat → Int32) : Prop := ∀ inr_25 : Int32, inr_25 = (inr - 1) → ((x4 = 0 → (wp_R_is (fun (r_27 : Int32) => (r_27 = 0 → (wp_R_is (fun (r_29 : Int32) => (r_29 = 0 → (wp_R_is (fun (r_31 : Int32) => (r_31 = 0 → (post z0 look bad byZ inr_25 rpl hld hSg hVl hPl)) ∧ (¬ r_31 = 0 → (post (z0 ^^^ (-1)) look bad byZ inr_25 rpl hld hSg hVl hPl))) rsize rval risP cnt look bad byZ inr_25 rpl hld store tAt tSz x2 7)) ∧ (¬ r_29 = 0 → (post (-z0) look bad byZ inr_25 rpl hld hSg hVl hPl))) rsize rval risP cnt look bad byZ inr_25 rpl hld store tAt tSz x2 6)) ∧ (¬ r_27 = 0 → (((lg_cmp z0 0) = 0 → (post 1 look bad byZ inr_25 0 hld hSg hVl hPl)) ∧ (¬ (lg_cmp z0 0) = 0 → (post 0 look bad byZ inr_25 0 hld hSg hVl hPl))))) rsize rval risP cnt look bad byZ inr_25 rpl hld store tAt tSz x2 8)) ∧ (¬ x4 = 0 → ((bad = 0 → (wp_R_is (fun (r_36 : Int32) => (r_36 = 0 → (wp_R_goOn (fun (look_39 : Int32) => post z0 look_39 1 byZ inr_25 rpl hld hSg hVl hPl) rsize rval risP cnt look 1 byZ inr_25 rpl hld)) ∧ (¬ r_36 = 0 → (wp_R_goOn (fun (look_38 : Int32) => post z0 look_38 0 byZ inr_25 rpl hld hSg hVl hPl) rsize rval risP cnt look 0 byZ inr_25 rpl hld))) rsize rval risP cnt look bad byZ inr_25 rpl hld store tAt tSz look 9)) ∧ (¬ bad = 0 → (wp_R_goOn (fun (look_35 : Int32) => post z0 look_35 1 byZ inr_25 rpl hld hSg hVl hPl) rsize rval risP cnt look 1 byZ inr_25 rpl hld)))))
def w_R_front_165 (W_c W_e W_f : TG) (post : Int64 → Int32 → Int32 → Int32 → Int32 → Int32 → Int32 → (Nat → Int32) → (Nat → Int64) → (Nat → Int32) → Prop) (x1 : Int32) (x2 : Int32) (x4 : Int32) (z0 : Int32) (rsize : Int32) (rval : Int64) (risP : Int32) (cnt : Int32) (look : Int32) (bad : Int32) (byZ : Int32) (inr : Int32) (rpl : Int32) (hld : Int32) (store : Nat → Int32) (tAt : Nat → Int32) (tSz : Nat → Int32) (hSg : Nat → Int32) (hVl : Nat → Int64) (hPl : Nat → Int32) : Prop := vz z0 ∧ ((z0 = 0 → ((x4 = 0 → (W_f (fun (r_15 : Int64) (look_16 : Int32) (bad_17 : Int32) (byZ_18 : Int32) (inr_19 : Int32) (rpl_20 : Int32) (hld_21 : Int32) (hSg_22 : Nat → Int32) (hVl_23 : Nat → Int64) (hPl_24 : Nat → Int32) => w_R_front_197 W_c W_e W_f post x2 x4 r_15 rsize rval risP cnt look_16 bad_17 byZ_18 inr_19 rpl_20 hld_21 store tAt tSz hSg_22 hVl_23 hPl_24) rsize rval risP cnt look z0 byZ inr rpl hld store tAt tSz hSg hVl hPl x1)) ∧ (¬ x4 = 0 → (W_c (fun (r_40 : Int64) (look_41 : Int32) (bad_42 : Int32) (byZ_43 : Int32) (inr_44 : Int32) (rpl_45 : Int32) (hld_46 : Int32) (hSg_47 : Nat → Int32) (hVl_48 : Nat → Int64) (hPl_49 : Nat → Int32) => w_R_front_197 W_c W_e W_f post x2 x4 r_40 rsize rval risP cnt look_41 bad_42 byZ_43 inr_44 rpl_45 hld_46 store tAt tSz hSg_47 hVl_48 hPl_49) rsize rval risP cnt look z0 byZ inr rpl hld store tAt tSz hSg hVl hPl x1)))) ∧ (¬ z0 = 0 → (w_R_front_197 W_c W_e W_f post x2 x4 0 rsize rval risP cnt look z0 byZ inr rpl hld store tAt tSz hSg hVl hPl)))
def w_R_front_136 (W_c W_e W_f : TG) (post : Int64 → Int32 → Int32 → Int32 → Int32 → Int32 → Int32 → (Nat → Int32) → (Nat → Int64) → (Nat → Int32) → Prop) (x1 : Int32) (x2 : Int32) (x4 : Int32) (rsize : Int32) (rval : Int64) (risP : Int32) (cnt : Int32) (look : Int32) (bad : Int32) (byZ : Int32) (inr : Int32) (rpl : Int32) (hld : Int32) (store : Nat → Int32) (tAt : Nat → Int32) (tSz : Nat → Int32) (hSg : Nat → Int32) (hVl : Nat → Int64) (hPl : Nat → Int32) : Prop := wp_R_goOn (fun (look_9 : Int32) => ∀ inr_10 : Int32, inr_10 = (inr + 1) → ((inr_10 ≤ 60 → (w_R_front_165 W_c W_e W_f post x1 x2 x4 0 rsize rval risP cnt look_9 bad byZ inr_10 rpl hld store tAt tSz hSg hVl hPl)) ∧ (¬ inr_10 ≤ 60 → (w_R_front_165 W_c W_e W_f post x1 x2 x4 1 rsize rval risP cnt look_9 bad byZ inr_10 rpl hld store tAt tSz hSg hVl hPl)))) rsize rval risP cnt look bad byZ inr rpl hld
def wb_R_front (W_c W_e W_f : TG) (post : Int64 → Int32 → Int32 → Int32 → Int32 → Int32 → Int32 → (Nat → Int32) → (Nat → Int64) → (Nat → Int32) → Prop) (rsize : Int32) (rval : Int64) (risP : Int32) (cnt : Int32) (look : Int32) (bad : Int32) (byZ : Int32) (inr : Int32) (rpl : Int32) (hld : Int32) (store : Nat → Int32) (tAt : Nat → Int32) (tSz : Nat → Int32) (hSg : Nat → Int32) (hVl : Nat → Int64) (hPl : Nat → Int32) (p0 : Int32) : Prop := (bad = 0 → ((0 ≤ look → (wp_R_kindOf (fun (r_3 : Int32) => (r_3 = 1 → (wp_R_goOn (fun (look_65 : Int32) => post 0 look_65 bad byZ inr 0 hld hSg hVl hPl) rsize rval risP cnt look bad byZ inr 0 hld)) ∧ (¬ r_3 = 1 → ((r_3 = 2 → (wp_R_goOn (fun (look_61 : Int32) => wp_R_numberOf (fun (r_62 : Int64) (bad_63 : Int32) (rpl_64 : Int32) => post r_62 look_61 bad_63 byZ inr rpl_64 hld hSg hVl hPl) rsize rval risP cnt look_61 bad byZ inr 0 hld store tAt tSz look) rsize rval risP cnt look bad byZ inr 0 hld)) ∧ (¬ r_3 = 2 → ((r_3 = 4 → (wp_R_goOn (fun (look_58 : Int32) => wp_R_characterOf (fun (r_59 : Int64) (bad_60 : Int32) => post r_59 look_58 bad_60 byZ inr 0 hld hSg hVl hPl) rsize rval risP cnt look_58 bad byZ inr 0 hld store tAt tSz look) rsize rval risP cnt look bad byZ inr 0 hld)) ∧ (¬ r_3 = 4 → (wp_R_is (fun (r_7 : Int32) => (r_7 = 0 → (wp_R_is (fun (r_50 : Int32) => (r_50 = 0 → (wp_R_is (fun (r_52 : Int32) => (r_52 = 0 → (wp_R_is (fun (r_54 : Int32) => (r_54 = 0 → (wp_R_is (fun (r_56 : Int32) => (r_56 = 0 → (post 0 look 1 byZ inr 0 hld hSg hVl hPl)) ∧ (¬ r_56 = 0 → (w_R_front_136 W_c W_e W_f post p0 look r_7 rsize rval risP cnt look bad byZ inr 0 hld store tAt tSz hSg hVl hPl))) rsize rval risP cnt look bad byZ inr 0 hld store tAt tSz look 8)) ∧ (¬ r_54 = 0 → (w_R_front_136 W_c W_e W_f post p0 look r_7 rsize rval risP cnt look bad byZ inr 0 hld store tAt tSz hSg hVl hPl))) rsize rval risP cnt look bad byZ inr 0 hld store tAt tSz look 7)) ∧ (¬ r_52 = 0 → (w_R_front_136 W_c W_e W_f post p0 look r_7 rsize rval risP cnt look bad byZ inr 0 hld store tAt tSz hSg hVl hPl))) rsize rval risP cnt look bad byZ inr 0 hld store tAt tSz look 6)) ∧ (¬ r_50 = 0 → (w_R_front_136 W_c W_e W_f post p0 look r_7 rsize rval risP cnt look bad byZ inr 0 hld store tAt tSz hSg hVl hPl))) rsize rval risP cnt look bad byZ inr 0 hld store tAt tSz look 5)) ∧ (¬ r_7 = 0 → (w_R_front_136 W_c W_e W_f post p0 look r_7 rsize rval risP cnt look bad byZ inr 0 hld store tAt tSz hSg hVl hPl))) rsize rval risP cnt look bad byZ inr 0 hld store tAt tSz look 4))))))) rsize rval risP cnt look bad byZ inr 0 hld store tAt tSz look)) ∧ (¬ 0 ≤ look → (post 0 look 1 byZ inr 0 hld hSg hVl hPl)))) ∧ (¬ bad = 0 → (post 0 look 1 byZ inr 0 hld hSg hVl hPl))
set_option maxHeartbeats 4000000 in
set_option maxRecDepth 100000 in
theorem kb_R_front (l : Launch) (dC : Nat → ClassId) (dI : Nat → Nat → Nat) (ad : Nat → Nat) (ck : Nat → ClassId) (sa sv : Nat → Nat) (sf : Option Nat) (d : Nat) {W_c W_e W_f : TG} (g_c : KC l dC dI ad ck sa sv sf y_R_choice ws_R_choice (rmG d) W_c) (g_e : KC l dC dI ad ck sa sv sf y_R_either ws_R_either (rmG d) W_e) (g_f : KC l dC dI ad ck sa sv sf y_R_front ws_R_front (rmG d) W_f) : KC l dC dI ad ck sa sv sf y_R_front ws_R_front (rmG (d + 1)) (wb_R_front W_c W_e W_f) := by
  intro rsize rval risP cnt look bad byZ inr rpl hld store tAt tSz hSg hVl hPl p0 post hw
  intro sz
  refine Met.ofW (cc := c_R_front) (maxL := 7) (ret := (some .long)) (by decide) rfl ?_
  intro p e s m args below meth c s₁ B hml hv
  obtain ⟨rfl, hsz, hP, hK, hD0, hX⟩ := hv
  have hx := B.exec
  have hb := B.bytes
  have hr := B.returns
  have hts : ∀ w ∈ TB, w.before _ s = true := fun w h => atoms_spec (ws := ws_R_front) B.pre w (List.mem_cons_of_mem _ h)
  have hown : s.vm.findClass R_R = some m.cls := findClass_of_methodNamed B.named
  have hlocks := B.notSynchronized
  subst hsz
  have hD := hD0.self (sz := s.heap.size)
  generalize hAe : va_A (wd_RG ad ck rsize rval risP cnt look bad byZ inr rpl hld store tAt tSz hSg hVl hPl) s.heap.size = A at hD hX ⊢
  have hA : ∀ q : Nat, s.heap.size ≤ q → A q := fun q h => by rw [← hAe]; exact Or.inr h
  have hS : va_S A s.heap s.heap [] := va_S.rf
  have hP : va_P (dC, dI) vwCl (wd_RG ad ck rsize rval risP cnt look bad byZ inr rpl hld store tAt tSz hSg hVl hPl) s.heap := hP
  have hl := lv_entry ([.ref (ad 11), .int p0]) (n := 7) (Nat.le_of_ble_eq_true rfl)
  rw [lg_entry_eq]
  generalize (lg_sl ([.ref (ad 11), .int p0]) ++ List.replicate (7 - (lg_sl ([.ref (ad 11), .int p0])).length) Slot.unset).toArray = ls at hl ⊢
  have hl : lv_has ls 7 [(0, .ref (ad 11)), (1, .int p0)] := hl
  have L_197 : ∀ (x2 : Int32) (x4 : Int32) (z0 : Int64) (rsize : Int32) (rval : Int64) (risP : Int32) (cnt : Int32) (look : Int32) (bad : Int32) (byZ : Int32) (inr : Int32) (rpl : Int32) (hld : Int32) (store : Nat → Int32) (tAt : Nat → Int32) (tSz : Nat → Int32) (hSg : Nat → Int32) (hVl : Nat → Int64) (hPl : Nat → Int32) (H : Heap) (locs : List Loc) (ls : Array Slot), w_R_front_197 W_c W_e W_f post x2 x4 z0 rsize rval risP cnt look bad byZ inr rpl hld store tAt tSz hSg hVl hPl → va_P (dC, dI) vwCl (wd_RG ad ck rsize rval risP cnt look bad byZ inr rpl hld store tAt tSz hSg hVl hPl) H → va_D A (wd_RG ad ck rsize rval risP cnt look bad byZ inr rpl hld store tAt tSz hSg hVl hPl) → va_S A s.heap H locs → lv_has ls 7 [(0, .ref (ad 11)), (2, .int x2), (4, .int x4)] → W p l e (headSpec ws_R_front (rmG (d + 1))).room s m ([.ref (ad 11), .int p0] : List Value).toArray below meth c H locs 0 0 (k_Ql below (dC, dI) vwCl (TYr ck) A (fun (r : Int64) (u : Int32 × Int32 × Int32 × Int32 × Int32 × Int32 × (Nat → Int32) × (Nat → Int64) × (Nat → Int32)) => post r u.1 u.2.1 u.2.2.1 u.2.2.2.1 u.2.2.2.2.1 u.2.2.2.2.2.1 u.2.2.2.2.2.2.1 u.2.2.2.2.2.2.2.1 u.2.2.2.2.2.2.2.2) (fun (u : Int32 × Int32 × Int32 × Int32 × Int32 × Int32 × (Nat → Int32) × (Nat → Int64) × (Nat → Int32)) => wd_RG ad ck rsize rval risP cnt u.1 u.2.1 u.2.2.1 u.2.2.2.1 u.2.2.2.2.1 u.2.2.2.2.2.1 store tAt tSz u.2.2.2.2.2.2.1 u.2.2.2.2.2.2.2.1 u.2.2.2.2.2.2.2.2) ([.ref (ad 11), .int p0] : List Value).toArray s) (F0 m 197 ls [.long z0]) := by
    intro x2 x4 z0 rsize rval risP cnt look bad byZ inr rpl hld store tAt tSz hSg hVl hPl H locs ls hw hP hD hS hl
    refine lv_lstore (lv' := [(5, .long z0), (0, .ref (ad 11)), (2, .int x2), (4, .int x4)]) hx hb d_R_front_197 hl (by decide) rfl (fun ls hl => ?_)
    refine lv_aload_n hx hb d_R_front_199 rfl (lv_at hl 1 rfl) ?_
    refine lv_dup hx hb d_R_front_200 rfl ?_
    refine va_get (D := (dC, dI)) (ci := 5) (v := .int inr) (C := R_R) (T := T_R) (N := 16) hx hb hts in_R hown hK hP 0 rfl rfl 10 (by decide) (hts _ ux_140) (fun _ h9 => h9) rfl d_R_front_201 ?_
    refine lv_iconst (v := 1) hx hb d_R_front_204 (by decide) ?_
    refine lv_isub hx hb d_R_front_205 ?_
    refine lv_topi (fun inr_25 einr_25 => ?_)
    have hw := hw inr_25 einr_25
    refine va_put (D := (dC, dI)) (ci := 5) (v := .int inr_25) (ty := .int) (C := R_R) (T := T_R) (N := 16) hx hb hts in_R ty_R ty_R_ok nm_R hown hK hP hD hS 0 rfl rfl 10 (by decide) (hts _ ux_140) (fun _ h9 => h9) rfl (by decide +kernel) rfl rfl (Nat.le_of_ble_eq_true rfl) d_R_front_206 (fun H locs hP hD hS => ?_)
    have hP : va_P (dC, dI) vwCl (wd_RG ad ck rsize rval risP cnt look bad byZ inr_25 rpl hld store tAt tSz hSg hVl hPl) H := hP
    have hD : va_D A (wd_RG ad ck rsize rval risP cnt look bad byZ inr_25 rpl hld store tAt tSz hSg hVl hPl) := hD
    refine lv_iload hx hb d_R_front_209 (lv_at hl 3 rfl) ?_
    obtain ⟨hwt, hwf⟩ := hw
    refine lv_if_eq (tgt := 250) hx hb d_R_front_211 (by decide) (fun c_26 => ?_) (fun c_26 => ?_)
    · have hw := hwt c_26
      refine lv_aload_n hx hb d_R_front_250 rfl (lv_at hl 1 rfl) ?_
      refine lv_iload_n hx hb d_R_front_251 rfl (lv_at hl 2 rfl) ?_
      refine va_ldcS hx hb hown (hX.1 _ rs_8) d_R_front_252 ?_
      refine k_callVi (As := [.int x2, .ref (sa 8)]) (rest := []) (fun (u : Unit) => wd_RG ad ck rsize rval risP cnt look bad byZ inr_25 rpl hld store tAt tSz hSg hVl hPl) ⟨hx, hb, hml, hown, hts⟩ (kc_R_is l dC dI ad ck sa sv sf rsize rval risP cnt look bad byZ inr_25 rpl hld store tAt tSz x2 8 (hw := hw)) (cwV 2 hts (gV ux_87 ux_89 ux_90 ux_49 ux_88) rfl rfl rfl hd_R_is ⟨show 4 + 1 ≤ d + 1 + 12 from by omega, show 8 + (5 + 11) + 85 ≤ (d + 1) * 40 + 260 from by omega⟩) hK hP hD hS hA (XR_c sa sv sf) hX [0, 1, 2, 3] [4, 5, 6] [3, 4, 5, 6, 0, 1, 2] rfl rfl (by decide) (by decide) (fun _ => rfl) (va_recv hK hP (ci := 5) (q0 := 0) rfl rfl) rfl hl.1 rfl (lv_room (Nat.le_of_ble_eq_true rfl)) d_R_front_254 ⟨Nat.zero_le _, Nat.zero_le _⟩ ?_
      intro r_27 u H locs hw hP hD hS
      have hP : va_P (dC, dI) vwCl (wd_RG ad ck rsize rval risP cnt look bad byZ inr_25 rpl hld store tAt tSz hSg hVl hPl) H := hP
      have hD : va_D A (wd_RG ad ck rsize rval risP cnt look bad byZ inr_25 rpl hld store tAt tSz hSg hVl hPl) := hD
      try dsimp only at hw
      obtain ⟨hwt, hwf⟩ := hw
      refine lv_if_eq (tgt := 278) hx hb d_R_front_257 (by decide) (fun c_28 => ?_) (fun c_28 => ?_)
      · have hw := hwt c_28
        refine lv_aload_n hx hb d_R_front_278 rfl (lv_at hl 1 rfl) ?_
        refine lv_iload_n hx hb d_R_front_279 rfl (lv_at hl 2 rfl) ?_
        refine va_ldcS hx hb hown (hX.1 _ rs_6) d_R_front_280 ?_
        refine k_callVi (As := [.int x2, .ref (sa 6)]) (rest := []) (fun (u : Unit) => wd_RG ad ck rsize rval risP cnt look bad byZ inr_25 rpl hld store tAt tSz hSg hVl hPl) ⟨hx, hb, hml, hown, hts⟩ (kc_R_is l dC dI ad ck sa sv sf rsize rval risP cnt look bad byZ inr_25 rpl hld store tAt tSz x2 6 (hw := hw)) (cwV 2 hts (gV ux_87 ux_89 ux_90 ux_49 ux_88) rfl rfl rfl hd_R_is ⟨show 4 + 1 ≤ d + 1 + 12 from by omega, show 8 + (5 + 11) + 85 ≤ (d + 1) * 40 + 260 from by omega⟩) hK hP hD hS hA (XR_c sa sv sf) hX [0, 1, 2, 3] [4, 5, 6] [3, 4, 5, 6, 0, 1, 2] rfl rfl (by decide) (by decide) (fun _ => rfl) (va_recv hK hP (ci := 5) (q0 := 0) rfl rfl) rfl hl.1 rfl (lv_room (Nat.le_of_ble_eq_true rfl)) d_R_front_282 ⟨Nat.zero_le _, Nat.zero_le _⟩ ?_
        intro r_29 u H locs hw hP hD hS
        have hP : va_P (dC, dI) vwCl (wd_RG ad ck rsize rval risP cnt look bad byZ inr_25 rpl hld store tAt tSz hSg hVl hPl) H := hP
        have hD : va_D A (wd_RG ad ck rsize rval risP cnt look bad byZ inr_25 rpl hld store tAt tSz hSg hVl hPl) := hD
        try dsimp only at hw
        obtain ⟨hwt, hwf⟩ := hw
        refine lv_if_eq (tgt := 294) hx hb d_R_front_285 (by decide) (fun c_30 => ?_) (fun c_30 => ?_)
        · have hw := hwt c_30
          refine lv_aload_n hx hb d_R_front_294 rfl (lv_at hl 1 rfl) ?_
          refine lv_iload_n hx hb d_R_front_295 rfl (lv_at hl 2 rfl) ?_
          refine va_ldcS hx hb hown (hX.1 _ rs_7) d_R_front_296 ?_
          refine k_callVi (As := [.int x2, .ref (sa 7)]) (rest := []) (fun (u : Unit) => wd_RG ad ck rsize rval risP cnt look bad byZ inr_25 rpl hld store tAt tSz hSg hVl hPl) ⟨hx, hb, hml, hown, hts⟩ (kc_R_is l dC dI ad ck sa sv sf rsize rval risP cnt look bad byZ inr_25 rpl hld store tAt tSz x2 7 (hw := hw)) (cwV 2 hts (gV ux_87 ux_89 ux_90 ux_49 ux_88) rfl rfl rfl hd_R_is ⟨show 4 + 1 ≤ d + 1 + 12 from by omega, show 8 + (5 + 11) + 85 ≤ (d + 1) * 40 + 260 from by omega⟩) hK hP hD hS hA (XR_c sa sv sf) hX [0, 1, 2, 3] [4, 5, 6] [3, 4, 5, 6, 0, 1, 2] rfl rfl (by decide) (by decide) (fun _ => rfl) (va_recv hK hP (ci := 5) (q0 := 0) rfl rfl) rfl hl.1 rfl (lv_room (Nat.le_of_ble_eq_true rfl)) d_R_front_298 ⟨Nat.zero_le _, Nat.zero_le _⟩ ?_
          intro r_31 u H locs hw hP hD hS
          have hP : va_P (dC, dI) vwCl (wd_RG ad ck rsize rval risP cnt look bad byZ inr_25 rpl hld store tAt tSz hSg hVl hPl) H := hP
          have hD : va_D A (wd_RG ad ck rsize rval risP cnt look bad byZ inr_25 rpl hld store tAt tSz hSg hVl hPl) := hD
          try dsimp only at hw
          obtain ⟨hwt, hwf⟩ := hw
          refine lv_if_eq (tgt := 313) hx hb d_R_front_301 (by decide) (fun c_32 => ?_) (fun c_32 => ?_)
          · have hw := hwt c_32
            refine lv_lload hx hb d_R_front_313 (lv_at hl 0 rfl) ?_
            exact W.lret (v := z0) hx hb hr (fun t ht hW => ⟨⟨z0, (look, bad, byZ, inr_25, rpl, hld, hSg, hVl, hPl), rfl, hw, by rw [ht]; exact hP, va_K.moved hW.alike hK, hD⟩, hS.F ht⟩) hS.2.2 d_R_front_315
          · have hw := hwf c_32
            refine lv_lload hx hb d_R_front_304 (lv_at hl 0 rfl) ?_
            refine lv_ldc2 (v := (-1)) hx hb hown (hts _ ux_114) d_R_front_306 ?_
            refine lv_lxor hx hb d_R_front_309 ?_
            refine lv_goto (tgt := 315) hx hb d_R_front_310 (by decide) ?_
            exact W.lret (v := (z0 ^^^ (-1))) hx hb hr (fun t ht hW => ⟨⟨(z0 ^^^ (-1)), (look, bad, byZ, inr_25, rpl, hld, hSg, hVl, hPl), rfl, hw, by rw [ht]; exact hP, va_K.moved hW.alike hK, hD⟩, hS.F ht⟩) hS.2.2 d_R_front_315
        · have hw := hwf c_30
          refine lv_lload hx hb d_R_front_288 (lv_at hl 0 rfl) ?_
          refine lv_lneg hx hb d_R_front_290 ?_
          refine lv_goto (tgt := 315) hx hb d_R_front_291 (by decide) ?_
          exact W.lret (v := (-z0)) hx hb hr (fun t ht hW => ⟨⟨(-z0), (look, bad, byZ, inr_25, rpl, hld, hSg, hVl, hPl), rfl, hw, by rw [ht]; exact hP, va_K.moved hW.alike hK, hD⟩, hS.F ht⟩) hS.2.2 d_R_front_315
      · have hw := hwf c_28
        refine lv_aload_n hx hb d_R_front_260 rfl (lv_at hl 1 rfl) ?_
        refine lv_iconst (v := 0) hx hb d_R_front_261 (by decide) ?_
        refine va_put (D := (dC, dI)) (ci := 5) (v := .int 0) (ty := .boolean) (C := R_R) (T := T_R) (N := 16) hx hb hts in_R ty_R ty_R_ok nm_R hown hK hP hD hS 0 rfl rfl 11 (by decide) (hts _ ux_95) (fun _ h9 => h9) rfl (by decide +kernel) (by decide) (by decide) (Nat.le_of_ble_eq_true rfl) d_R_front_262 (fun H locs hP hD hS => ?_)
        have hP : va_P (dC, dI) vwCl (wd_RG ad ck rsize rval risP cnt look bad byZ inr_25 0 hld store tAt tSz hSg hVl hPl) H := hP
        have hD : va_D A (wd_RG ad ck rsize rval risP cnt look bad byZ inr_25 0 hld store tAt tSz hSg hVl hPl) := hD
        refine lv_lload hx hb d_R_front_265 (lv_at hl 0 rfl) ?_
        refine lv_lconst (v := 0) hx hb d_R_front_267 (by decide) ?_
        refine W.lcmp hx hb d_R_front_268 ?_
        obtain ⟨hwt, hwf⟩ := hw
        refine lv_if_ne (tgt := 276) hx hb d_R_front_269 (by decide) (fun c_33 => ?_) (fun c_33 => ?_)
        · have hw := hwf c_33
          refine lv_lconst (v := 0) hx hb d_R_front_276 (by decide) ?_
          exact W.lret (v := 0) hx hb hr (fun t ht hW => ⟨⟨0, (look, bad, byZ, inr_25, 0, hld, hSg, hVl, hPl), rfl, hw, by rw [ht]; exact hP, va_K.moved hW.alike hK, hD⟩, hS.F ht⟩) hS.2.2 d_R_front_277
        · have hw := hwt c_33
          refine lv_lconst (v := 1) hx hb d_R_front_272 (by decide) ?_
          refine lv_goto (tgt := 277) hx hb d_R_front_273 (by decide) ?_
          exact W.lret (v := 1) hx hb hr (fun t ht hW => ⟨⟨1, (look, bad, byZ, inr_25, 0, hld, hSg, hVl, hPl), rfl, hw, by rw [ht]; exact hP, va_K.moved hW.alike hK, hD⟩, hS.F ht⟩) hS.2.2 d_R_front_277
    · have hw := hwf c_26
      refine lv_aload_n hx hb d_R_front_214 rfl (lv_at hl 1 rfl) ?_
      refine lv_aload_n hx hb d_R_front_215 rfl (lv_at hl 1 rfl) ?_
      refine va_get (D := (dC, dI)) (ci := 5) (v := .int bad) (C := R_R) (T := T_R) (N := 16) hx hb hts in_R hown hK hP 0 rfl rfl 8 (by decide) (hts _ ux_110) (fun _ h9 => h9) rfl d_R_front_216 ?_
      obtain ⟨hwt, hwf⟩ := hw
      refine lv_if_ne (tgt := 235) hx hb d_R_front_219 (by decide) (fun c_34 => ?_) (fun c_34 => ?_)
      · have hw := hwf c_34
        refine lv_iconst (v := 1) hx hb d_R_front_235 (by decide) ?_
        refine lv_goto (tgt := 240) hx hb d_R_front_236 (by decide) ?_
        refine va_put (D := (dC, dI)) (ci := 5) (v := .int 1) (ty := .boolean) (C := R_R) (T := T_R) (N := 16) hx hb hts in_R ty_R ty_R_ok nm_R hown hK hP hD hS 0 rfl rfl 8 (by decide) (hts _ ux_110) (fun _ h9 => h9) rfl (by decide +kernel) (by decide) (by decide) (Nat.le_of_ble_eq_true rfl) d_R_front_240 (fun H locs hP hD hS => ?_)
        have hP : va_P (dC, dI) vwCl (wd_RG ad ck rsize rval risP cnt look 1 byZ inr_25 rpl hld store tAt tSz hSg hVl hPl) H := hP
        have hD : va_D A (wd_RG ad ck rsize rval risP cnt look 1 byZ inr_25 rpl hld store tAt tSz hSg hVl hPl) := hD
        refine lv_aload_n hx hb d_R_front_243 rfl (lv_at hl 1 rfl) ?_
        refine k_callVv (As := []) (rest := []) (fun (u : Int32) => wd_RG ad ck rsize rval risP cnt u 1 byZ inr_25 rpl hld store tAt tSz hSg hVl hPl) ⟨hx, hb, hml, hown, hts⟩ (kc_R_goOn l dC dI ad ck rsize rval risP cnt look 1 byZ inr_25 rpl hld (hw := hw)) (cwV 0 hts (gV ux_136 ux_138 ux_139 ux_49 ux_137) rfl rfl rfl hd_R_goOn ⟨show 0 + 1 ≤ d + 1 + 12 from by omega, show 8 + (1 + 11) + 0 ≤ (d + 1) * 40 + 260 from by omega⟩) hK hP hD hS hA k_x0c trivial [0] [1, 2, 3, 4, 5, 6] [6, 0, 1, 2, 3, 4, 5] rfl rfl (by decide) (by decide) (fun _ => rfl) (va_recv hK hP (ci := 5) (q0 := 0) rfl rfl) rfl hl.1 rfl (lv_room (Nat.le_of_ble_eq_true rfl)) d_R_front_244 ⟨Nat.zero_le _, Nat.zero_le _⟩ ?_
        intro u H locs hw hP hD hS
        obtain ⟨look_35, rfl⟩ : ∃ z, z = u := ⟨_, rfl⟩
        have hP : va_P (dC, dI) vwCl (wd_RG ad ck rsize rval risP cnt look_35 1 byZ inr_25 rpl hld store tAt tSz hSg hVl hPl) H := hP
        have hD : va_D A (wd_RG ad ck rsize rval risP cnt look_35 1 byZ inr_25 rpl hld store tAt tSz hSg hVl hPl) := hD
        try dsimp only at hw
        refine lv_lload hx hb d_R_front_247 (lv_at hl 0 rfl) ?_
        exact W.lret (v := z0) hx hb hr (fun t ht hW => ⟨⟨z0, (look_35, 1, byZ, inr_25, rpl, hld, hSg, hVl, hPl), rfl, hw, by rw [ht]; exact hP, va_K.moved hW.alike hK, hD⟩, hS.F ht⟩) hS.2.2 d_R_front_249
      · have hw := hwt c_34
        refine lv_aload_n hx hb d_R_front_222 rfl (lv_at hl 1 rfl) ?_
        refine lv_aload_n hx hb d_R_front_223 rfl (lv_at hl 1 rfl) ?_
        refine va_get (D := (dC, dI)) (ci := 5) (v := .int look) (C := R_R) (T := T_R) (N := 16) hx hb hts in_R hown hK hP 0 rfl rfl 7 (by decide) (hts _ ux_83) (fun _ h9 => h9) rfl d_R_front_224 ?_
        refine va_ldcS hx hb hown (hX.1 _ rs_9) d_R_front_227 ?_
        refine k_callVi (As := [.int look, .ref (sa 9)]) (rest := [.ref (ad 11)]) (fun (u : Unit) => wd_RG ad ck rsize rval risP cnt look bad byZ inr_25 rpl hld store tAt tSz hSg hVl hPl) ⟨hx, hb, hml, hown, hts⟩ (kc_R_is l dC dI ad ck sa sv sf rsize rval risP cnt look bad byZ inr_25 rpl hld store tAt tSz look 9 (hw := hw)) (cwV 2 hts (gV ux_87 ux_89 ux_90 ux_49 ux_88) rfl rfl rfl hd_R_is ⟨show 4 + 1 ≤ d + 1 + 12 from by omega, show 8 + (5 + 11) + 85 ≤ (d + 1) * 40 + 260 from by omega⟩) hK hP hD hS hA (XR_c sa sv sf) hX [0, 1, 2, 3] [4, 5, 6] [3, 4, 5, 6, 0, 1, 2] rfl rfl (by decide) (by decide) (fun _ => rfl) (va_recv hK hP (ci := 5) (q0 := 0) rfl rfl) rfl hl.1 rfl (lv_room (Nat.le_of_ble_eq_true rfl)) d_R_front_229 ⟨Nat.zero_le _, Nat.zero_le _⟩ ?_
        intro r_36 u H locs hw hP hD hS
        have hP : va_P (dC, dI) vwCl (wd_RG ad ck rsize rval risP cnt look bad byZ inr_25 rpl hld store tAt tSz hSg hVl hPl) H := hP
        have hD : va_D A (wd_RG ad ck rsize rval risP cnt look bad byZ inr_25 rpl hld store tAt tSz hSg hVl hPl) := hD
        try dsimp only at hw
        obtain ⟨hwt, hwf⟩ := hw
        refine lv_if_ne (tgt := 239) hx hb d_R_front_232 (by decide) (fun c_37 => ?_) (fun c_37 => ?_)
        · have hw := hwf c_37
          refine lv_iconst (v := 0) hx hb d_R_front_239 (by decide) ?_
          refine va_put (D := (dC, dI)) (ci := 5) (v := .int 0) (ty := .boolean) (C := R_R) (T := T_R) (N := 16) hx hb hts in_R ty_R ty_R_ok nm_R hown hK hP hD hS 0 rfl rfl 8 (by decide) (hts _ ux_110) (fun _ h9 => h9) rfl (by decide +kernel) (by decide) (by decide) (Nat.le_of_ble_eq_true rfl) d_R_front_240 (fun H locs hP hD hS => ?_)
          have hP : va_P (dC, dI) vwCl (wd_RG ad ck rsize rval risP cnt look 0 byZ inr_25 rpl hld store tAt tSz hSg hVl hPl) H := hP
          have hD : va_D A (wd_RG ad ck rsize rval risP cnt look 0 byZ inr_25 rpl hld store tAt tSz hSg hVl hPl) := hD
          refine lv_aload_n hx hb d_R_front_243 rfl (lv_at hl 1 rfl) ?_
          refine k_callVv (As := []) (rest := []) (fun (u : Int32) => wd_RG ad ck rsize rval risP cnt u 0 byZ inr_25 rpl hld store tAt tSz hSg hVl hPl) ⟨hx, hb, hml, hown, hts⟩ (kc_R_goOn l dC dI ad ck rsize rval risP cnt look 0 byZ inr_25 rpl hld (hw := hw)) (cwV 0 hts (gV ux_136 ux_138 ux_139 ux_49 ux_137) rfl rfl rfl hd_R_goOn ⟨show 0 + 1 ≤ d + 1 + 12 from by omega, show 8 + (1 + 11) + 0 ≤ (d + 1) * 40 + 260 from by omega⟩) hK hP hD hS hA k_x0c trivial [0] [1, 2, 3, 4, 5, 6] [6, 0, 1, 2, 3, 4, 5] rfl rfl (by decide) (by decide) (fun _ => rfl) (va_recv hK hP (ci := 5) (q0 := 0) rfl rfl) rfl hl.1 rfl (lv_room (Nat.le_of_ble_eq_true rfl)) d_R_front_244 ⟨Nat.zero_le _, Nat.zero_le _⟩ ?_
          intro u H locs hw hP hD hS
          obtain ⟨look_38, rfl⟩ : ∃ z, z = u := ⟨_, rfl⟩
          have hP : va_P (dC, dI) vwCl (wd_RG ad ck rsize rval risP cnt look_38 0 byZ inr_25 rpl hld store tAt tSz hSg hVl hPl) H := hP
          have hD : va_D A (wd_RG ad ck rsize rval risP cnt look_38 0 byZ inr_25 rpl hld store tAt tSz hSg hVl hPl) := hD
          try dsimp only at hw
          refine lv_lload hx hb d_R_front_247 (lv_at hl 0 rfl) ?_
          exact W.lret (v := z0) hx hb hr (fun t ht hW => ⟨⟨z0, (look_38, 0, byZ, inr_25, rpl, hld, hSg, hVl, hPl), rfl, hw, by rw [ht]; exact hP, va_K.moved hW.alike hK, hD⟩, hS.F ht⟩) hS.2.2 d_R_front_249
        · have hw := hwt c_37
          refine lv_iconst (v := 1) hx hb d_R_front_235 (by decide) ?_
          refine lv_goto (tgt := 240) hx hb d_R_front_236 (by decide) ?_
          refine va_put (D := (dC, dI)) (ci := 5) (v := .int 1) (ty := .boolean) (C := R_R) (T := T_R) (N := 16) hx hb hts in_R ty_R ty_R_ok nm_R hown hK hP hD hS 0 rfl rfl 8 (by decide) (hts _ ux_110) (fun _ h9 => h9) rfl (by decide +kernel) (by decide) (by decide) (Nat.le_of_ble_eq_true rfl) d_R_front_240 (fun H locs hP hD hS => ?_)
          have hP : va_P (dC, dI) vwCl (wd_RG ad ck rsize rval risP cnt look 1 byZ inr_25 rpl hld store tAt tSz hSg hVl hPl) H := hP
          have hD : va_D A (wd_RG ad ck rsize rval risP cnt look 1 byZ inr_25 rpl hld store tAt tSz hSg hVl hPl) := hD
          refine lv_aload_n hx hb d_R_front_243 rfl (lv_at hl 1 rfl) ?_
          refine k_callVv (As := []) (rest := []) (fun (u : Int32) => wd_RG ad ck rsize rval risP cnt u 1 byZ inr_25 rpl hld store tAt tSz hSg hVl hPl) ⟨hx, hb, hml, hown, hts⟩ (kc_R_goOn l dC dI ad ck rsize rval risP cnt look 1 byZ inr_25 rpl hld (hw := hw)) (cwV 0 hts (gV ux_136 ux_138 ux_139 ux_49 ux_137) rfl rfl rfl hd_R_goOn ⟨show 0 + 1 ≤ d + 1 + 12 from by omega, show 8 + (1 + 11) + 0 ≤ (d + 1) * 40 + 260 from by omega⟩) hK hP hD hS hA k_x0c trivial [0] [1, 2, 3, 4, 5, 6] [6, 0, 1, 2, 3, 4, 5] rfl rfl (by decide) (by decide) (fun _ => rfl) (va_recv hK hP (ci := 5) (q0 := 0) rfl rfl) rfl hl.1 rfl (lv_room (Nat.le_of_ble_eq_true rfl)) d_R_front_244 ⟨Nat.zero_le _, Nat.zero_le _⟩ ?_
          intro u H locs hw hP hD hS
          obtain ⟨look_39, rfl⟩ : ∃ z, z = u := ⟨_, rfl⟩
          have hP : va_P (dC, dI) vwCl (wd_RG ad ck rsize rval risP cnt look_39 1 byZ inr_25 rpl hld store tAt tSz hSg hVl hPl) H := hP
          have hD : va_D A (wd_RG ad ck rsize rval risP cnt look_39 1 byZ inr_25 rpl hld store tAt tSz hSg hVl hPl) := hD
          try dsimp only at hw
          refine lv_lload hx hb d_R_front_247 (lv_at hl 0 rfl) ?_
          exact W.lret (v := z0) hx hb hr (fun t ht hW => ⟨⟨z0, (look_39, 1, byZ, inr_25, rpl, hld, hSg, hVl, hPl), rfl, hw, by rw [ht]; exact hP, va_K.moved hW.alike hK, hD⟩, hS.F ht⟩) hS.2.2 d_R_front_249
  have L_165 : ∀ (x1 : Int32) (x2 : Int32) (x4 : Int32) (z0 : Int32) (rsize : Int32) (rval : Int64) (risP : Int32) (cnt : Int32) (look : Int32) (bad : Int32) (byZ : Int32) (inr : Int32) (rpl : Int32) (hld : Int32) (store : Nat → Int32) (tAt : Nat → Int32) (tSz : Nat → Int32) (hSg : Nat → Int32) (hVl : Nat → Int64) (hPl : Nat → Int32) (H : Heap) (locs : List Loc) (ls : Array Slot), w_R_front_165 W_c W_e W_f post x1 x2 x4 z0 rsize rval risP cnt look bad byZ inr rpl hld store tAt tSz hSg hVl hPl → va_P (dC, dI) vwCl (wd_RG ad ck rsize rval risP cnt look bad byZ inr rpl hld store tAt tSz hSg hVl hPl) H → va_D A (wd_RG ad ck rsize rval risP cnt look bad byZ inr rpl hld store tAt tSz hSg hVl hPl) → va_S A s.heap H locs → lv_has ls 7 [(0, .ref (ad 11)), (1, .int x1), (2, .int x2), (4, .int x4)] → W p l e (headSpec ws_R_front (rmG (d + 1))).room s m ([.ref (ad 11), .int p0] : List Value).toArray below meth c H locs 0 0 (k_Ql below (dC, dI) vwCl (TYr ck) A (fun (r : Int64) (u : Int32 × Int32 × Int32 × Int32 × Int32 × Int32 × (Nat → Int32) × (Nat → Int64) × (Nat → Int32)) => post r u.1 u.2.1 u.2.2.1 u.2.2.2.1 u.2.2.2.2.1 u.2.2.2.2.2.1 u.2.2.2.2.2.2.1 u.2.2.2.2.2.2.2.1 u.2.2.2.2.2.2.2.2) (fun (u : Int32 × Int32 × Int32 × Int32 × Int32 × Int32 × (Nat → Int32) × (Nat → Int64) × (Nat → Int32)) => wd_RG ad ck rsize rval risP cnt u.1 u.2.1 u.2.2.1 u.2.2.2.1 u.2.2.2.2.1 u.2.2.2.2.2.1 store tAt tSz u.2.2.2.2.2.2.1 u.2.2.2.2.2.2.2.1 u.2.2.2.2.2.2.2.2) ([.ref (ad 11), .int p0] : List Value).toArray s) (F0 m 165 ls [.int z0, .ref (ad 11)]) := by
    intro x1 x2 x4 z0 rsize rval risP cnt look bad byZ inr rpl hld store tAt tSz hSg hVl hPl H locs ls hw hP hD hS hl
    obtain ⟨hz_12, hw⟩ := hw
    refine va_put (D := (dC, dI)) (ci := 5) (v := .int z0) (ty := .boolean) (C := R_R) (T := T_R) (N := 16) hx hb hts in_R ty_R ty_R_ok nm_R hown hK hP hD hS 0 rfl rfl 8 (by decide) (hts _ ux_110) (fun _ h9 => h9) rfl (by decide +kernel) (vz_n hz_12) (vz_f hz_12) (Nat.le_of_ble_eq_true rfl) d_R_front_165 (fun H locs hP hD hS => ?_)
    have hP : va_P (dC, dI) vwCl (wd_RG ad ck rsize rval risP cnt look z0 byZ inr rpl hld store tAt tSz hSg hVl hPl) H := hP
    have hD : va_D A (wd_RG ad ck rsize rval risP cnt look z0 byZ inr rpl hld store tAt tSz hSg hVl hPl) := hD
    refine lv_aload_n hx hb d_R_front_168 rfl (lv_at hl 0 rfl) ?_
    refine va_get (D := (dC, dI)) (ci := 5) (v := .int z0) (C := R_R) (T := T_R) (N := 16) hx hb hts in_R hown hK hP 0 rfl rfl 8 (by decide) (hts _ ux_110) (fun _ h9 => h9) rfl d_R_front_169 ?_
    obtain ⟨hwt, hwf⟩ := hw
    refine lv_if_eq (tgt := 179) hx hb d_R_front_172 (by decide) (fun c_13 => ?_) (fun c_13 => ?_)
    · have hw := hwt c_13
      refine lv_iload hx hb d_R_front_179 (lv_at hl 3 rfl) ?_
      obtain ⟨hwt, hwf⟩ := hw
      refine lv_if_eq (tgt := 192) hx hb d_R_front_181 (by decide) (fun c_14 => ?_) (fun c_14 => ?_)
      · have hw := hwt c_14
        refine lv_aload_n hx hb d_R_front_192 rfl (lv_at hl 0 rfl) ?_
        refine lv_iload_n hx hb d_R_front_193 rfl (lv_at hl 1 rfl) ?_
        refine k_callVl (As := [.int x1]) (rest := []) (fun (u : Int32 × Int32 × Int32 × Int32 × Int32 × Int32 × (Nat → Int32) × (Nat → Int64) × (Nat → Int32)) => wd_RG ad ck rsize rval risP cnt u.1 u.2.1 u.2.2.1 u.2.2.2.1 u.2.2.2.2.1 u.2.2.2.2.2.1 store tAt tSz u.2.2.2.2.2.2.1 u.2.2.2.2.2.2.2.1 u.2.2.2.2.2.2.2.2) ⟨hx, hb, hml, hown, hts⟩ (g_f rsize rval risP cnt look z0 byZ inr rpl hld store tAt tSz hSg hVl hPl x1 _ hw) (cwV 1 hts (gV ux_145 ux_147 ux_148 ux_49 ux_146) rfl rfl rfl hd_R_front ⟨show d + 12 + 1 ≤ d + 1 + 12 from by omega, show 8 + (7 + 11) + (d * 40 + 260) ≤ (d + 1) * 40 + 260 from by omega⟩) hK hP hD hS hA (XR_c sa sv sf) hX [0, 1, 2, 3, 4, 5, 6] [] [0, 1, 2, 3, 4, 5, 6] rfl rfl (by decide) (by decide) (fun _ => rfl) (va_recv hK hP (ci := 5) (q0 := 0) rfl rfl) rfl hl.1 rfl (lv_room (Nat.le_of_ble_eq_true rfl)) d_R_front_194 ⟨Nat.zero_le _, Nat.zero_le _⟩ ?_
        intro r_15 u H locs hw hP hD hS
        obtain ⟨look_16, bad_17, byZ_18, inr_19, rpl_20, hld_21, hSg_22, hVl_23, hPl_24⟩ := u
        have hP : va_P (dC, dI) vwCl (wd_RG ad ck rsize rval risP cnt look_16 bad_17 byZ_18 inr_19 rpl_20 hld_21 store tAt tSz hSg_22 hVl_23 hPl_24) H := hP
        have hD : va_D A (wd_RG ad ck rsize rval risP cnt look_16 bad_17 byZ_18 inr_19 rpl_20 hld_21 store tAt tSz hSg_22 hVl_23 hPl_24) := hD
        try dsimp only at hw
        exact L_197 x2 x4 r_15 rsize rval risP cnt look_16 bad_17 byZ_18 inr_19 rpl_20 hld_21 store tAt tSz hSg_22 hVl_23 hPl_24 _ _ _ hw hP hD hS (lv_sub hl [0, 2, 3] rfl)
      · have hw := hwf c_14
        refine lv_aload_n hx hb d_R_front_184 rfl (lv_at hl 0 rfl) ?_
        refine lv_iload_n hx hb d_R_front_185 rfl (lv_at hl 1 rfl) ?_
        refine k_callVl (As := [.int x1]) (rest := []) (fun (u : Int32 × Int32 × Int32 × Int32 × Int32 × Int32 × (Nat → Int32) × (Nat → Int64) × (Nat → Int32)) => wd_RG ad ck rsize rval risP cnt u.1 u.2.1 u.2.2.1 u.2.2.2.1 u.2.2.2.2.1 u.2.2.2.2.2.1 store tAt tSz u.2.2.2.2.2.2.1 u.2.2.2.2.2.2.2.1 u.2.2.2.2.2.2.2.2) ⟨hx, hb, hml, hown, hts⟩ (g_c rsize rval risP cnt look z0 byZ inr rpl hld store tAt tSz hSg hVl hPl x1 _ hw) (cwV 1 hts (gV ux_141 ux_143 ux_144 ux_49 ux_142) rfl rfl rfl hd_R_choice ⟨show d + 12 + 1 ≤ d + 1 + 12 from by omega, show 8 + (9 + 11) + (d * 40 + 260) ≤ (d + 1) * 40 + 260 from by omega⟩) hK hP hD hS hA (XR_c sa sv sf) hX [0, 1, 2, 3, 4, 5, 6] [] [0, 1, 2, 3, 4, 5, 6] rfl rfl (by decide) (by decide) (fun _ => rfl) (va_recv hK hP (ci := 5) (q0 := 0) rfl rfl) rfl hl.1 rfl (lv_room (Nat.le_of_ble_eq_true rfl)) d_R_front_186 ⟨Nat.zero_le _, Nat.zero_le _⟩ ?_
        intro r_40 u H locs hw hP hD hS
        obtain ⟨look_41, bad_42, byZ_43, inr_44, rpl_45, hld_46, hSg_47, hVl_48, hPl_49⟩ := u
        have hP : va_P (dC, dI) vwCl (wd_RG ad ck rsize rval risP cnt look_41 bad_42 byZ_43 inr_44 rpl_45 hld_46 store tAt tSz hSg_47 hVl_48 hPl_49) H := hP
        have hD : va_D A (wd_RG ad ck rsize rval risP cnt look_41 bad_42 byZ_43 inr_44 rpl_45 hld_46 store tAt tSz hSg_47 hVl_48 hPl_49) := hD
        try dsimp only at hw
        refine lv_goto (tgt := 197) hx hb d_R_front_189 (by decide) ?_
        exact L_197 x2 x4 r_40 rsize rval risP cnt look_41 bad_42 byZ_43 inr_44 rpl_45 hld_46 store tAt tSz hSg_47 hVl_48 hPl_49 _ _ _ hw hP hD hS (lv_sub hl [0, 2, 3] rfl)
    · have hw := hwf c_13
      refine lv_lconst (v := 0) hx hb d_R_front_175 (by decide) ?_
      refine lv_goto (tgt := 197) hx hb d_R_front_176 (by decide) ?_
      exact L_197 x2 x4 0 rsize rval risP cnt look z0 byZ inr rpl hld store tAt tSz hSg hVl hPl _ _ _ hw hP hD hS (lv_sub hl [0, 2, 3] rfl)
  have L_136 : ∀ (x1 : Int32) (x2 : Int32) (x4 : Int32) (rsize : Int32) (rval : Int64) (risP : Int32) (cnt : Int32) (look : Int32) (bad : Int32) (byZ : Int32) (inr : Int32) (rpl : Int32) (hld : Int32) (store : Nat → Int32) (tAt : Nat → Int32) (tSz : Nat → Int32) (hSg : Nat → Int32) (hVl : Nat → Int64) (hPl : Nat → Int32) (H : Heap) (locs : List Loc) (ls : Array Slot), w_R_front_136 W_c W_e W_f post x1 x2 x4 rsize rval risP cnt look bad byZ inr rpl hld store tAt tSz hSg hVl hPl → va_P (dC, dI) vwCl (wd_RG ad ck rsize rval risP cnt look bad byZ inr rpl hld store tAt tSz hSg hVl hPl) H → va_D A (wd_RG ad ck rsize rval risP cnt look bad byZ inr rpl hld store tAt tSz hSg hVl hPl) → va_S A s.heap H locs → lv_has ls 7 [(0, .ref (ad 11)), (1, .int x1), (2, .int x2), (4, .int x4)] → W p l e (headSpec ws_R_front (rmG (d + 1))).room s m ([.ref (ad 11), .int p0] : List Value).toArray below meth c H locs 0 0 (k_Ql below (dC, dI) vwCl (TYr ck) A (fun (r : Int64) (u : Int32 × Int32 × Int32 × Int32 × Int32 × Int32 × (Nat → Int32) × (Nat → Int64) × (Nat → Int32)) => post r u.1 u.2.1 u.2.2.1 u.2.2.2.1 u.2.2.2.2.1 u.2.2.2.2.2.1 u.2.2.2.2.2.2.1 u.2.2.2.2.2.2.2.1 u.2.2.2.2.2.2.2.2) (fun (u : Int32 × Int32 × Int32 × Int32 × Int32 × Int32 × (Nat → Int32) × (Nat → Int64) × (Nat → Int32)) => wd_RG ad ck rsize rval risP cnt u.1 u.2.1 u.2.2.1 u.2.2.2.1 u.2.2.2.2.1 u.2.2.2.2.2.1 store tAt tSz u.2.2.2.2.2.2.1 u.2.2.2.2.2.2.2.1 u.2.2.2.2.2.2.2.2) ([.ref (ad 11), .int p0] : List Value).toArray s) (F0 m 136 ls []) := by
    intro x1 x2 x4 rsize rval risP cnt look bad byZ inr rpl hld store tAt tSz hSg hVl hPl H locs ls hw hP hD hS hl
    refine lv_aload_n hx hb d_R_front_136 rfl (lv_at hl 0 rfl) ?_
    refine k_callVv (As := []) (rest := []) (fun (u : Int32) => wd_RG ad ck rsize rval risP cnt u bad byZ inr rpl hld store tAt tSz hSg hVl hPl) ⟨hx, hb, hml, hown, hts⟩ (kc_R_goOn l dC dI ad ck rsize rval risP cnt look bad byZ inr rpl hld (hw := hw)) (cwV 0 hts (gV ux_136 ux_138 ux_139 ux_49 ux_137) rfl rfl rfl hd_R_goOn ⟨show 0 + 1 ≤ d + 1 + 12 from by omega, show 8 + (1 + 11) + 0 ≤ (d + 1) * 40 + 260 from by omega⟩) hK hP hD hS hA k_x0c trivial [0] [1, 2, 3, 4, 5, 6] [6, 0, 1, 2, 3, 4, 5] rfl rfl (by decide) (by decide) (fun _ => rfl) (va_recv hK hP (ci := 5) (q0 := 0) rfl rfl) rfl hl.1 rfl (lv_room (Nat.le_of_ble_eq_true rfl)) d_R_front_137 ⟨Nat.zero_le _, Nat.zero_le _⟩ ?_
    intro u H locs hw hP hD hS
    obtain ⟨look_9, rfl⟩ : ∃ z, z = u := ⟨_, rfl⟩
    have hP : va_P (dC, dI) vwCl (wd_RG ad ck rsize rval risP cnt look_9 bad byZ inr rpl hld store tAt tSz hSg hVl hPl) H := hP
    have hD : va_D A (wd_RG ad ck rsize rval risP cnt look_9 bad byZ inr rpl hld store tAt tSz hSg hVl hPl) := hD
    try dsimp only at hw
    refine lv_aload_n hx hb d_R_front_140 rfl (lv_at hl 0 rfl) ?_
    refine lv_dup hx hb d_R_front_141 rfl ?_
    refine va_get (D := (dC, dI)) (ci := 5) (v := .int inr) (C := R_R) (T := T_R) (N := 16) hx hb hts in_R hown hK hP 0 rfl rfl 10 (by decide) (hts _ ux_140) (fun _ h9 => h9) rfl d_R_front_142 ?_
    refine lv_iconst (v := 1) hx hb d_R_front_145 (by decide) ?_
    refine lv_iadd hx hb d_R_front_146 ?_
    refine lv_topi (fun inr_10 einr_10 => ?_)
    have hw := hw inr_10 einr_10
    refine va_put (D := (dC, dI)) (ci := 5) (v := .int inr_10) (ty := .int) (C := R_R) (T := T_R) (N := 16) hx hb hts in_R ty_R ty_R_ok nm_R hown hK hP hD hS 0 rfl rfl 10 (by decide) (hts _ ux_140) (fun _ h9 => h9) rfl (by decide +kernel) rfl rfl (Nat.le_of_ble_eq_true rfl) d_R_front_147 (fun H locs hP hD hS => ?_)
    have hP : va_P (dC, dI) vwCl (wd_RG ad ck rsize rval risP cnt look_9 bad byZ inr_10 rpl hld store tAt tSz hSg hVl hPl) H := hP
    have hD : va_D A (wd_RG ad ck rsize rval risP cnt look_9 bad byZ inr_10 rpl hld store tAt tSz hSg hVl hPl) := hD
    refine lv_aload_n hx hb d_R_front_150 rfl (lv_at hl 0 rfl) ?_
    refine lv_aload_n hx hb d_R_front_151 rfl (lv_at hl 0 rfl) ?_
    refine va_get (D := (dC, dI)) (ci := 5) (v := .int inr_10) (C := R_R) (T := T_R) (N := 16) hx hb hts in_R hown hK hP 0 rfl rfl 10 (by decide) (hts _ ux_140) (fun _ h9 => h9) rfl d_R_front_152 ?_
    refine lv_bipush (v := 60) hx hb d_R_front_155 (by decide) ?_
    obtain ⟨hwt, hwf⟩ := hw
    refine lv_icmp_le (tgt := 164) hx hb d_R_front_157 (by decide) (fun c_11 => ?_) (fun c_11 => ?_)
    · have hw := hwt c_11
      refine lv_iconst (v := 0) hx hb d_R_front_164 (by decide) ?_
      exact L_165 x1 x2 x4 0 rsize rval risP cnt look_9 bad byZ inr_10 rpl hld store tAt tSz hSg hVl hPl _ _ _ hw hP hD hS (lv_sub hl [0, 1, 2, 3] rfl)
    · have hw := hwf c_11
      refine lv_iconst (v := 1) hx hb d_R_front_160 (by decide) ?_
      refine lv_goto (tgt := 165) hx hb d_R_front_161 (by decide) ?_
      exact L_165 x1 x2 x4 1 rsize rval risP cnt look_9 bad byZ inr_10 rpl hld store tAt tSz hSg hVl hPl _ _ _ hw hP hD hS (lv_sub hl [0, 1, 2, 3] rfl)
  refine lv_aload_n hx hb d_R_front_0 rfl (lv_at hl 0 rfl) ?_
  refine lv_iconst (v := 0) hx hb d_R_front_1 (by decide) ?_
  refine va_put (D := (dC, dI)) (ci := 5) (v := .int 0) (ty := .boolean) (C := R_R) (T := T_R) (N := 16) hx hb hts in_R ty_R ty_R_ok nm_R hown hK hP hD hS 0 rfl rfl 11 (by decide) (hts _ ux_95) (fun _ h9 => h9) rfl (by decide +kernel) (by decide) (by decide) (Nat.le_of_ble_eq_true rfl) d_R_front_2 (fun H locs hP hD hS => ?_)
  have hP : va_P (dC, dI) vwCl (wd_RG ad ck rsize rval risP cnt look bad byZ inr 0 hld store tAt tSz hSg hVl hPl) H := hP
  have hD : va_D A (wd_RG ad ck rsize rval risP cnt look bad byZ inr 0 hld store tAt tSz hSg hVl hPl) := hD
  refine lv_aload_n hx hb d_R_front_5 rfl (lv_at hl 0 rfl) ?_
  refine va_get (D := (dC, dI)) (ci := 5) (v := .int look) (C := R_R) (T := T_R) (N := 16) hx hb hts in_R hown hK hP 0 rfl rfl 7 (by decide) (hts _ ux_83) (fun _ h9 => h9) rfl d_R_front_6 ?_
  refine lv_istore_n (lv' := [(2, .int look), (0, .ref (ad 11)), (1, .int p0)]) hx hb d_R_front_9 rfl hl (by decide) rfl (fun ls hl => ?_)
  refine lv_aload_n hx hb d_R_front_10 rfl (lv_at hl 1 rfl) ?_
  refine va_get (D := (dC, dI)) (ci := 5) (v := .int bad) (C := R_R) (T := T_R) (N := 16) hx hb hts in_R hown hK hP 0 rfl rfl 8 (by decide) (hts _ ux_110) (fun _ h9 => h9) rfl d_R_front_11 ?_
  obtain ⟨hwt, hwf⟩ := hw
  refine lv_if_ne (tgt := 21) hx hb d_R_front_14 (by decide) (fun c_1 => ?_) (fun c_1 => ?_)
  · have hw := hwf c_1
    refine lv_aload_n hx hb d_R_front_21 rfl (lv_at hl 1 rfl) ?_
    refine lv_iconst (v := 1) hx hb d_R_front_22 (by decide) ?_
    refine va_put (D := (dC, dI)) (ci := 5) (v := .int 1) (ty := .boolean) (C := R_R) (T := T_R) (N := 16) hx hb hts in_R ty_R ty_R_ok nm_R hown hK hP hD hS 0 rfl rfl 8 (by decide) (hts _ ux_110) (fun _ h9 => h9) rfl (by decide +kernel) (by decide) (by decide) (Nat.le_of_ble_eq_true rfl) d_R_front_23 (fun H locs hP hD hS => ?_)
    have hP : va_P (dC, dI) vwCl (wd_RG ad ck rsize rval risP cnt look 1 byZ inr 0 hld store tAt tSz hSg hVl hPl) H := hP
    have hD : va_D A (wd_RG ad ck rsize rval risP cnt look 1 byZ inr 0 hld store tAt tSz hSg hVl hPl) := hD
    refine lv_lconst (v := 0) hx hb d_R_front_26 (by decide) ?_
    exact W.lret (v := 0) hx hb hr (fun t ht hW => ⟨⟨0, (look, 1, byZ, inr, 0, hld, hSg, hVl, hPl), rfl, hw, by rw [ht]; exact hP, va_K.moved hW.alike hK, hD⟩, hS.F ht⟩) hS.2.2 d_R_front_27
  · have hw := hwt c_1
    refine lv_iload_n hx hb d_R_front_17 rfl (lv_at hl 0 rfl) ?_
    obtain ⟨hwt, hwf⟩ := hw
    refine lv_if_ge (tgt := 28) hx hb d_R_front_18 (by decide) (fun c_2 => ?_) (fun c_2 => ?_)
    · have hw := hwt c_2
      refine lv_aload_n hx hb d_R_front_28 rfl (lv_at hl 1 rfl) ?_
      refine lv_iload_n hx hb d_R_front_29 rfl (lv_at hl 0 rfl) ?_
      refine k_callVi (As := [.int look]) (rest := []) (fun (u : Unit) => wd_RG ad ck rsize rval risP cnt look bad byZ inr 0 hld store tAt tSz hSg hVl hPl) ⟨hx, hb, hml, hown, hts⟩ (kc_R_kindOf l dC dI ad ck sa sv sf rsize rval risP cnt look bad byZ inr 0 hld store tAt tSz look (hw := hw)) (cwV 1 hts (gV ux_126 ux_128 ux_129 ux_49 ux_127) rfl rfl rfl hd_R_kindOf ⟨show 5 + 1 ≤ d + 1 + 12 from by omega, show 8 + (5 + 11) + 108 ≤ (d + 1) * 40 + 260 from by omega⟩) hK hP hD hS hA (XR_c sa sv sf) hX [0, 1, 2, 3] [4, 5, 6] [3, 4, 5, 6, 0, 1, 2] rfl rfl (by decide) (by decide) (fun _ => rfl) (va_recv hK hP (ci := 5) (q0 := 0) rfl rfl) rfl hl.1 rfl (lv_room (Nat.le_of_ble_eq_true rfl)) d_R_front_30 ⟨Nat.zero_le _, Nat.zero_le _⟩ ?_
      intro r_3 u H locs hw hP hD hS
      have hP : va_P (dC, dI) vwCl (wd_RG ad ck rsize rval risP cnt look bad byZ inr 0 hld store tAt tSz hSg hVl hPl) H := hP
      have hD : va_D A (wd_RG ad ck rsize rval risP cnt look bad byZ inr 0 hld store tAt tSz hSg hVl hPl) := hD
      try dsimp only at hw
      refine lv_istore_n (lv' := [(3, .int r_3), (2, .int look), (0, .ref (ad 11)), (1, .int p0)]) hx hb d_R_front_33 rfl hl (by decide) rfl (fun ls hl => ?_)
      refine lv_iload_n hx hb d_R_front_34 rfl (lv_at hl 0 rfl) ?_
      refine lv_iconst (v := 1) hx hb d_R_front_35 (by decide) ?_
      obtain ⟨hwt, hwf⟩ := hw
      refine lv_icmp_ne (tgt := 45) hx hb d_R_front_36 (by decide) (fun c_4 => ?_) (fun c_4 => ?_)
      · have hw := hwf c_4
        refine lv_iload_n hx hb d_R_front_45 rfl (lv_at hl 0 rfl) ?_
        refine lv_iconst (v := 2) hx hb d_R_front_46 (by decide) ?_
        obtain ⟨hwt, hwf⟩ := hw
        refine lv_icmp_ne (tgt := 60) hx hb d_R_front_47 (by decide) (fun c_5 => ?_) (fun c_5 => ?_)
        · have hw := hwf c_5
          refine lv_iload_n hx hb d_R_front_60 rfl (lv_at hl 0 rfl) ?_
          refine lv_iconst (v := 4) hx hb d_R_front_61 (by decide) ?_
          obtain ⟨hwt, hwf⟩ := hw
          refine lv_icmp_ne (tgt := 75) hx hb d_R_front_62 (by decide) (fun c_6 => ?_) (fun c_6 => ?_)
          · have hw := hwf c_6
            refine lv_aload_n hx hb d_R_front_75 rfl (lv_at hl 2 rfl) ?_
            refine lv_iload_n hx hb d_R_front_76 rfl (lv_at hl 1 rfl) ?_
            refine va_ldcS hx hb hown (hX.1 _ rs_4) d_R_front_77 ?_
            refine k_callVi (As := [.int look, .ref (sa 4)]) (rest := []) (fun (u : Unit) => wd_RG ad ck rsize rval risP cnt look bad byZ inr 0 hld store tAt tSz hSg hVl hPl) ⟨hx, hb, hml, hown, hts⟩ (kc_R_is l dC dI ad ck sa sv sf rsize rval risP cnt look bad byZ inr 0 hld store tAt tSz look 4 (hw := hw)) (cwV 2 hts (gV ux_87 ux_89 ux_90 ux_49 ux_88) rfl rfl rfl hd_R_is ⟨show 4 + 1 ≤ d + 1 + 12 from by omega, show 8 + (5 + 11) + 85 ≤ (d + 1) * 40 + 260 from by omega⟩) hK hP hD hS hA (XR_c sa sv sf) hX [0, 1, 2, 3] [4, 5, 6] [3, 4, 5, 6, 0, 1, 2] rfl rfl (by decide) (by decide) (fun _ => rfl) (va_recv hK hP (ci := 5) (q0 := 0) rfl rfl) rfl hl.1 rfl (lv_room (Nat.le_of_ble_eq_true rfl)) d_R_front_79 ⟨Nat.zero_le _, Nat.zero_le _⟩ ?_
            intro r_7 u H locs hw hP hD hS
            have hP : va_P (dC, dI) vwCl (wd_RG ad ck rsize rval risP cnt look bad byZ inr 0 hld store tAt tSz hSg hVl hPl) H := hP
            have hD : va_D A (wd_RG ad ck rsize rval risP cnt look bad byZ inr 0 hld store tAt tSz hSg hVl hPl) := hD
            try dsimp only at hw
            refine lv_istore (lv' := [(4, .int r_7), (3, .int r_3), (2, .int look), (0, .ref (ad 11)), (1, .int p0)]) hx hb d_R_front_82 hl (by decide) rfl (fun ls hl => ?_)
            refine lv_iload hx hb d_R_front_84 (lv_at hl 0 rfl) ?_
            obtain ⟨hwt, hwf⟩ := hw
            refine lv_if_ne (tgt := 136) hx hb d_R_front_86 (by decide) (fun c_8 => ?_) (fun c_8 => ?_)
            · have hw := hwf c_8
              exact L_136 p0 look r_7 rsize rval risP cnt look bad byZ inr 0 hld store tAt tSz hSg hVl hPl _ _ _ hw hP hD hS (lv_sub hl [3, 4, 2, 0] rfl)
            · have hw := hwt c_8
              refine lv_aload_n hx hb d_R_front_89 rfl (lv_at hl 3 rfl) ?_
              refine lv_iload_n hx hb d_R_front_90 rfl (lv_at hl 2 rfl) ?_
              refine va_ldcS hx hb hown (hX.1 _ rs_5) d_R_front_91 ?_
              refine k_callVi (As := [.int look, .ref (sa 5)]) (rest := []) (fun (u : Unit) => wd_RG ad ck rsize rval risP cnt look bad byZ inr 0 hld store tAt tSz hSg hVl hPl) ⟨hx, hb, hml, hown, hts⟩ (kc_R_is l dC dI ad ck sa sv sf rsize rval risP cnt look bad byZ inr 0 hld store tAt tSz look 5 (hw := hw)) (cwV 2 hts (gV ux_87 ux_89 ux_90 ux_49 ux_88) rfl rfl rfl hd_R_is ⟨show 4 + 1 ≤ d + 1 + 12 from by omega, show 8 + (5 + 11) + 85 ≤ (d + 1) * 40 + 260 from by omega⟩) hK hP hD hS hA (XR_c sa sv sf) hX [0, 1, 2, 3] [4, 5, 6] [3, 4, 5, 6, 0, 1, 2] rfl rfl (by decide) (by decide) (fun _ => rfl) (va_recv hK hP (ci := 5) (q0 := 0) rfl rfl) rfl hl.1 rfl (lv_room (Nat.le_of_ble_eq_true rfl)) d_R_front_93 ⟨Nat.zero_le _, Nat.zero_le _⟩ ?_
              intro r_50 u H locs hw hP hD hS
              have hP : va_P (dC, dI) vwCl (wd_RG ad ck rsize rval risP cnt look bad byZ inr 0 hld store tAt tSz hSg hVl hPl) H := hP
              have hD : va_D A (wd_RG ad ck rsize rval risP cnt look bad byZ inr 0 hld store tAt tSz hSg hVl hPl) := hD
              try dsimp only at hw
              obtain ⟨hwt, hwf⟩ := hw
              refine lv_if_ne (tgt := 136) hx hb d_R_front_96 (by decide) (fun c_51 => ?_) (fun c_51 => ?_)
              · have hw := hwf c_51
                exact L_136 p0 look r_7 rsize rval risP cnt look bad byZ inr 0 hld store tAt tSz hSg hVl hPl _ _ _ hw hP hD hS (lv_sub hl [3, 4, 2, 0] rfl)
              · have hw := hwt c_51
                refine lv_aload_n hx hb d_R_front_99 rfl (lv_at hl 3 rfl) ?_
                refine lv_iload_n hx hb d_R_front_100 rfl (lv_at hl 2 rfl) ?_
                refine va_ldcS hx hb hown (hX.1 _ rs_6) d_R_front_101 ?_
                refine k_callVi (As := [.int look, .ref (sa 6)]) (rest := []) (fun (u : Unit) => wd_RG ad ck rsize rval risP cnt look bad byZ inr 0 hld store tAt tSz hSg hVl hPl) ⟨hx, hb, hml, hown, hts⟩ (kc_R_is l dC dI ad ck sa sv sf rsize rval risP cnt look bad byZ inr 0 hld store tAt tSz look 6 (hw := hw)) (cwV 2 hts (gV ux_87 ux_89 ux_90 ux_49 ux_88) rfl rfl rfl hd_R_is ⟨show 4 + 1 ≤ d + 1 + 12 from by omega, show 8 + (5 + 11) + 85 ≤ (d + 1) * 40 + 260 from by omega⟩) hK hP hD hS hA (XR_c sa sv sf) hX [0, 1, 2, 3] [4, 5, 6] [3, 4, 5, 6, 0, 1, 2] rfl rfl (by decide) (by decide) (fun _ => rfl) (va_recv hK hP (ci := 5) (q0 := 0) rfl rfl) rfl hl.1 rfl (lv_room (Nat.le_of_ble_eq_true rfl)) d_R_front_103 ⟨Nat.zero_le _, Nat.zero_le _⟩ ?_
                intro r_52 u H locs hw hP hD hS
                have hP : va_P (dC, dI) vwCl (wd_RG ad ck rsize rval risP cnt look bad byZ inr 0 hld store tAt tSz hSg hVl hPl) H := hP
                have hD : va_D A (wd_RG ad ck rsize rval risP cnt look bad byZ inr 0 hld store tAt tSz hSg hVl hPl) := hD
                try dsimp only at hw
                obtain ⟨hwt, hwf⟩ := hw
                refine lv_if_ne (tgt := 136) hx hb d_R_front_106 (by decide) (fun c_53 => ?_) (fun c_53 => ?_)
                · have hw := hwf c_53
                  exact L_136 p0 look r_7 rsize rval risP cnt look bad byZ inr 0 hld store tAt tSz hSg hVl hPl _ _ _ hw hP hD hS (lv_sub hl [3, 4, 2, 0] rfl)
                · have hw := hwt c_53
                  refine lv_aload_n hx hb d_R_front_109 rfl (lv_at hl 3 rfl) ?_
                  refine lv_iload_n hx hb d_R_front_110 rfl (lv_at hl 2 rfl) ?_
                  refine va_ldcS hx hb hown (hX.1 _ rs_7) d_R_front_111 ?_
                  refine k_callVi (As := [.int look, .ref (sa 7)]) (rest := []) (fun (u : Unit) => wd_RG ad ck rsize rval risP cnt look bad byZ inr 0 hld store tAt tSz hSg hVl hPl) ⟨hx, hb, hml, hown, hts⟩ (kc_R_is l dC dI ad ck sa sv sf rsize rval risP cnt look bad byZ inr 0 hld store tAt tSz look 7 (hw := hw)) (cwV 2 hts (gV ux_87 ux_89 ux_90 ux_49 ux_88) rfl rfl rfl hd_R_is ⟨show 4 + 1 ≤ d + 1 + 12 from by omega, show 8 + (5 + 11) + 85 ≤ (d + 1) * 40 + 260 from by omega⟩) hK hP hD hS hA (XR_c sa sv sf) hX [0, 1, 2, 3] [4, 5, 6] [3, 4, 5, 6, 0, 1, 2] rfl rfl (by decide) (by decide) (fun _ => rfl) (va_recv hK hP (ci := 5) (q0 := 0) rfl rfl) rfl hl.1 rfl (lv_room (Nat.le_of_ble_eq_true rfl)) d_R_front_113 ⟨Nat.zero_le _, Nat.zero_le _⟩ ?_
                  intro r_54 u H locs hw hP hD hS
                  have hP : va_P (dC, dI) vwCl (wd_RG ad ck rsize rval risP cnt look bad byZ inr 0 hld store tAt tSz hSg hVl hPl) H := hP
                  have hD : va_D A (wd_RG ad ck rsize rval risP cnt look bad byZ inr 0 hld store tAt tSz hSg hVl hPl) := hD
                  try dsimp only at hw
                  obtain ⟨hwt, hwf⟩ := hw
                  refine lv_if_ne (tgt := 136) hx hb d_R_front_116 (by decide) (fun c_55 => ?_) (fun c_55 => ?_)
                  · have hw := hwf c_55
                    exact L_136 p0 look r_7 rsize rval risP cnt look bad byZ inr 0 hld store tAt tSz hSg hVl hPl _ _ _ hw hP hD hS (lv_sub hl [3, 4, 2, 0] rfl)
                  · have hw := hwt c_55
                    refine lv_aload_n hx hb d_R_front_119 rfl (lv_at hl 3 rfl) ?_
                    refine lv_iload_n hx hb d_R_front_120 rfl (lv_at hl 2 rfl) ?_
                    refine va_ldcS hx hb hown (hX.1 _ rs_8) d_R_front_121 ?_
                    refine k_callVi (As := [.int look, .ref (sa 8)]) (rest := []) (fun (u : Unit) => wd_RG ad ck rsize rval risP cnt look bad byZ inr 0 hld store tAt tSz hSg hVl hPl) ⟨hx, hb, hml, hown, hts⟩ (kc_R_is l dC dI ad ck sa sv sf rsize rval risP cnt look bad byZ inr 0 hld store tAt tSz look 8 (hw := hw)) (cwV 2 hts (gV ux_87 ux_89 ux_90 ux_49 ux_88) rfl rfl rfl hd_R_is ⟨show 4 + 1 ≤ d + 1 + 12 from by omega, show 8 + (5 + 11) + 85 ≤ (d + 1) * 40 + 260 from by omega⟩) hK hP hD hS hA (XR_c sa sv sf) hX [0, 1, 2, 3] [4, 5, 6] [3, 4, 5, 6, 0, 1, 2] rfl rfl (by decide) (by decide) (fun _ => rfl) (va_recv hK hP (ci := 5) (q0 := 0) rfl rfl) rfl hl.1 rfl (lv_room (Nat.le_of_ble_eq_true rfl)) d_R_front_123 ⟨Nat.zero_le _, Nat.zero_le _⟩ ?_
                    intro r_56 u H locs hw hP hD hS
                    have hP : va_P (dC, dI) vwCl (wd_RG ad ck rsize rval risP cnt look bad byZ inr 0 hld store tAt tSz hSg hVl hPl) H := hP
                    have hD : va_D A (wd_RG ad ck rsize rval risP cnt look bad byZ inr 0 hld store tAt tSz hSg hVl hPl) := hD
                    try dsimp only at hw
                    obtain ⟨hwt, hwf⟩ := hw
                    refine lv_if_ne (tgt := 136) hx hb d_R_front_126 (by decide) (fun c_57 => ?_) (fun c_57 => ?_)
                    · have hw := hwf c_57
                      exact L_136 p0 look r_7 rsize rval risP cnt look bad byZ inr 0 hld store tAt tSz hSg hVl hPl _ _ _ hw hP hD hS (lv_sub hl [3, 4, 2, 0] rfl)
                    · have hw := hwt c_57
                      refine lv_aload_n hx hb d_R_front_129 rfl (lv_at hl 3 rfl) ?_
                      refine lv_iconst (v := 1) hx hb d_R_front_130 (by decide) ?_
                      refine va_put (D := (dC, dI)) (ci := 5) (v := .int 1) (ty := .boolean) (C := R_R) (T := T_R) (N := 16) hx hb hts in_R ty_R ty_R_ok nm_R hown hK hP hD hS 0 rfl rfl 8 (by decide) (hts _ ux_110) (fun _ h9 => h9) rfl (by decide +kernel) (by decide) (by decide) (Nat.le_of_ble_eq_true rfl) d_R_front_131 (fun H locs hP hD hS => ?_)
                      have hP : va_P (dC, dI) vwCl (wd_RG ad ck rsize rval risP cnt look 1 byZ inr 0 hld store tAt tSz hSg hVl hPl) H := hP
                      have hD : va_D A (wd_RG ad ck rsize rval risP cnt look 1 byZ inr 0 hld store tAt tSz hSg hVl hPl) := hD
                      refine lv_lconst (v := 0) hx hb d_R_front_134 (by decide) ?_
                      exact W.lret (v := 0) hx hb hr (fun t ht hW => ⟨⟨0, (look, 1, byZ, inr, 0, hld, hSg, hVl, hPl), rfl, hw, by rw [ht]; exact hP, va_K.moved hW.alike hK, hD⟩, hS.F ht⟩) hS.2.2 d_R_front_135
          · have hw := hwt c_6
            refine lv_aload_n hx hb d_R_front_65 rfl (lv_at hl 2 rfl) ?_
            refine k_callVv (As := []) (rest := []) (fun (u : Int32) => wd_RG ad ck rsize rval risP cnt u bad byZ inr 0 hld store tAt tSz hSg hVl hPl) ⟨hx, hb, hml, hown, hts⟩ (kc_R_goOn l dC dI ad ck rsize rval risP cnt look bad byZ inr 0 hld (hw := hw)) (cwV 0 hts (gV ux_136 ux_138 ux_139 ux_49 ux_137) rfl rfl rfl hd_R_goOn ⟨show 0 + 1 ≤ d + 1 + 12 from by omega, show 8 + (1 + 11) + 0 ≤ (d + 1) * 40 + 260 from by omega⟩) hK hP hD hS hA k_x0c trivial [0] [1, 2, 3, 4, 5, 6] [6, 0, 1, 2, 3, 4, 5] rfl rfl (by decide) (by decide) (fun _ => rfl) (va_recv hK hP (ci := 5) (q0 := 0) rfl rfl) rfl hl.1 rfl (lv_room (Nat.le_of_ble_eq_true rfl)) d_R_front_66 ⟨Nat.zero_le _, Nat.zero_le _⟩ ?_
            intro u H locs hw hP hD hS
            obtain ⟨look_58, rfl⟩ : ∃ z, z = u := ⟨_, rfl⟩
            have hP : va_P (dC, dI) vwCl (wd_RG ad ck rsize rval risP cnt look_58 bad byZ inr 0 hld store tAt tSz hSg hVl hPl) H := hP
            have hD : va_D A (wd_RG ad ck rsize rval risP cnt look_58 bad byZ inr 0 hld store tAt tSz hSg hVl hPl) := hD
            try dsimp only at hw
            refine lv_aload_n hx hb d_R_front_69 rfl (lv_at hl 2 rfl) ?_
            refine lv_iload_n hx hb d_R_front_70 rfl (lv_at hl 1 rfl) ?_
            refine k_callVl (As := [.int look]) (rest := []) (fun (u : Int32) => wd_RG ad ck rsize rval risP cnt look_58 u byZ inr 0 hld store tAt tSz hSg hVl hPl) ⟨hx, hb, hml, hown, hts⟩ (kc_R_characterOf l dC dI ad ck rsize rval risP cnt look_58 bad byZ inr 0 hld store tAt tSz look (hw := hw)) (cwV 1 hts (gV ux_160 ux_162 ux_163 ux_49 ux_161) rfl rfl rfl hd_R_characterOf ⟨show 1 + 1 ≤ d + 1 + 12 from by omega, show 8 + (5 + 11) + 22 ≤ (d + 1) * 40 + 260 from by omega⟩) hK hP hD hS hA k_x0c trivial [0, 1, 2, 3] [4, 5, 6] [3, 4, 5, 6, 0, 1, 2] rfl rfl (by decide) (by decide) (fun _ => rfl) (va_recv hK hP (ci := 5) (q0 := 0) rfl rfl) rfl hl.1 rfl (lv_room (Nat.le_of_ble_eq_true rfl)) d_R_front_71 ⟨Nat.zero_le _, Nat.zero_le _⟩ ?_
            intro r_59 u H locs hw hP hD hS
            obtain ⟨bad_60, rfl⟩ : ∃ z, z = u := ⟨_, rfl⟩
            have hP : va_P (dC, dI) vwCl (wd_RG ad ck rsize rval risP cnt look_58 bad_60 byZ inr 0 hld store tAt tSz hSg hVl hPl) H := hP
            have hD : va_D A (wd_RG ad ck rsize rval risP cnt look_58 bad_60 byZ inr 0 hld store tAt tSz hSg hVl hPl) := hD
            try dsimp only at hw
            exact W.lret (v := r_59) hx hb hr (fun t ht hW => ⟨⟨r_59, (look_58, bad_60, byZ, inr, 0, hld, hSg, hVl, hPl), rfl, hw, by rw [ht]; exact hP, va_K.moved hW.alike hK, hD⟩, hS.F ht⟩) hS.2.2 d_R_front_74
        · have hw := hwt c_5
          refine lv_aload_n hx hb d_R_front_50 rfl (lv_at hl 2 rfl) ?_
          refine k_callVv (As := []) (rest := []) (fun (u : Int32) => wd_RG ad ck rsize rval risP cnt u bad byZ inr 0 hld store tAt tSz hSg hVl hPl) ⟨hx, hb, hml, hown, hts⟩ (kc_R_goOn l dC dI ad ck rsize rval risP cnt look bad byZ inr 0 hld (hw := hw)) (cwV 0 hts (gV ux_136 ux_138 ux_139 ux_49 ux_137) rfl rfl rfl hd_R_goOn ⟨show 0 + 1 ≤ d + 1 + 12 from by omega, show 8 + (1 + 11) + 0 ≤ (d + 1) * 40 + 260 from by omega⟩) hK hP hD hS hA k_x0c trivial [0] [1, 2, 3, 4, 5, 6] [6, 0, 1, 2, 3, 4, 5] rfl rfl (by decide) (by decide) (fun _ => rfl) (va_recv hK hP (ci := 5) (q0 := 0) rfl rfl) rfl hl.1 rfl (lv_room (Nat.le_of_ble_eq_true rfl)) d_R_front_51 ⟨Nat.zero_le _, Nat.zero_le _⟩ ?_
          intro u H locs hw hP hD hS
          obtain ⟨look_61, rfl⟩ : ∃ z, z = u := ⟨_, rfl⟩
          have hP : va_P (dC, dI) vwCl (wd_RG ad ck rsize rval risP cnt look_61 bad byZ inr 0 hld store tAt tSz hSg hVl hPl) H := hP
          have hD : va_D A (wd_RG ad ck rsize rval risP cnt look_61 bad byZ inr 0 hld store tAt tSz hSg hVl hPl) := hD
          try dsimp only at hw
          refine lv_aload_n hx hb d_R_front_54 rfl (lv_at hl 2 rfl) ?_
          refine lv_iload_n hx hb d_R_front_55 rfl (lv_at hl 1 rfl) ?_
          refine k_callVl (As := [.int look]) (rest := []) (fun (u : Int32 × Int32) => wd_RG ad ck rsize rval risP cnt look_61 u.1 byZ inr u.2 hld store tAt tSz hSg hVl hPl) ⟨hx, hb, hml, hown, hts⟩ (kc_R_numberOf l dC dI ad ck rsize rval risP cnt look_61 bad byZ inr 0 hld store tAt tSz look (hw := hw)) (cwV 1 hts (gV ux_164 ux_166 ux_167 ux_49 ux_165) rfl rfl rfl hd_R_numberOf ⟨show 2 + 1 ≤ d + 1 + 12 from by omega, show 8 + (15 + 11) + 40 ≤ (d + 1) * 40 + 260 from by omega⟩) hK hP hD hS hA k_x0c trivial [0, 1, 2, 3] [4, 5, 6] [3, 4, 5, 6, 0, 1, 2] rfl rfl (by decide) (by decide) (fun _ => rfl) (va_recv hK hP (ci := 5) (q0 := 0) rfl rfl) rfl hl.1 rfl (lv_room (Nat.le_of_ble_eq_true rfl)) d_R_front_56 ⟨Nat.zero_le _, Nat.zero_le _⟩ ?_
          intro r_62 u H locs hw hP hD hS
          obtain ⟨bad_63, rpl_64⟩ := u
          have hP : va_P (dC, dI) vwCl (wd_RG ad ck rsize rval risP cnt look_61 bad_63 byZ inr rpl_64 hld store tAt tSz hSg hVl hPl) H := hP
          have hD : va_D A (wd_RG ad ck rsize rval risP cnt look_61 bad_63 byZ inr rpl_64 hld store tAt tSz hSg hVl hPl) := hD
          try dsimp only at hw
          exact W.lret (v := r_62) hx hb hr (fun t ht hW => ⟨⟨r_62, (look_61, bad_63, byZ, inr, rpl_64, hld, hSg, hVl, hPl), rfl, hw, by rw [ht]; exact hP, va_K.moved hW.alike hK, hD⟩, hS.F ht⟩) hS.2.2 d_R_front_59
      · have hw := hwt c_4
        refine lv_aload_n hx hb d_R_front_39 rfl (lv_at hl 2 rfl) ?_
        refine k_callVv (As := []) (rest := []) (fun (u : Int32) => wd_RG ad ck rsize rval risP cnt u bad byZ inr 0 hld store tAt tSz hSg hVl hPl) ⟨hx, hb, hml, hown, hts⟩ (kc_R_goOn l dC dI ad ck rsize rval risP cnt look bad byZ inr 0 hld (hw := hw)) (cwV 0 hts (gV ux_136 ux_138 ux_139 ux_49 ux_137) rfl rfl rfl hd_R_goOn ⟨show 0 + 1 ≤ d + 1 + 12 from by omega, show 8 + (1 + 11) + 0 ≤ (d + 1) * 40 + 260 from by omega⟩) hK hP hD hS hA k_x0c trivial [0] [1, 2, 3, 4, 5, 6] [6, 0, 1, 2, 3, 4, 5] rfl rfl (by decide) (by decide) (fun _ => rfl) (va_recv hK hP (ci := 5) (q0 := 0) rfl rfl) rfl hl.1 rfl (lv_room (Nat.le_of_ble_eq_true rfl)) d_R_front_40 ⟨Nat.zero_le _, Nat.zero_le _⟩ ?_
        intro u H locs hw hP hD hS
        obtain ⟨look_65, rfl⟩ : ∃ z, z = u := ⟨_, rfl⟩
        have hP : va_P (dC, dI) vwCl (wd_RG ad ck rsize rval risP cnt look_65 bad byZ inr 0 hld store tAt tSz hSg hVl hPl) H := hP
        have hD : va_D A (wd_RG ad ck rsize rval risP cnt look_65 bad byZ inr 0 hld store tAt tSz hSg hVl hPl) := hD
        try dsimp only at hw
        refine lv_lconst (v := 0) hx hb d_R_front_43 (by decide) ?_
        exact W.lret (v := 0) hx hb hr (fun t ht hW => ⟨⟨0, (look_65, bad, byZ, inr, 0, hld, hSg, hVl, hPl), rfl, hw, by rw [ht]; exact hP, va_K.moved hW.alike hK, hD⟩, hS.F ht⟩) hS.2.2 d_R_front_44
    · have hw := hwf c_2
      refine lv_aload_n hx hb d_R_front_21 rfl (lv_at hl 1 rfl) ?_
      refine lv_iconst (v := 1) hx hb d_R_front_22 (by decide) ?_
      refine va_put (D := (dC, dI)) (ci := 5) (v := .int 1) (ty := .boolean) (C := R_R) (T := T_R) (N := 16) hx hb hts in_R ty_R ty_R_ok nm_R hown hK hP hD hS 0 rfl rfl 8 (by decide) (hts _ ux_110) (fun _ h9 => h9) rfl (by decide +kernel) (by decide) (by decide) (Nat.le_of_ble_eq_true rfl) d_R_front_23 (fun H locs hP hD hS => ?_)
      have hP : va_P (dC, dI) vwCl (wd_RG ad ck rsize rval risP cnt look 1 byZ inr 0 hld store tAt tSz hSg hVl hPl) H := hP
      have hD : va_D A (wd_RG ad ck rsize rval risP cnt look 1 byZ inr 0 hld store tAt tSz hSg hVl hPl) := hD
      refine lv_lconst (v := 0) hx hb d_R_front_26 (by decide) ?_
      exact W.lret (v := 0) hx hb hr (fun t ht hW => ⟨⟨0, (look, 1, byZ, inr, 0, hld, hSg, hVl, hPl), rfl, hw, by rw [ht]; exact hP, va_K.moved hW.alike hK, hD⟩, hS.F ht⟩) hS.2.2 d_R_front_27
/-- the group, by the depth of its calls -/
def wpG : Nat → TG × TG × TG
  | 0 => (fun _ _ _ _ _ _ _ _ _ _ _ _ _ _ _ _ _ _ => False, fun _ _ _ _ _ _ _ _ _ _ _ _ _ _ _ _ _ _ => False, fun _ _ _ _ _ _ _ _ _ _ _ _ _ _ _ _ _ _ => False)
  | d + 1 => (wb_R_choice (wpG d).1 (wpG d).2.1 (wpG d).2.2, wb_R_either (wpG d).1 (wpG d).2.1 (wpG d).2.2, wb_R_front (wpG d).1 (wpG d).2.1 (wpG d).2.2)
theorem kc_G (l : Launch) (dC : Nat → ClassId) (dI : Nat → Nat → Nat) (ad : Nat → Nat) (ck : Nat → ClassId) (sa sv : Nat → Nat) (sf : Option Nat) : ∀ d : Nat, KC l dC dI ad ck sa sv sf y_R_choice ws_R_choice (rmG d) (wpG d).1 ∧ KC l dC dI ad ck sa sv sf y_R_either ws_R_either (rmG d) (wpG d).2.1 ∧ KC l dC dI ad ck sa sv sf y_R_front ws_R_front (rmG d) (wpG d).2.2 := by
  intro d
  induction d with
  | zero => exact ⟨fun _ _ _ _ _ _ _ _ _ _ _ _ _ _ _ _ _ _ hw => False.elim hw, fun _ _ _ _ _ _ _ _ _ _ _ _ _ _ _ _ _ _ hw => False.elim hw, fun _ _ _ _ _ _ _ _ _ _ _ _ _ _ _ _ _ _ hw => False.elim hw⟩
  | succ d ih => exact ⟨kb_R_choice l dC dI ad ck sa sv sf d ih.1 ih.2.1 ih.2.2, kb_R_either l dC dI ad ck sa sv sf d ih.1 ih.2.1 ih.2.2, kb_R_front l dC dI ad ck sa sv sf d ih.1 ih.2.1 ih.2.2⟩
