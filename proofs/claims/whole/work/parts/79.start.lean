/-! the start: both objects are made -/
theorem sx_0 : (.classLink R_Lw 7 R_M) ∈ TB := tb_i 15 (by decide +kernel) rfl
theorem sx_1 : (.classLink R_Lw 10 R_R) ∈ TB := tb_i 461 (by decide +kernel) rfl
theorem sn_L : (.instantiable R_L 3) ∈ TB := tb_i 73 (by decide +kernel) rfl
theorem sn_K : (.instantiable R_K 13) ∈ TB := tb_i 71 (by decide +kernel) rfl
theorem sn_T : (.instantiable R_T 2) ∈ TB := tb_i 24 (by decide +kernel) rfl
theorem sn_W : (.instantiable R_W 6) ∈ TB := tb_i 40 (by decide +kernel) rfl
theorem sn_M : (.instantiable R_M 5) ∈ TB := tb_i 16 (by decide +kernel) rfl
theorem sn_R : (.instantiable R_R 16) ∈ TB := tb_i 462 (by decide +kernel) rfl
theorem sl_m : (.methodLink R_Lw 9 y_M_init) ∈ TB := tb_i 17 (by decide +kernel) rfl
theorem si_m : (.instanceMethod y_M_init) ∈ TB := tb_i 18 (by decide +kernel) rfl
theorem sc_m : (.code y_M_init c_M_init 1 none) ∈ TB := tb_i 19 (by decide +kernel) rfl
theorem sl_r : (.methodLink R_Lw 12 y_R_init) ∈ TB := tb_i 463 (by decide +kernel) rfl
theorem si_r : (.instanceMethod y_R_init) ∈ TB := tb_i 464 (by decide +kernel) rfl
theorem sc_r : (.code y_R_init c_R_init 1 none) ∈ TB := tb_i 465 (by decide +kernel) rfl
theorem sw_n : (.methodLinkNest R_M 9 y_T_init "ConditionMill") ∈ lw_tbl := List.mem_append_right _ (List.mem_of_getElem? (i := 25) (by decide +kernel))
set_option maxHeartbeats 4000000 in
set_option maxRecDepth 100000 in
theorem start_walk {p : Program} {e : Env} {s : State} {m : MethodId} {below : List Frame} {meth : Method} {c : Code} (l : Launch) {b L : Nat} {xs : Nat → Int32} {sk sa sv : Nat → Nat} {sf : Option Nat} {A : Nat → Prop} (C0 : lw_At p s m meth c b L xs) (hA : ∀ q, s.heap.size ≤ q → A q) (hA2 : ∀ q, A q → s.heap.size ≤ q) (hbA : ¬ A b) (hXm : XM sk A s s.heap) (hXr : XR sa sv sf A s s.heap) (hlaw : w_Lw_law_18 xs L () (L + 1) (nI (4 * 0)) 0 0 (nI 0) (fun _ => 0) 0 0 0 0 0 0 0 0 0 0 0 0 0 (fun _ => 0) (fun _ => 0) (fun _ => 0) (fun _ => 0) (fun _ => 0) (nI 0) 0 0 0 0 0 0 0 0 0 (fun _ => 0) (fun _ => 0) (fun _ => 0) (fun _ => 0) (fun _ => 0) (fun _ => 0)) : W p l e room_1 s m #[Value.ref b] below meth c s.heap [] 0 0 (lw_Z below #[Value.ref b] s) (entryFrame m ([Value.ref b] : List Value).toArray 4) := by
  obtain ⟨hx, hb, hr, hml, hown, hts0, hX0, hbl, hlocks, hgv⟩ := id C0
  have hts : ∀ w ∈ TB, w.before #[Value.ref b] s = true := fun w h => hts0 w (List.mem_filter.mp h).1
  have hown : s.vm.findClass R_Lw = some m.cls := hown
  have hNw : va_Nw (.methodLinkNest R_M 9 y_T_init "ConditionMill") s := va_Nw.of rfl (hts0 _ sw_n)
  obtain ⟨c0, iS0, hKn0⟩ := u_known (C := R_L) (T := T_L) (N := 3) (n := 3) hts in_L (hts _ sn_L)
  obtain ⟨c1, iS1, hKn1⟩ := u_known (C := R_K) (T := T_K) (N := 13) (n := 13) hts in_K (hts _ sn_K)
  obtain ⟨c2, iS2, hKn2⟩ := u_known (C := R_T) (T := T_T) (N := 2) (n := 2) hts in_T (hts _ sn_T)
  obtain ⟨c3, iS3, hKn3⟩ := u_known (C := R_W) (T := T_W) (N := 6) (n := 6) hts in_W (hts _ sn_W)
  obtain ⟨c4, iS4, hKn4⟩ := u_known (C := R_M) (T := T_M) (N := 5) (n := 5) hts in_M (hts _ sn_M)
  obtain ⟨c5, iS5, hKn5⟩ := u_known (C := R_R) (T := T_R) (N := 16) (n := 16) hts in_R (hts _ sn_R)
  obtain ⟨dC, dI, hKl⟩ : ∃ (dC : Nat → ClassId) (dI : Nat → Nat → Nat), ∀ (k : Nat) (q : vw_C), vwCl[k]? = some q → u_Kn s q.1 q.2.1 q.2.2 (dC k) (dI k) := by
    refine ⟨fun k => [c0, c1, c2, c3, c4, c5].getD k c0, fun k => [iS0, iS1, iS2, iS3, iS4, iS5].getD k iS0, ?_⟩
    intro k q hq
    match k, hq with
    | 0, hq => cases hq; exact hKn0
    | 1, hq => cases hq; exact hKn1
    | 2, hq => cases hq; exact hKn2
    | 3, hq => cases hq; exact hKn3
    | 4, hq => cases hq; exact hKn4
    | 5, hq => cases hq; exact hKn5
    | k + 6, hq => simp [vwCl] at hq
  have hS : va_S A s.heap s.heap [] := va_S.rf
  have hK : va_K (dC, dI) vwCl [] s := ⟨hKl, fun k q h => by simp at h⟩
  have hP : va_P (dC, dI) vwCl [] s.heap := fun k q h => by simp at h
  have hD : va_D A [] := ⟨fun i j p q h => by simp at h, fun k q h => by simp at h⟩
  have hl := lv_entry ([.ref b]) (n := 4) (Nat.le_of_ble_eq_true rfl)
  rw [lg_entry_eq]
  generalize (lg_sl ([.ref b]) ++ List.replicate (4 - (lg_sl ([.ref b])).length) Slot.unset).toArray = ls at hl ⊢
  have hl : lv_has ls 4 [(0, .ref b)] := hl
  refine va_new (ci := 4) (fs := [.null, .null, .null, .long 0, .int 0]) (C := R_M) (T := T_M) (N := 5) hx hb hts in_M ty_M ty_M_ok hown (hts _ sx_0) (hts _ sn_M) (hts _ lx_3) hK hP hD hS hA rfl (fun j hj => by rcases (show j = 0 ∨ j = 1 ∨ j = 2 ∨ j = 3 ∨ j = 4 by omega) with rfl | rfl | rfl | rfl | rfl <;> rfl) (Nat.le_of_ble_eq_true rfl) (Nat.le_of_ble_eq_true rfl) d_Lw_law_0 (fun q0 H hP hD hS => ?_)
  have hP : va_P (dC, dI) vwCl [(q0, .inr (4, [.null, .null, .null, .long 0, .int 0]))] H := hP
  have hD : va_D A [(q0, .inr (4, [.null, .null, .null, .long 0, .int 0]))] := hD
  refine W.widen (k := 1) (n := 5) (by decide) (by decide) ?_
  refine lv_dup hx hb d_Lw_law_3 rfl ?_
  have hPc := hP.sub (ws' := [(q0, .inr (4, [.null, .null, .null, .long 0, .int 0]))]) [0] rfl
  have hDc := hD.sub (ws' := [(q0, .inr (4, [.null, .null, .null, .long 0, .int 0]))]) [0] (by decide) rfl
  have hKc := hK.sub (tys' := []) [] rfl
  have hFc := va_free (wc := [(q0, .inr (4, [.null, .null, .null, .long 0, .int 0]))]) hD hS hA [0] rfl
  refine va_callv (va_runI (As := []) (rest := [.ref q0]) ⟨hx, hb, hml, hown, hts⟩ (i_M_init l dC dI q0 H.size ) (cwI 0 hts (gC sc_m) rfl rfl rfl (hts _ lx_3) (hts _ sl_m) (hts _ si_m) rfl hd_M_init ⟨Nat.le_of_ble_eq_true rfl, Nat.le_of_ble_eq_true rfl⟩) ⟨fun a U g mk q => by obtain ⟨q0, q1, qP, qK, qD, qN⟩ := q; exact ⟨q0, q1, qP, va_K.moved (u := U) (U := U.calling g mk a) (Vm.Alike.refl U.vm) qK, qD, va_Nw.same rfl (u := U) (U := U.calling g mk a) rfl qN⟩, fun U hU hW => ⟨rfl, by rw [hU], by rw [hU]; exact hPc, va_K.moved hW.alike hKc, hDc.weaken (fun _ _ _ _ => trivial), va_Nw.warmM hW hNw⟩⟩ rfl rfl hl.1 rfl (lv_room (Nat.le_of_ble_eq_true rfl)) d_Lw_law_4 ⟨Nat.le_of_ble_eq_true rfl, Nat.le_of_ble_eq_true rfl⟩) hS (fun q _ h => hFc q h) hFc (fun u t H1 locs ht hvm hw hB hz1 hk1 hS => ?_)
  obtain ⟨q1, q2, k0, q3, q5, q4, q6, k1, q7, k2, q8, k3, q9, k4, q10, k5⟩ := u
  obtain ⟨hP1, hK1, hD1⟩ := hB
  rw [ht] at hP1
  have hK1 := va_K.moved hvm.symm hK1
  obtain ⟨hP, hD⟩ := va_join (wr := []) (w1 := [(q0, .inr (4, [.ref q1, .ref q3, .ref q5, .long 0, .int 0])), (q1, .inr (2, [.ref q2, .int 0])), (q2, .inl (k0, 4096, .inl (fun _ => 0))), (q3, .inr (3, [.ref q1, .int 0, .int 0, .int 0, .int 0, .int 0])), (q4, .inr (0, [.ref q1, .long 0, .int 0])), (q5, .inr (1, [.ref q3, .ref q4, .ref q6, .ref q7, .ref q8, .ref q9, .ref q10, .int 0, .int 0, .int 0, .int 0, .int 0, .int 0])), (q6, .inl (k1, 670, .inl (fun _ => 0))), (q7, .inl (k2, 670, .inl (fun _ => 0))), (q8, .inl (k3, 670, .inl (fun _ => 0))), (q9, .inl (k4, 671, .inr (.inl (fun _ => 0)))), (q10, .inl (k5, 671, .inl (fun _ => 0)))]) hP hD [0] [] rfl rfl (by decide) (by decide) hk1 hFc hP1 hD1
  have hK := hK.app hK1
  generalize H1 = H at hP hS ⊢
  have hP : va_P (dC, dI) vwCl [(q0, .inr (4, [.ref q1, .ref q3, .ref q5, .long 0, .int 0])), (q1, .inr (2, [.ref q2, .int 0])), (q2, .inl (k0, 4096, .inl (fun _ => 0))), (q3, .inr (3, [.ref q1, .int 0, .int 0, .int 0, .int 0, .int 0])), (q4, .inr (0, [.ref q1, .long 0, .int 0])), (q5, .inr (1, [.ref q3, .ref q4, .ref q6, .ref q7, .ref q8, .ref q9, .ref q10, .int 0, .int 0, .int 0, .int 0, .int 0, .int 0])), (q6, .inl (k1, 670, .inl (fun _ => 0))), (q7, .inl (k2, 670, .inl (fun _ => 0))), (q8, .inl (k3, 670, .inl (fun _ => 0))), (q9, .inl (k4, 671, .inr (.inl (fun _ => 0)))), (q10, .inl (k5, 671, .inl (fun _ => 0)))] H := hP
  have hD : va_D A [(q0, .inr (4, [.ref q1, .ref q3, .ref q5, .long 0, .int 0])), (q1, .inr (2, [.ref q2, .int 0])), (q2, .inl (k0, 4096, .inl (fun _ => 0))), (q3, .inr (3, [.ref q1, .int 0, .int 0, .int 0, .int 0, .int 0])), (q4, .inr (0, [.ref q1, .long 0, .int 0])), (q5, .inr (1, [.ref q3, .ref q4, .ref q6, .ref q7, .ref q8, .ref q9, .ref q10, .int 0, .int 0, .int 0, .int 0, .int 0, .int 0])), (q6, .inl (k1, 670, .inl (fun _ => 0))), (q7, .inl (k2, 670, .inl (fun _ => 0))), (q8, .inl (k3, 670, .inl (fun _ => 0))), (q9, .inl (k4, 671, .inr (.inl (fun _ => 0)))), (q10, .inl (k5, 671, .inl (fun _ => 0)))] := hD
  have hK : va_K (dC, dI) vwCl [(k0, .byte), (k1, .int), (k2, .int), (k3, .boolean), (k4, .long), (k5, .boolean)] s := hK
  refine W.widen (k := 11) (n := 7477) (by decide) (by decide) ?_
  refine lv_astore_n (lv' := [(1, .ref q0), (0, .ref b)]) hx hb d_Lw_law_7 rfl hl (by decide) rfl (fun ls hl => ?_)
  refine va_new (ci := 5) (fs := [.int 0, .null, .long 0, .int 0, .int 0, .null, .null, .int 0, .int 0, .int 0, .int 0, .int 0, .int 0, .null, .null, .null]) (C := R_R) (T := T_R) (N := 16) hx hb hts in_R ty_R ty_R_ok hown (hts _ sx_1) (hts _ sn_R) (hts _ lx_8) hK hP hD hS hA rfl (fun j hj => by rcases (show j = 0 ∨ j = 1 ∨ j = 2 ∨ j = 3 ∨ j = 4 ∨ j = 5 ∨ j = 6 ∨ j = 7 ∨ j = 8 ∨ j = 9 ∨ j = 10 ∨ j = 11 ∨ j = 12 ∨ j = 13 ∨ j = 14 ∨ j = 15 by omega) with rfl | rfl | rfl | rfl | rfl | rfl | rfl | rfl | rfl | rfl | rfl | rfl | rfl | rfl | rfl | rfl <;> rfl) (Nat.le_of_ble_eq_true rfl) (Nat.le_of_ble_eq_true rfl) d_Lw_law_8 (fun q11 H hP hD hS => ?_)
  have hP : va_P (dC, dI) vwCl [(q0, .inr (4, [.ref q1, .ref q3, .ref q5, .long 0, .int 0])), (q1, .inr (2, [.ref q2, .int 0])), (q2, .inl (k0, 4096, .inl (fun _ => 0))), (q3, .inr (3, [.ref q1, .int 0, .int 0, .int 0, .int 0, .int 0])), (q4, .inr (0, [.ref q1, .long 0, .int 0])), (q5, .inr (1, [.ref q3, .ref q4, .ref q6, .ref q7, .ref q8, .ref q9, .ref q10, .int 0, .int 0, .int 0, .int 0, .int 0, .int 0])), (q6, .inl (k1, 670, .inl (fun _ => 0))), (q7, .inl (k2, 670, .inl (fun _ => 0))), (q8, .inl (k3, 670, .inl (fun _ => 0))), (q9, .inl (k4, 671, .inr (.inl (fun _ => 0)))), (q10, .inl (k5, 671, .inl (fun _ => 0))), (q11, .inr (5, [.int 0, .null, .long 0, .int 0, .int 0, .null, .null, .int 0, .int 0, .int 0, .int 0, .int 0, .int 0, .null, .null, .null]))] H := hP
  have hD : va_D A [(q0, .inr (4, [.ref q1, .ref q3, .ref q5, .long 0, .int 0])), (q1, .inr (2, [.ref q2, .int 0])), (q2, .inl (k0, 4096, .inl (fun _ => 0))), (q3, .inr (3, [.ref q1, .int 0, .int 0, .int 0, .int 0, .int 0])), (q4, .inr (0, [.ref q1, .long 0, .int 0])), (q5, .inr (1, [.ref q3, .ref q4, .ref q6, .ref q7, .ref q8, .ref q9, .ref q10, .int 0, .int 0, .int 0, .int 0, .int 0, .int 0])), (q6, .inl (k1, 670, .inl (fun _ => 0))), (q7, .inl (k2, 670, .inl (fun _ => 0))), (q8, .inl (k3, 670, .inl (fun _ => 0))), (q9, .inl (k4, 671, .inr (.inl (fun _ => 0)))), (q10, .inl (k5, 671, .inl (fun _ => 0))), (q11, .inr (5, [.int 0, .null, .long 0, .int 0, .int 0, .null, .null, .int 0, .int 0, .int 0, .int 0, .int 0, .int 0, .null, .null, .null]))] := hD
  refine W.widen (k := 12) (n := 7493) (by decide) (by decide) ?_
  refine lv_dup hx hb d_Lw_law_11 rfl ?_
  have hPc := hP.sub (ws' := [(q11, .inr (5, [.int 0, .null, .long 0, .int 0, .int 0, .null, .null, .int 0, .int 0, .int 0, .int 0, .int 0, .int 0, .null, .null, .null]))]) [11] rfl
  have hDc := hD.sub (ws' := [(q11, .inr (5, [.int 0, .null, .long 0, .int 0, .int 0, .null, .null, .int 0, .int 0, .int 0, .int 0, .int 0, .int 0, .null, .null, .null]))]) [11] (by decide) rfl
  have hKc := hK.sub (tys' := []) [] rfl
  have hFc := va_free (wc := [(q11, .inr (5, [.int 0, .null, .long 0, .int 0, .int 0, .null, .null, .int 0, .int 0, .int 0, .int 0, .int 0, .int 0, .null, .null, .null]))]) hD hS hA [11] rfl
  refine va_callv (va_runI (As := []) (rest := [.ref q11]) ⟨hx, hb, hml, hown, hts⟩ (i_R_init l dC dI q11 H.size ) (cwI 0 hts (gC sc_r) rfl rfl rfl (hts _ lx_8) (hts _ sl_r) (hts _ si_r) rfl hd_R_init ⟨Nat.le_of_ble_eq_true rfl, Nat.le_of_ble_eq_true rfl⟩) ⟨fun a U g mk q => by obtain ⟨q0, q1, qP, qK, qD⟩ := q; exact ⟨q0, q1, qP, va_K.moved (u := U) (U := U.calling g mk a) (Vm.Alike.refl U.vm) qK, qD⟩, fun U hU hW => ⟨rfl, by rw [hU], by rw [hU]; exact hPc, va_K.moved hW.alike hKc, hDc.weaken (fun _ _ _ _ => trivial)⟩⟩ rfl rfl hl.1 rfl (lv_room (Nat.le_of_ble_eq_true rfl)) d_Lw_law_12 ⟨Nat.le_of_ble_eq_true rfl, Nat.le_of_ble_eq_true rfl⟩) hS (fun q _ h => hFc q h) hFc (fun u t H1 locs ht hvm hw hB hz1 hk1 hS => ?_)
  obtain ⟨q12, k6, q13, k7, q14, k8, q15, k9, q16, k10, q17, k11⟩ := u
  obtain ⟨hP1, hK1, hD1⟩ := hB
  rw [ht] at hP1
  have hK1 := va_K.moved hvm.symm hK1
  obtain ⟨hP, hD⟩ := va_join (wr := [(q0, .inr (4, [.ref q1, .ref q3, .ref q5, .long 0, .int 0])), (q1, .inr (2, [.ref q2, .int 0])), (q2, .inl (k0, 4096, .inl (fun _ => 0))), (q3, .inr (3, [.ref q1, .int 0, .int 0, .int 0, .int 0, .int 0])), (q4, .inr (0, [.ref q1, .long 0, .int 0])), (q5, .inr (1, [.ref q3, .ref q4, .ref q6, .ref q7, .ref q8, .ref q9, .ref q10, .int 0, .int 0, .int 0, .int 0, .int 0, .int 0])), (q6, .inl (k1, 670, .inl (fun _ => 0))), (q7, .inl (k2, 670, .inl (fun _ => 0))), (q8, .inl (k3, 670, .inl (fun _ => 0))), (q9, .inl (k4, 671, .inr (.inl (fun _ => 0)))), (q10, .inl (k5, 671, .inl (fun _ => 0)))]) (w1 := [(q11, .inr (5, [.int 0, .ref q12, .long 0, .int 0, .int 0, .ref q13, .ref q14, .int 0, .int 0, .int 0, .int 0, .int 0, .int 0, .ref q15, .ref q16, .ref q17])), (q12, .inl (k6, 4096, .inl (fun _ => 0))), (q13, .inl (k7, 4096, .inl (fun _ => 0))), (q14, .inl (k8, 4096, .inl (fun _ => 0))), (q15, .inl (k9, 800, .inl (fun _ => 0))), (q16, .inl (k10, 800, .inr (.inl (fun _ => 0)))), (q17, .inl (k11, 800, .inl (fun _ => 0)))]) hP hD [11] [0, 1, 2, 3, 4, 5, 6, 7, 8, 9, 10] rfl rfl (by decide) (by decide) hk1 hFc hP1 hD1
  have hK := hK.app hK1
  generalize H1 = H at hP hS ⊢
  have hP : va_P (dC, dI) vwCl [(q0, .inr (4, [.ref q1, .ref q3, .ref q5, .long 0, .int 0])), (q1, .inr (2, [.ref q2, .int 0])), (q2, .inl (k0, 4096, .inl (fun _ => 0))), (q3, .inr (3, [.ref q1, .int 0, .int 0, .int 0, .int 0, .int 0])), (q4, .inr (0, [.ref q1, .long 0, .int 0])), (q5, .inr (1, [.ref q3, .ref q4, .ref q6, .ref q7, .ref q8, .ref q9, .ref q10, .int 0, .int 0, .int 0, .int 0, .int 0, .int 0])), (q6, .inl (k1, 670, .inl (fun _ => 0))), (q7, .inl (k2, 670, .inl (fun _ => 0))), (q8, .inl (k3, 670, .inl (fun _ => 0))), (q9, .inl (k4, 671, .inr (.inl (fun _ => 0)))), (q10, .inl (k5, 671, .inl (fun _ => 0))), (q11, .inr (5, [.int 0, .ref q12, .long 0, .int 0, .int 0, .ref q13, .ref q14, .int 0, .int 0, .int 0, .int 0, .int 0, .int 0, .ref q15, .ref q16, .ref q17])), (q12, .inl (k6, 4096, .inl (fun _ => 0))), (q13, .inl (k7, 4096, .inl (fun _ => 0))), (q14, .inl (k8, 4096, .inl (fun _ => 0))), (q15, .inl (k9, 800, .inl (fun _ => 0))), (q16, .inl (k10, 800, .inr (.inl (fun _ => 0)))), (q17, .inl (k11, 800, .inl (fun _ => 0)))] H := hP
  have hD : va_D A [(q0, .inr (4, [.ref q1, .ref q3, .ref q5, .long 0, .int 0])), (q1, .inr (2, [.ref q2, .int 0])), (q2, .inl (k0, 4096, .inl (fun _ => 0))), (q3, .inr (3, [.ref q1, .int 0, .int 0, .int 0, .int 0, .int 0])), (q4, .inr (0, [.ref q1, .long 0, .int 0])), (q5, .inr (1, [.ref q3, .ref q4, .ref q6, .ref q7, .ref q8, .ref q9, .ref q10, .int 0, .int 0, .int 0, .int 0, .int 0, .int 0])), (q6, .inl (k1, 670, .inl (fun _ => 0))), (q7, .inl (k2, 670, .inl (fun _ => 0))), (q8, .inl (k3, 670, .inl (fun _ => 0))), (q9, .inl (k4, 671, .inr (.inl (fun _ => 0)))), (q10, .inl (k5, 671, .inl (fun _ => 0))), (q11, .inr (5, [.int 0, .ref q12, .long 0, .int 0, .int 0, .ref q13, .ref q14, .int 0, .int 0, .int 0, .int 0, .int 0, .int 0, .ref q15, .ref q16, .ref q17])), (q12, .inl (k6, 4096, .inl (fun _ => 0))), (q13, .inl (k7, 4096, .inl (fun _ => 0))), (q14, .inl (k8, 4096, .inl (fun _ => 0))), (q15, .inl (k9, 800, .inl (fun _ => 0))), (q16, .inl (k10, 800, .inr (.inl (fun _ => 0)))), (q17, .inl (k11, 800, .inl (fun _ => 0)))] := hD
  have hK : va_K (dC, dI) vwCl [(k0, .byte), (k1, .int), (k2, .int), (k3, .boolean), (k4, .long), (k5, .boolean), (k6, .byte), (k7, .int), (k8, .int), (k9, .int), (k10, .long), (k11, .boolean)] s := hK
  refine W.widen (k := 18) (n := 22181) (by decide) (by decide) ?_
  refine lv_astore_n (lv' := [(2, .ref q11), (1, .ref q0), (0, .ref b)]) hx hb d_Lw_law_15 rfl hl (by decide) rfl (fun ls hl => ?_)
  refine lv_iconst (v := 0) hx hb d_Lw_law_16 (by decide) ?_
  refine lv_istore_n (lv' := [(3, .int 0), (2, .ref q11), (1, .ref q0), (0, .ref b)]) hx hb d_Lw_law_17 rfl hl (by decide) rfl (fun ls hl => ?_)
  have hKm := hK.sub (tys' := [(k0, .byte), (k1, .int), (k2, .int), (k3, .boolean), (k4, .long), (k5, .boolean)]) [0, 1, 2, 3, 4, 5] rfl
  have hKr := hK.sub (tys' := [(k6, .byte), (k7, .int), (k8, .int), (k9, .int), (k10, .long), (k11, .boolean)]) [6, 7, 8, 9, 10, 11] rfl
  exact kl_loop (dC := dC) (dI := dI) (ad := fun i => [q0, q1, q2, q3, q4, q5, q6, q7, q8, q9, q10, q11, q12, q13, q14, q15, q16, q17].getD i 0) (ck := fun i => [k0, k1, k2, k3, k4, k5, k6, k7, k8, k9, k10, k11].getD i k0) l () C0 hA hA2 hbA hKm hKr hXm hXr _ _ _ _ _ _ _ _ _ _ _ _ _ _ _ _ _ _ _ _ _ _ _ _ _ _ _ _ _ _ _ _ _ _ _ _ _ _ _ _ _ _ _ hlaw hP hD hS (lv_sub hl [3, 2, 1, 0] rfl)
