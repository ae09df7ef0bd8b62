abbrev TYr (ck : Nat → ClassId) : List (ClassId × FieldType) := [(ck 6, .byte), (ck 7, .int), (ck 8, .int), (ck 9, .int), (ck 10, .long), (ck 11, .boolean)]
abbrev NS : Nat := 28
def slenL : List Nat := [4, 8, 12, 25, 1, 1, 1, 1, 1, 1, 2, 2, 1, 1, 1, 2, 2, 1, 1, 2, 2, 2, 2, 1, 1, 1, 1, 1]
def slen (i : Nat) : Nat := slenL.getD i 0
def sbyL : List (List Int32) := [[101, 69, 112, 80], [43, 45, 60, 62, 61, 38, 124, 35], [60, 62, 61, 33, 42, 47, 37, 43, 45, 38, 94, 124], [35, 91, 93, 40, 41, 123, 125, 46, 38, 42, 43, 45, 126, 33, 47, 37, 60, 62, 94, 124, 63, 58, 61, 44, 59], [40], [43], [45], [126], [33], [41], [124, 124], [38, 38], [124], [94], [38], [61, 61], [33, 61], [60], [62], [60, 61], [62, 61], [60, 60], [62, 62], [42], [47], [37], [63], [58]]
def sby (i j : Nat) : Int32 := (sbyL.getD i []).getD j 0
def shsL : List Int32 := [3078752, 691258068, 841277160, -1476474324, 40, 43, 45, 126, 33, 41, 3968, 1216, 124, 94, 38, 1952, 1084, 60, 62, 1921, 1983, 1920, 1984, 42, 47, 37, 63, 58]
def shs (i : Nat) : Int32 := shsL.getD i 0
def shz (_ : Nat) : Int32 := 0
def RS : List (Nat × String × Nat) := [(68, "eEpP", 0), (49, "+-<>=&|#", 1), (55, "<>=!*/%+-&^|", 2), (85, "#[](){}.&*+-~!/%<>^|?:=,;", 3), (223, "(", 4), (170, "+", 5), (172, "-", 6), (225, "~", 7), (227, "!", 8), (229, ")", 9), (140, "||", 10), (146, "&&", 11), (148, "|", 12), (150, "^", 13), (152, "&", 14), (154, "==", 15), (156, "!=", 16), (158, "<", 17), (160, ">", 18), (162, "<=", 19), (164, ">=", 20), (166, "<<", 21), (168, ">>", 22), (174, "*", 23), (176, "/", 24), (178, "%", 25), (127, "?", 26), (135, ":", 27)]
theorem rs_0 : (68, "eEpP", 0) ∈ RS := List.mem_of_getElem? (i := 0) rfl
theorem rs_1 : (49, "+-<>=&|#", 1) ∈ RS := List.mem_of_getElem? (i := 1) rfl
theorem rs_2 : (55, "<>=!*/%+-&^|", 2) ∈ RS := List.mem_of_getElem? (i := 2) rfl
theorem rs_3 : (85, "#[](){}.&*+-~!/%<>^|?:=,;", 3) ∈ RS := List.mem_of_getElem? (i := 3) rfl
theorem rs_4 : (223, "(", 4) ∈ RS := List.mem_of_getElem? (i := 4) rfl
theorem rs_5 : (170, "+", 5) ∈ RS := List.mem_of_getElem? (i := 5) rfl
theorem rs_6 : (172, "-", 6) ∈ RS := List.mem_of_getElem? (i := 6) rfl
theorem rs_7 : (225, "~", 7) ∈ RS := List.mem_of_getElem? (i := 7) rfl
theorem rs_8 : (227, "!", 8) ∈ RS := List.mem_of_getElem? (i := 8) rfl
theorem rs_9 : (229, ")", 9) ∈ RS := List.mem_of_getElem? (i := 9) rfl
theorem rs_10 : (140, "||", 10) ∈ RS := List.mem_of_getElem? (i := 10) rfl
theorem rs_11 : (146, "&&", 11) ∈ RS := List.mem_of_getElem? (i := 11) rfl
theorem rs_12 : (148, "|", 12) ∈ RS := List.mem_of_getElem? (i := 12) rfl
theorem rs_13 : (150, "^", 13) ∈ RS := List.mem_of_getElem? (i := 13) rfl
theorem rs_14 : (152, "&", 14) ∈ RS := List.mem_of_getElem? (i := 14) rfl
theorem rs_15 : (154, "==", 15) ∈ RS := List.mem_of_getElem? (i := 15) rfl
theorem rs_16 : (156, "!=", 16) ∈ RS := List.mem_of_getElem? (i := 16) rfl
theorem rs_17 : (158, "<", 17) ∈ RS := List.mem_of_getElem? (i := 17) rfl
theorem rs_18 : (160, ">", 18) ∈ RS := List.mem_of_getElem? (i := 18) rfl
theorem rs_19 : (162, "<=", 19) ∈ RS := List.mem_of_getElem? (i := 19) rfl
theorem rs_20 : (164, ">=", 20) ∈ RS := List.mem_of_getElem? (i := 20) rfl
theorem rs_21 : (166, "<<", 21) ∈ RS := List.mem_of_getElem? (i := 21) rfl
theorem rs_22 : (168, ">>", 22) ∈ RS := List.mem_of_getElem? (i := 22) rfl
theorem rs_23 : (174, "*", 23) ∈ RS := List.mem_of_getElem? (i := 23) rfl
theorem rs_24 : (176, "/", 24) ∈ RS := List.mem_of_getElem? (i := 24) rfl
theorem rs_25 : (178, "%", 25) ∈ RS := List.mem_of_getElem? (i := 25) rfl
theorem rs_26 : (127, "?", 26) ∈ RS := List.mem_of_getElem? (i := 26) rfl
theorem rs_27 : (135, ":", 27) ∈ RS := List.mem_of_getElem? (i := 27) rfl
/-- one String constant: its object, its fields, its bytes -/
def st_ok (i a v : Nat) (A : Nat → Prop) (U : State) (H : Heap) : Prop := va_O "java/lang/String" a A U H ∧ va_OF "java/lang/String" "coder" "B" (.int 0) a A U H ∧ va_OF "java/lang/String" "value" "[B" (.ref v) a A U H ∧ va_T .byte v (slen i) (fun j => .int (sby i j)) A U H ∧ va_OF "java/lang/String" "hash" "I" (.int (shs i)) a A U H ∧ va_OF "java/lang/String" "hashIsZero" "Z" (.int (shz i)) a A U H
def XR (sa sv : Nat → Nat) (sf : Option Nat) (A : Nat → Prop) (U : State) (H : Heap) : Prop := (∀ r ∈ RS, vk_R R_R r.1 r.2.1 (sa r.2.2) U) ∧ (∀ i, i < NS → st_ok i (sa i) (sv i) A U H) ∧ va_Z "java/lang/String" "COMPACT_STRINGS" "Z" (.int 1) A U H ∧ va_Z "jdk/internal/util/Preconditions" "SIOOBE_FORMATTER" "Ljava/util/function/BiFunction;" (va_rf sf) A U H ∧ (∀ i j, i < NS → j < NS → sa i = sa j → i = j)
theorem XR_c (sa sv : Nat → Nat) (sf : Option Nat) : k_X (XR sa sv sf) := by
  refine ⟨fun A s U H hW h => ⟨fun r hr => (h.1 r hr).warm hW, fun i hi => ?_, h.2.2.1.moved hW.alike, h.2.2.2.1.moved hW.alike, h.2.2.2.2⟩, fun A u U H hv h => ⟨fun r hr => (h.1 r hr).same hv, fun i hi => ?_, h.2.2.1.moved (by rw [hv]; exact Vm.Alike.refl _), h.2.2.2.1.moved (by rw [hv]; exact Vm.Alike.refl _), h.2.2.2.2⟩, fun A U H H1 hq h => ⟨h.1, fun i hi => ?_, h.2.2.1.kept hq, h.2.2.2.1.kept hq, h.2.2.2.2⟩, fun A B U H hAB h => ⟨h.1, fun i hi => ?_, h.2.2.1.narrow hAB, h.2.2.2.1.narrow hAB, h.2.2.2.2⟩⟩
  · obtain ⟨h1, h2, h3, h4, h5, h6⟩ := h.2.1 i hi
    exact ⟨h1.moved hW.alike, h2.moved hW.alike, h3.moved hW.alike, h4.moved hW.alike, h5.moved hW.alike, h6.moved hW.alike⟩
  · obtain ⟨h1, h2, h3, h4, h5, h6⟩ := h.2.1 i hi
    have ha : u.vm.Alike U.vm := by rw [hv]; exact Vm.Alike.refl _
    exact ⟨h1.moved ha, h2.moved ha, h3.moved ha, h4.moved ha, h5.moved ha, h6.moved ha⟩
  · obtain ⟨h1, h2, h3, h4, h5, h6⟩ := h.2.1 i hi
    exact ⟨h1.kept hq, h2.kept hq, h3.kept hq, h4.kept hq, h5.kept hq, h6.kept hq⟩
  · obtain ⟨h1, h2, h3, h4, h5, h6⟩ := h.2.1 i hi
    exact ⟨h1.narrow hAB, h2.narrow hAB, h3.narrow hAB, h4.narrow hAB, h5.narrow hAB, h6.narrow hAB⟩
theorem st_recv {a : Nat} {A : Nat → Prop} {s : State} {H : Heap} {locs : List Loc} (hE : va_O "java/lang/String" a A s s.heap) (hS : va_S A s.heap H locs) : ∃ cell : Cell, H[a]? = some cell ∧ cell.vm.isStatics = false ∧ s.vm.findClass "java/lang/String" = some cell.cls := by
  obtain ⟨cell, h1, h2, h3, -⟩ := hE.kept hS.2.1
  exact ⟨cell, h1, h2, h3⟩
/-- a contract whose answer is a String constant, told by its number -/
def k_Cs (sa : Nat → Nat) (l : Launch) (y : MethodName) (ws : List Cond) (rm : Room) (D : va_G) (cl : List vw_C) (tys : List (ClassId × FieldType)) (X : (Nat → Prop) → State → Heap → Prop) (av : List Value) (wc : va_W) {S : Type} (post : Nat → S → Prop) (wf : S → va_W) : Prop :=
  ∀ sz : Nat, Met l y ws rm (va_Pc av (fun U => U.heap.size = sz ∧ va_P D cl wc U.heap ∧ va_K D cl tys U ∧ va_D (fun _ => True) wc ∧ X (va_A wc sz) U U.heap)) (va_Qr (fun u : Nat × S => post u.1 u.2) (fun u a t => a = sa u.1 ∧ va_P D cl (wf u.2) t.heap ∧ va_K D cl tys t ∧ va_D (va_A wc sz) (wf u.2)) (va_A wc sz)) 0 0 (va_A wc sz)
section KCALLS
variable {p : Program} {l : Launch} {e : Env} {R : Room} {s : State} {m : MethodId} {args : Array Value} {below : List Frame} {meth : Method} {c : Code} {H : Heap} {locs : List Loc} {cells slots : Nat} {Q : State → Prop}
variable {pc : Nat} {ls : Array Slot} {rest st0 As : List Value} {A : Nat → Prop} {X : (Nat → Prop) → State → Heap → Prop} {D : va_G} {cl : List vw_C} {tys : List (ClassId × FieldType)} {ws wc : va_W}
variable {own C host : String} {index n maxL nL b : Nat} {y : MethodName} {bytes cc : ByteArray} {ret : Option FieldType} {wsy Ts : List Cond} {rm : Room}
theorem k_callSs {sa : Nat → Nat} {S : Type} {post : Nat → S → Prop} {wf : S → va_W} (wt : S → va_W) (hf : CallFix p m c cc nL s args Ts own) (hM : k_Cs sa l y wsy rm D cl tys X As wc post wf) (cw : CallB R s args own index y bytes maxL ret wsy rm 0 0 n ∧ (Cond.static y).before args s = true)
    (hK : va_K D cl tys s) (hP : va_P D cl ws H) (hD : va_D A ws) (hS : va_S A s.heap H locs) (hA : ∀ q, s.heap.size ≤ q → A q) (hXc : k_X X) (hX : X A s s.heap) (isC isR isJ : List Nat) (hC : isC.map (fun i => ws[i]?) = wc.map some) (hR : isR.map (fun i => ws[i]?) = (isR.filterMap (fun i => ws[i]?)).map some) (hnd : va_nd isC = true ∧ va_nd isR = true ∧ va_nd isJ = true) (hdis : ∀ i ∈ isR, i ∉ isC) (hJ : ∀ u, isJ.map (fun i => (isR.filterMap (fun i => ws[i]?) ++ wf u)[i]?) = (wt u).map some)
    (hlen : As.length = n) (hsize : ls.size = nL) (hst : st0 = As.reverse ++ rest) (hW : 2 * (F0 m pc ls st0).monitorRoom + (rest.map fun v => v.category).sum ≤ 8) (hdg : decode cc pc = .ok (.invokestatic index, 3)) (hcs : cells ≤ R.cells ∧ slots ≤ R.slots)
    (kk : ∀ (r : Nat) (u : S) (H1 : Heap) (locs1 : List Loc), post r u → va_P D cl (wt u) H1 → va_D A (wt u) → va_S A s.heap H1 locs1 → W p l e R s m args below meth c H1 locs1 cells slots Q (F0 m (pc + 3) ls (.ref (sa r) :: rest))) : W p l e R s m args below meth c H locs cells slots Q (F0 m pc ls st0) := by
  have hPc : va_P D cl wc H := hP.sub isC (k_fm hC)
  have hDc : va_D A wc := hD.sub isC hnd.1 hC
  have hFc := va_free (wc := wc) hD hS hA isC hC
  refine va_callr (va_runS (As := As) (rest := rest) hf (hM H.size) cw ⟨(by intro a U g mk q; obtain ⟨q0, q1, qP, qK, qD, qX⟩ := q; exact ⟨q0, q1, qP, va_K.moved (u := U) (U := U.calling g mk a) (Vm.Alike.refl U.vm) qK, qD, hXc.2.1 _ U (U.calling g mk a) _ rfl qX⟩), fun U hU hW => ⟨rfl, by rw [hU], by rw [hU]; exact hPc, va_K.moved hW.alike hK, hDc.weaken (fun _ _ _ _ => trivial), by rw [hU]; exact hXc.1 _ _ _ _ hW (hXc.2.2.2 _ _ _ _ hFc (hXc.2.2.1 _ _ _ _ hS.2.1 hX))⟩⟩ rfl hlen hsize hst hW hdg ⟨hcs.1, hcs.2⟩) hS (fun q _ h => hFc q h) hFc (fun u ra t H1 locs1 ht hvm hw hB hz1 hk1 hS1 => ?_)
  obtain ⟨era, hP1, hK1, hD1⟩ := hB
  subst era
  rw [ht] at hP1
  obtain ⟨hP2, hD2⟩ := va_join hP hD isC isR hC hR hnd.2.1 hdis hk1 hFc hP1 hD1
  exact kk u.1 u.2 H1 locs1 hw (hP2.sub isJ (k_fm (hJ u.2))) (hD2.sub isJ hnd.2.2 (hJ u.2)) hS1
end KCALLS

