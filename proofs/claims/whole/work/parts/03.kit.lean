/-! my own rows: contracts' form, and a call in one row -/
def vz (x : Int32) : Prop := x = 0 ∨ x = 1
theorem vz_n {x : Int32} (h : vz x) : narrow .boolean (.int x) = .int x := by
  rcases h with h | h <;> subst h <;> decide
theorem vz_f {x : Int32} (h : vz x) : fits .boolean (.int x) = true := by
  rcases h with h | h <;> subst h <;> decide
theorem k_fm {ws : va_W} : ∀ {is : List Nat} {w : va_W}, is.map (fun i => ws[i]?) = w.map some → is.filterMap (fun i => ws[i]?) = w := by
  intro is
  induction is with
  | nil => intro w h; cases w with
    | nil => rfl
    | cons a t => simp at h
  | cons i is ih => intro w h; cases w with
    | nil => simp at h
    | cons a t =>
      simp only [List.map_cons, List.cons.injEq] at h
      rw [List.filterMap_cons, h.1]
      simp [ih h.2]

/-- facts that stay: X of the untouched cells A, a state's tables, a heap -/
def k_X (X : (Nat → Prop) → State → Heap → Prop) : Prop := (∀ A (s U : State) H, s.WarmedH U.vm → X A s H → X A U H) ∧ (∀ A (u U : State) H, U.vm = u.vm → X A u H → X A U H) ∧ (∀ A U (H H1 : Heap), (∀ a : Nat, a < H.size → ¬ A a → H1[a]? = H[a]?) → X A U H → X A U H1) ∧ (∀ (A B : Nat → Prop) U H, (∀ q, B q → A q) → X A U H → X B U H)
def k_x0 : (Nat → Prop) → State → Heap → Prop := fun _ _ _ => True
theorem k_x0c : k_X k_x0 := ⟨fun _ _ _ _ _ _ => trivial, fun _ _ _ _ _ _ => trivial, fun _ _ _ _ _ _ => trivial, fun _ _ _ _ _ _ => trivial⟩

def k_Ci (l : Launch) (y : MethodName) (ws : List Cond) (rm : Room) (D : va_G) (cl : List vw_C) (tys : List (ClassId × FieldType)) (X : (Nat → Prop) → State → Heap → Prop) (av : List Value) (wc : va_W) {S : Type} (post : Int32 → S → Prop) (wf : S → va_W) : Prop :=
  ∀ sz : Nat, Met l y ws rm (va_Pc av (fun U => U.heap.size = sz ∧ va_P D cl wc U.heap ∧ va_K D cl tys U ∧ va_D (fun _ => True) wc ∧ X (va_A wc sz) U U.heap)) (va_Qi post (fun u t => va_P D cl (wf u) t.heap ∧ va_K D cl tys t ∧ va_D (va_A wc sz) (wf u)) (va_A wc sz)) 0 0 (va_A wc sz)
abbrev k_Qi (below : List Frame) (D : va_G) (cl : List vw_C) (tys : List (ClassId × FieldType)) (A : Nat → Prop) {S : Type} (post : Int32 → S → Prop) (wf : S → va_W) (args : Array Value) (s : State) : State → Prop :=
  MQ below (va_Qi post (fun u t => va_P D cl (wf u) t.heap ∧ va_K D cl tys t ∧ va_D A (wf u)) A) args s 0 0 A

def k_Cl (l : Launch) (y : MethodName) (ws : List Cond) (rm : Room) (D : va_G) (cl : List vw_C) (tys : List (ClassId × FieldType)) (X : (Nat → Prop) → State → Heap → Prop) (av : List Value) (wc : va_W) {S : Type} (post : Int64 → S → Prop) (wf : S → va_W) : Prop :=
  ∀ sz : Nat, Met l y ws rm (va_Pc av (fun U => U.heap.size = sz ∧ va_P D cl wc U.heap ∧ va_K D cl tys U ∧ va_D (fun _ => True) wc ∧ X (va_A wc sz) U U.heap)) (va_Ql post (fun u t => va_P D cl (wf u) t.heap ∧ va_K D cl tys t ∧ va_D (va_A wc sz) (wf u)) (va_A wc sz)) 0 0 (va_A wc sz)
abbrev k_Ql (below : List Frame) (D : va_G) (cl : List vw_C) (tys : List (ClassId × FieldType)) (A : Nat → Prop) {S : Type} (post : Int64 → S → Prop) (wf : S → va_W) (args : Array Value) (s : State) : State → Prop :=
  MQ below (va_Ql post (fun u t => va_P D cl (wf u) t.heap ∧ va_K D cl tys t ∧ va_D A (wf u)) A) args s 0 0 A

def k_Cv (l : Launch) (y : MethodName) (ws : List Cond) (rm : Room) (D : va_G) (cl : List vw_C) (tys : List (ClassId × FieldType)) (X : (Nat → Prop) → State → Heap → Prop) (av : List Value) (wc : va_W) {S : Type} (post : S → Prop) (wf : S → va_W) : Prop :=
  ∀ sz : Nat, Met l y ws rm (va_Pc av (fun U => U.heap.size = sz ∧ va_P D cl wc U.heap ∧ va_K D cl tys U ∧ va_D (fun _ => True) wc ∧ X (va_A wc sz) U U.heap)) (va_Qv post (fun u t => va_P D cl (wf u) t.heap ∧ va_K D cl tys t ∧ va_D (va_A wc sz) (wf u)) (va_A wc sz)) 0 0 (va_A wc sz)
abbrev k_Qv (below : List Frame) (D : va_G) (cl : List vw_C) (tys : List (ClassId × FieldType)) (A : Nat → Prop) {S : Type} (post : S → Prop) (wf : S → va_W) (args : Array Value) (s : State) : State → Prop :=
  MQ below (va_Qv post (fun u t => va_P D cl (wf u) t.heap ∧ va_K D cl tys t ∧ va_D A (wf u)) A) args s 0 0 A

section KCALL
variable {p : Program} {l : Launch} {e : Env} {R : Room} {s : State} {m : MethodId} {args : Array Value} {below : List Frame} {meth : Method} {c : Code} {H : Heap} {locs : List Loc} {cells slots : Nat} {Q : State → Prop}
variable {pc : Nat} {ls : Array Slot} {rest st0 As : List Value} {A : Nat → Prop} {X : (Nat → Prop) → State → Heap → Prop} {D : va_G} {cl : List vw_C} {tys : List (ClassId × FieldType)} {ws wc : va_W}
variable {own C host : String} {index n maxL nL b : Nat} {y : MethodName} {bytes cc : ByteArray} {ret : Option FieldType} {wsy Ts : List Cond} {rm : Room}

theorem k_callVi {S : Type} {post : Int32 → S → Prop} {wf : S → va_W} (wt : S → va_W) (hf : CallFix p m c cc nL s args Ts own) (hM : k_Ci l y wsy rm D cl tys X (.ref b :: As) wc post wf) (cw : CallW R s args own C index y bytes maxL ret wsy rm 0 0 n)
    (hK : va_K D cl tys s) (hP : va_P D cl ws H) (hD : va_D A ws) (hS : va_S A s.heap H locs) (hA : ∀ q, s.heap.size ≤ q → A q) (hXc : k_X X) (hX : X A s s.heap) (isC isR isJ : List Nat) (hC : isC.map (fun i => ws[i]?) = wc.map some) (hR : isR.map (fun i => ws[i]?) = (isR.filterMap (fun i => ws[i]?)).map some) (hnd : va_nd isC = true ∧ va_nd isR = true ∧ va_nd isJ = true) (hdis : ∀ i ∈ isR, i ∉ isC) (hJ : ∀ u, isJ.map (fun i => (isR.filterMap (fun i => ws[i]?) ++ wf u)[i]?) = (wt u).map some) (hrecv : ∃ cell : Cell, H[b]? = some cell ∧ cell.vm.isStatics = false ∧ s.vm.findClass C = some cell.cls)
    (hlen : As.length = n) (hsize : ls.size = nL) (hst : st0 = As.reverse ++ .ref b :: rest) (hW : 2 * (F0 m pc ls st0).monitorRoom + (rest.map fun v => v.category).sum ≤ 8) (hdg : decode cc pc = .ok (.invokevirtual index, 3)) (hcs : cells ≤ R.cells ∧ slots ≤ R.slots)
    (kk : ∀ (r : Int32) (u : S) (H1 : Heap) (locs1 : List Loc), post r u → va_P D cl (wt u) H1 → va_D A (wt u) → va_S A s.heap H1 locs1 → W p l e R s m args below meth c H1 locs1 cells slots Q (F0 m (pc + 3) ls (.int r :: rest))) : W p l e R s m args below meth c H locs cells slots Q (F0 m pc ls st0) := by
  have hPc : va_P D cl wc H := hP.sub isC (k_fm hC)
  have hDc : va_D A wc := hD.sub isC hnd.1 hC
  have hFc := va_free (wc := wc) hD hS hA isC hC
  refine va_calli (va_runV (As := As) (rest := rest) hf (hM H.size) cw ⟨(by intro a U g mk q; obtain ⟨q0, q1, qP, qK, qD, qX⟩ := q; exact ⟨q0, q1, qP, va_K.moved (u := U) (U := U.calling g mk a) (Vm.Alike.refl U.vm) qK, qD, hXc.2.1 _ U (U.calling g mk a) _ rfl qX⟩), hrecv, fun U hU hW => ⟨rfl, by rw [hU], by rw [hU]; exact hPc, va_K.moved hW.alike hK, hDc.weaken (fun _ _ _ _ => trivial), by rw [hU]; exact hXc.1 _ _ _ _ hW (hXc.2.2.2 _ _ _ _ hFc (hXc.2.2.1 _ _ _ _ hS.2.1 hX))⟩⟩ rfl hlen hsize hst hW hdg ⟨hcs.1, hcs.2⟩) hS (fun q _ h => hFc q h) hFc (fun r u t H1 locs1 ht hvm hw hB hz1 hk1 hS1 => ?_)
  obtain ⟨hP1, hK1, hD1⟩ := hB
  rw [ht] at hP1
  obtain ⟨hP2, hD2⟩ := va_join hP hD isC isR hC hR hnd.2.1 hdis hk1 hFc hP1 hD1
  exact kk r u H1 locs1 hw (hP2.sub isJ (k_fm (hJ u))) (hD2.sub isJ hnd.2.2 (hJ u)) hS1

theorem k_callVNi {S : Type} {post : Int32 → S → Prop} {wf : S → va_W} (wt : S → va_W) (hf : CallFix p m c cc nL s args Ts own) (hM : k_Ci l y wsy rm D cl tys X (.ref b :: As) wc post wf) (cw : va_CN R s args own index y host bytes maxL ret wsy rm 0 0 n ∧ (Cond.instanceMethod y).before args s = true ∧ (Cond.selects C y y).before args s = true)
    (hK : va_K D cl tys s) (hP : va_P D cl ws H) (hD : va_D A ws) (hS : va_S A s.heap H locs) (hA : ∀ q, s.heap.size ≤ q → A q) (hXc : k_X X) (hX : X A s s.heap) (isC isR isJ : List Nat) (hC : isC.map (fun i => ws[i]?) = wc.map some) (hR : isR.map (fun i => ws[i]?) = (isR.filterMap (fun i => ws[i]?)).map some) (hnd : va_nd isC = true ∧ va_nd isR = true ∧ va_nd isJ = true) (hdis : ∀ i ∈ isR, i ∉ isC) (hJ : ∀ u, isJ.map (fun i => (isR.filterMap (fun i => ws[i]?) ++ wf u)[i]?) = (wt u).map some) (hrecv : ∃ cell : Cell, H[b]? = some cell ∧ cell.vm.isStatics = false ∧ s.vm.findClass C = some cell.cls)
    (hlen : As.length = n) (hsize : ls.size = nL) (hst : st0 = As.reverse ++ .ref b :: rest) (hW : 2 * (F0 m pc ls st0).monitorRoom + (rest.map fun v => v.category).sum ≤ 8) (hdg : decode cc pc = .ok (.invokevirtual index, 3)) (hcs : cells ≤ R.cells ∧ slots ≤ R.slots)
    (kk : ∀ (r : Int32) (u : S) (H1 : Heap) (locs1 : List Loc), post r u → va_P D cl (wt u) H1 → va_D A (wt u) → va_S A s.heap H1 locs1 → W p l e R s m args below meth c H1 locs1 cells slots Q (F0 m (pc + 3) ls (.int r :: rest))) : W p l e R s m args below meth c H locs cells slots Q (F0 m pc ls st0) := by
  have hPc : va_P D cl wc H := hP.sub isC (k_fm hC)
  have hDc : va_D A wc := hD.sub isC hnd.1 hC
  have hFc := va_free (wc := wc) hD hS hA isC hC
  refine va_calli (va_runVN (As := As) (rest := rest) hf (hM H.size) cw ⟨(by intro a U g mk q; obtain ⟨q0, q1, qP, qK, qD, qX⟩ := q; exact ⟨q0, q1, qP, va_K.moved (u := U) (U := U.calling g mk a) (Vm.Alike.refl U.vm) qK, qD, hXc.2.1 _ U (U.calling g mk a) _ rfl qX⟩), hrecv, fun U hU hW => ⟨rfl, by rw [hU], by rw [hU]; exact hPc, va_K.moved hW.alike hK, hDc.weaken (fun _ _ _ _ => trivial), by rw [hU]; exact hXc.1 _ _ _ _ hW (hXc.2.2.2 _ _ _ _ hFc (hXc.2.2.1 _ _ _ _ hS.2.1 hX))⟩⟩ rfl hlen hsize hst hW hdg ⟨hcs.1, hcs.2⟩) hS (fun q _ h => hFc q h) hFc (fun r u t H1 locs1 ht hvm hw hB hz1 hk1 hS1 => ?_)
  obtain ⟨hP1, hK1, hD1⟩ := hB
  rw [ht] at hP1
  obtain ⟨hP2, hD2⟩ := va_join hP hD isC isR hC hR hnd.2.1 hdis hk1 hFc hP1 hD1
  exact kk r u H1 locs1 hw (hP2.sub isJ (k_fm (hJ u))) (hD2.sub isJ hnd.2.2 (hJ u)) hS1

theorem k_callSi {S : Type} {post : Int32 → S → Prop} {wf : S → va_W} (wt : S → va_W) (hf : CallFix p m c cc nL s args Ts own) (hM : k_Ci l y wsy rm D cl tys X As wc post wf) (cw : CallB R s args own index y bytes maxL ret wsy rm 0 0 n ∧ (Cond.static y).before args s = true)
    (hK : va_K D cl tys s) (hP : va_P D cl ws H) (hD : va_D A ws) (hS : va_S A s.heap H locs) (hA : ∀ q, s.heap.size ≤ q → A q) (hXc : k_X X) (hX : X A s s.heap) (isC isR isJ : List Nat) (hC : isC.map (fun i => ws[i]?) = wc.map some) (hR : isR.map (fun i => ws[i]?) = (isR.filterMap (fun i => ws[i]?)).map some) (hnd : va_nd isC = true ∧ va_nd isR = true ∧ va_nd isJ = true) (hdis : ∀ i ∈ isR, i ∉ isC) (hJ : ∀ u, isJ.map (fun i => (isR.filterMap (fun i => ws[i]?) ++ wf u)[i]?) = (wt u).map some)
    (hlen : As.length = n) (hsize : ls.size = nL) (hst : st0 = As.reverse ++ rest) (hW : 2 * (F0 m pc ls st0).monitorRoom + (rest.map fun v => v.category).sum ≤ 8) (hdg : decode cc pc = .ok (.invokestatic index, 3)) (hcs : cells ≤ R.cells ∧ slots ≤ R.slots)
    (kk : ∀ (r : Int32) (u : S) (H1 : Heap) (locs1 : List Loc), post r u → va_P D cl (wt u) H1 → va_D A (wt u) → va_S A s.heap H1 locs1 → W p l e R s m args below meth c H1 locs1 cells slots Q (F0 m (pc + 3) ls (.int r :: rest))) : W p l e R s m args below meth c H locs cells slots Q (F0 m pc ls st0) := by
  have hPc : va_P D cl wc H := hP.sub isC (k_fm hC)
  have hDc : va_D A wc := hD.sub isC hnd.1 hC
  have hFc := va_free (wc := wc) hD hS hA isC hC
  refine va_calli (va_runS (As := As) (rest := rest) hf (hM H.size) cw ⟨(by intro a U g mk q; obtain ⟨q0, q1, qP, qK, qD, qX⟩ := q; exact ⟨q0, q1, qP, va_K.moved (u := U) (U := U.calling g mk a) (Vm.Alike.refl U.vm) qK, qD, hXc.2.1 _ U (U.calling g mk a) _ rfl qX⟩), fun U hU hW => ⟨rfl, by rw [hU], by rw [hU]; exact hPc, va_K.moved hW.alike hK, hDc.weaken (fun _ _ _ _ => trivial), by rw [hU]; exact hXc.1 _ _ _ _ hW (hXc.2.2.2 _ _ _ _ hFc (hXc.2.2.1 _ _ _ _ hS.2.1 hX))⟩⟩ rfl hlen hsize hst hW hdg ⟨hcs.1, hcs.2⟩) hS (fun q _ h => hFc q h) hFc (fun r u t H1 locs1 ht hvm hw hB hz1 hk1 hS1 => ?_)
  obtain ⟨hP1, hK1, hD1⟩ := hB
  rw [ht] at hP1
  obtain ⟨hP2, hD2⟩ := va_join hP hD isC isR hC hR hnd.2.1 hdis hk1 hFc hP1 hD1
  exact kk r u H1 locs1 hw (hP2.sub isJ (k_fm (hJ u))) (hD2.sub isJ hnd.2.2 (hJ u)) hS1

theorem k_callSNi {S : Type} {post : Int32 → S → Prop} {wf : S → va_W} (wt : S → va_W) (hf : CallFix p m c cc nL s args Ts own) (hM : k_Ci l y wsy rm D cl tys X As wc post wf) (cw : va_CN R s args own index y host bytes maxL ret wsy rm 0 0 n ∧ (Cond.static y).before args s = true ∧ True)
    (hK : va_K D cl tys s) (hP : va_P D cl ws H) (hD : va_D A ws) (hS : va_S A s.heap H locs) (hA : ∀ q, s.heap.size ≤ q → A q) (hXc : k_X X) (hX : X A s s.heap) (isC isR isJ : List Nat) (hC : isC.map (fun i => ws[i]?) = wc.map some) (hR : isR.map (fun i => ws[i]?) = (isR.filterMap (fun i => ws[i]?)).map some) (hnd : va_nd isC = true ∧ va_nd isR = true ∧ va_nd isJ = true) (hdis : ∀ i ∈ isR, i ∉ isC) (hJ : ∀ u, isJ.map (fun i => (isR.filterMap (fun i => ws[i]?) ++ wf u)[i]?) = (wt u).map some)
    (hlen : As.length = n) (hsize : ls.size = nL) (hst : st0 = As.reverse ++ rest) (hW : 2 * (F0 m pc ls st0).monitorRoom + (rest.map fun v => v.category).sum ≤ 8) (hdg : decode cc pc = .ok (.invokestatic index, 3)) (hcs : cells ≤ R.cells ∧ slots ≤ R.slots)
    (kk : ∀ (r : Int32) (u : S) (H1 : Heap) (locs1 : List Loc), post r u → va_P D cl (wt u) H1 → va_D A (wt u) → va_S A s.heap H1 locs1 → W p l e R s m args below meth c H1 locs1 cells slots Q (F0 m (pc + 3) ls (.int r :: rest))) : W p l e R s m args below meth c H locs cells slots Q (F0 m pc ls st0) := by
  have hPc : va_P D cl wc H := hP.sub isC (k_fm hC)
  have hDc : va_D A wc := hD.sub isC hnd.1 hC
  have hFc := va_free (wc := wc) hD hS hA isC hC
  refine va_calli (va_runSN (As := As) (rest := rest) hf (hM H.size) cw ⟨(by intro a U g mk q; obtain ⟨q0, q1, qP, qK, qD, qX⟩ := q; exact ⟨q0, q1, qP, va_K.moved (u := U) (U := U.calling g mk a) (Vm.Alike.refl U.vm) qK, qD, hXc.2.1 _ U (U.calling g mk a) _ rfl qX⟩), fun U hU hW => ⟨rfl, by rw [hU], by rw [hU]; exact hPc, va_K.moved hW.alike hK, hDc.weaken (fun _ _ _ _ => trivial), by rw [hU]; exact hXc.1 _ _ _ _ hW (hXc.2.2.2 _ _ _ _ hFc (hXc.2.2.1 _ _ _ _ hS.2.1 hX))⟩⟩ rfl hlen hsize hst hW hdg ⟨hcs.1, hcs.2⟩) hS (fun q _ h => hFc q h) hFc (fun r u t H1 locs1 ht hvm hw hB hz1 hk1 hS1 => ?_)
  obtain ⟨hP1, hK1, hD1⟩ := hB
  rw [ht] at hP1
  obtain ⟨hP2, hD2⟩ := va_join hP hD isC isR hC hR hnd.2.1 hdis hk1 hFc hP1 hD1
  exact kk r u H1 locs1 hw (hP2.sub isJ (k_fm (hJ u))) (hD2.sub isJ hnd.2.2 (hJ u)) hS1

theorem k_callVl {S : Type} {post : Int64 → S → Prop} {wf : S → va_W} (wt : S → va_W) (hf : CallFix p m c cc nL s args Ts own) (hM : k_Cl l y wsy rm D cl tys X (.ref b :: As) wc post wf) (cw : CallW R s args own C index y bytes maxL ret wsy rm 0 0 n)
    (hK : va_K D cl tys s) (hP : va_P D cl ws H) (hD : va_D A ws) (hS : va_S A s.heap H locs) (hA : ∀ q, s.heap.size ≤ q → A q) (hXc : k_X X) (hX : X A s s.heap) (isC isR isJ : List Nat) (hC : isC.map (fun i => ws[i]?) = wc.map some) (hR : isR.map (fun i => ws[i]?) = (isR.filterMap (fun i => ws[i]?)).map some) (hnd : va_nd isC = true ∧ va_nd isR = true ∧ va_nd isJ = true) (hdis : ∀ i ∈ isR, i ∉ isC) (hJ : ∀ u, isJ.map (fun i => (isR.filterMap (fun i => ws[i]?) ++ wf u)[i]?) = (wt u).map some) (hrecv : ∃ cell : Cell, H[b]? = some cell ∧ cell.vm.isStatics = false ∧ s.vm.findClass C = some cell.cls)
    (hlen : As.length = n) (hsize : ls.size = nL) (hst : st0 = As.reverse ++ .ref b :: rest) (hW : 2 * (F0 m pc ls st0).monitorRoom + (rest.map fun v => v.category).sum ≤ 8) (hdg : decode cc pc = .ok (.invokevirtual index, 3)) (hcs : cells ≤ R.cells ∧ slots ≤ R.slots)
    (kk : ∀ (r : Int64) (u : S) (H1 : Heap) (locs1 : List Loc), post r u → va_P D cl (wt u) H1 → va_D A (wt u) → va_S A s.heap H1 locs1 → W p l e R s m args below meth c H1 locs1 cells slots Q (F0 m (pc + 3) ls (.long r :: rest))) : W p l e R s m args below meth c H locs cells slots Q (F0 m pc ls st0) := by
  have hPc : va_P D cl wc H := hP.sub isC (k_fm hC)
  have hDc : va_D A wc := hD.sub isC hnd.1 hC
  have hFc := va_free (wc := wc) hD hS hA isC hC
  refine va_calll (va_runV (As := As) (rest := rest) hf (hM H.size) cw ⟨(by intro a U g mk q; obtain ⟨q0, q1, qP, qK, qD, qX⟩ := q; exact ⟨q0, q1, qP, va_K.moved (u := U) (U := U.calling g mk a) (Vm.Alike.refl U.vm) qK, qD, hXc.2.1 _ U (U.calling g mk a) _ rfl qX⟩), hrecv, fun U hU hW => ⟨rfl, by rw [hU], by rw [hU]; exact hPc, va_K.moved hW.alike hK, hDc.weaken (fun _ _ _ _ => trivial), by rw [hU]; exact hXc.1 _ _ _ _ hW (hXc.2.2.2 _ _ _ _ hFc (hXc.2.2.1 _ _ _ _ hS.2.1 hX))⟩⟩ rfl hlen hsize hst hW hdg ⟨hcs.1, hcs.2⟩) hS (fun q _ h => hFc q h) hFc (fun r u t H1 locs1 ht hvm hw hB hz1 hk1 hS1 => ?_)
  obtain ⟨hP1, hK1, hD1⟩ := hB
  rw [ht] at hP1
  obtain ⟨hP2, hD2⟩ := va_join hP hD isC isR hC hR hnd.2.1 hdis hk1 hFc hP1 hD1
  exact kk r u H1 locs1 hw (hP2.sub isJ (k_fm (hJ u))) (hD2.sub isJ hnd.2.2 (hJ u)) hS1

theorem k_callVNl {S : Type} {post : Int64 → S → Prop} {wf : S → va_W} (wt : S → va_W) (hf : CallFix p m c cc nL s args Ts own) (hM : k_Cl l y wsy rm D cl tys X (.ref b :: As) wc post wf) (cw : va_CN R s args own index y host bytes maxL ret wsy rm 0 0 n ∧ (Cond.instanceMethod y).before args s = true ∧ (Cond.selects C y y).before args s = true)
    (hK : va_K D cl tys s) (hP : va_P D cl ws H) (hD : va_D A ws) (hS : va_S A s.heap H locs) (hA : ∀ q, s.heap.size ≤ q → A q) (hXc : k_X X) (hX : X A s s.heap) (isC isR isJ : List Nat) (hC : isC.map (fun i => ws[i]?) = wc.map some) (hR : isR.map (fun i => ws[i]?) = (isR.filterMap (fun i => ws[i]?)).map some) (hnd : va_nd isC = true ∧ va_nd isR = true ∧ va_nd isJ = true) (hdis : ∀ i ∈ isR, i ∉ isC) (hJ : ∀ u, isJ.map (fun i => (isR.filterMap (fun i => ws[i]?) ++ wf u)[i]?) = (wt u).map some) (hrecv : ∃ cell : Cell, H[b]? = some cell ∧ cell.vm.isStatics = false ∧ s.vm.findClass C = some cell.cls)
    (hlen : As.length = n) (hsize : ls.size = nL) (hst : st0 = As.reverse ++ .ref b :: rest) (hW : 2 * (F0 m pc ls st0).monitorRoom + (rest.map fun v => v.category).sum ≤ 8) (hdg : decode cc pc = .ok (.invokevirtual index, 3)) (hcs : cells ≤ R.cells ∧ slots ≤ R.slots)
    (kk : ∀ (r : Int64) (u : S) (H1 : Heap) (locs1 : List Loc), post r u → va_P D cl (wt u) H1 → va_D A (wt u) → va_S A s.heap H1 locs1 → W p l e R s m args below meth c H1 locs1 cells slots Q (F0 m (pc + 3) ls (.long r :: rest))) : W p l e R s m args below meth c H locs cells slots Q (F0 m pc ls st0) := by
  have hPc : va_P D cl wc H := hP.sub isC (k_fm hC)
  have hDc : va_D A wc := hD.sub isC hnd.1 hC
  have hFc := va_free (wc := wc) hD hS hA isC hC
  refine va_calll (va_runVN (As := As) (rest := rest) hf (hM H.size) cw ⟨(by intro a U g mk q; obtain ⟨q0, q1, qP, qK, qD, qX⟩ := q; exact ⟨q0, q1, qP, va_K.moved (u := U) (U := U.calling g mk a) (Vm.Alike.refl U.vm) qK, qD, hXc.2.1 _ U (U.calling g mk a) _ rfl qX⟩), hrecv, fun U hU hW => ⟨rfl, by rw [hU], by rw [hU]; exact hPc, va_K.moved hW.alike hK, hDc.weaken (fun _ _ _ _ => trivial), by rw [hU]; exact hXc.1 _ _ _ _ hW (hXc.2.2.2 _ _ _ _ hFc (hXc.2.2.1 _ _ _ _ hS.2.1 hX))⟩⟩ rfl hlen hsize hst hW hdg ⟨hcs.1, hcs.2⟩) hS (fun q _ h => hFc q h) hFc (fun r u t H1 locs1 ht hvm hw hB hz1 hk1 hS1 => ?_)
  obtain ⟨hP1, hK1, hD1⟩ := hB
  rw [ht] at hP1
  obtain ⟨hP2, hD2⟩ := va_join hP hD isC isR hC hR hnd.2.1 hdis hk1 hFc hP1 hD1
  exact kk r u H1 locs1 hw (hP2.sub isJ (k_fm (hJ u))) (hD2.sub isJ hnd.2.2 (hJ u)) hS1

theorem k_callSl {S : Type} {post : Int64 → S → Prop} {wf : S → va_W} (wt : S → va_W) (hf : CallFix p m c cc nL s args Ts own) (hM : k_Cl l y wsy rm D cl tys X As wc post wf) (cw : CallB R s args own index y bytes maxL ret wsy rm 0 0 n ∧ (Cond.static y).before args s = true)
    (hK : va_K D cl tys s) (hP : va_P D cl ws H) (hD : va_D A ws) (hS : va_S A s.heap H locs) (hA : ∀ q, s.heap.size ≤ q → A q) (hXc : k_X X) (hX : X A s s.heap) (isC isR isJ : List Nat) (hC : isC.map (fun i => ws[i]?) = wc.map some) (hR : isR.map (fun i => ws[i]?) = (isR.filterMap (fun i => ws[i]?)).map some) (hnd : va_nd isC = true ∧ va_nd isR = true ∧ va_nd isJ = true) (hdis : ∀ i ∈ isR, i ∉ isC) (hJ : ∀ u, isJ.map (fun i => (isR.filterMap (fun i => ws[i]?) ++ wf u)[i]?) = (wt u).map some)
    (hlen : As.length = n) (hsize : ls.size = nL) (hst : st0 = As.reverse ++ rest) (hW : 2 * (F0 m pc ls st0).monitorRoom + (rest.map fun v => v.category).sum ≤ 8) (hdg : decode cc pc = .ok (.invokestatic index, 3)) (hcs : cells ≤ R.cells ∧ slots ≤ R.slots)
    (kk : ∀ (r : Int64) (u : S) (H1 : Heap) (locs1 : List Loc), post r u → va_P D cl (wt u) H1 → va_D A (wt u) → va_S A s.heap H1 locs1 → W p l e R s m args below meth c H1 locs1 cells slots Q (F0 m (pc + 3) ls (.long r :: rest))) : W p l e R s m args below meth c H locs cells slots Q (F0 m pc ls st0) := by
  have hPc : va_P D cl wc H := hP.sub isC (k_fm hC)
  have hDc : va_D A wc := hD.sub isC hnd.1 hC
  have hFc := va_free (wc := wc) hD hS hA isC hC
  refine va_calll (va_runS (As := As) (rest := rest) hf (hM H.size) cw ⟨(by intro a U g mk q; obtain ⟨q0, q1, qP, qK, qD, qX⟩ := q; exact ⟨q0, q1, qP, va_K.moved (u := U) (U := U.calling g mk a) (Vm.Alike.refl U.vm) qK, qD, hXc.2.1 _ U (U.calling g mk a) _ rfl qX⟩), fun U hU hW => ⟨rfl, by rw [hU], by rw [hU]; exact hPc, va_K.moved hW.alike hK, hDc.weaken (fun _ _ _ _ => trivial), by rw [hU]; exact hXc.1 _ _ _ _ hW (hXc.2.2.2 _ _ _ _ hFc (hXc.2.2.1 _ _ _ _ hS.2.1 hX))⟩⟩ rfl hlen hsize hst hW hdg ⟨hcs.1, hcs.2⟩) hS (fun q _ h => hFc q h) hFc (fun r u t H1 locs1 ht hvm hw hB hz1 hk1 hS1 => ?_)
  obtain ⟨hP1, hK1, hD1⟩ := hB
  rw [ht] at hP1
  obtain ⟨hP2, hD2⟩ := va_join hP hD isC isR hC hR hnd.2.1 hdis hk1 hFc hP1 hD1
  exact kk r u H1 locs1 hw (hP2.sub isJ (k_fm (hJ u))) (hD2.sub isJ hnd.2.2 (hJ u)) hS1

theorem k_callSNl {S : Type} {post : Int64 → S → Prop} {wf : S → va_W} (wt : S → va_W) (hf : CallFix p m c cc nL s args Ts own) (hM : k_Cl l y wsy rm D cl tys X As wc post wf) (cw : va_CN R s args own index y host bytes maxL ret wsy rm 0 0 n ∧ (Cond.static y).before args s = true ∧ True)
    (hK : va_K D cl tys s) (hP : va_P D cl ws H) (hD : va_D A ws) (hS : va_S A s.heap H locs) (hA : ∀ q, s.heap.size ≤ q → A q) (hXc : k_X X) (hX : X A s s.heap) (isC isR isJ : List Nat) (hC : isC.map (fun i => ws[i]?) = wc.map some) (hR : isR.map (fun i => ws[i]?) = (isR.filterMap (fun i => ws[i]?)).map some) (hnd : va_nd isC = true ∧ va_nd isR = true ∧ va_nd isJ = true) (hdis : ∀ i ∈ isR, i ∉ isC) (hJ : ∀ u, isJ.map (fun i => (isR.filterMap (fun i => ws[i]?) ++ wf u)[i]?) = (wt u).map some)
    (hlen : As.length = n) (hsize : ls.size = nL) (hst : st0 = As.reverse ++ rest) (hW : 2 * (F0 m pc ls st0).monitorRoom + (rest.map fun v => v.category).sum ≤ 8) (hdg : decode cc pc = .ok (.invokestatic index, 3)) (hcs : cells ≤ R.cells ∧ slots ≤ R.slots)
    (kk : ∀ (r : Int64) (u : S) (H1 : Heap) (locs1 : List Loc), post r u → va_P D cl (wt u) H1 → va_D A (wt u) → va_S A s.heap H1 locs1 → W p l e R s m args below meth c H1 locs1 cells slots Q (F0 m (pc + 3) ls (.long r :: rest))) : W p l e R s m args below meth c H locs cells slots Q (F0 m pc ls st0) := by
  have hPc : va_P D cl wc H := hP.sub isC (k_fm hC)
  have hDc : va_D A wc := hD.sub isC hnd.1 hC
  have hFc := va_free (wc := wc) hD hS hA isC hC
  refine va_calll (va_runSN (As := As) (rest := rest) hf (hM H.size) cw ⟨(by intro a U g mk q; obtain ⟨q0, q1, qP, qK, qD, qX⟩ := q; exact ⟨q0, q1, qP, va_K.moved (u := U) (U := U.calling g mk a) (Vm.Alike.refl U.vm) qK, qD, hXc.2.1 _ U (U.calling g mk a) _ rfl qX⟩), fun U hU hW => ⟨rfl, by rw [hU], by rw [hU]; exact hPc, va_K.moved hW.alike hK, hDc.weaken (fun _ _ _ _ => trivial), by rw [hU]; exact hXc.1 _ _ _ _ hW (hXc.2.2.2 _ _ _ _ hFc (hXc.2.2.1 _ _ _ _ hS.2.1 hX))⟩⟩ rfl hlen hsize hst hW hdg ⟨hcs.1, hcs.2⟩) hS (fun q _ h => hFc q h) hFc (fun r u t H1 locs1 ht hvm hw hB hz1 hk1 hS1 => ?_)
  obtain ⟨hP1, hK1, hD1⟩ := hB
  rw [ht] at hP1
  obtain ⟨hP2, hD2⟩ := va_join hP hD isC isR hC hR hnd.2.1 hdis hk1 hFc hP1 hD1
  exact kk r u H1 locs1 hw (hP2.sub isJ (k_fm (hJ u))) (hD2.sub isJ hnd.2.2 (hJ u)) hS1

theorem k_callVv {S : Type} {post : S → Prop} {wf : S → va_W} (wt : S → va_W) (hf : CallFix p m c cc nL s args Ts own) (hM : k_Cv l y wsy rm D cl tys X (.ref b :: As) wc post wf) (cw : CallW R s args own C index y bytes maxL ret wsy rm 0 0 n)
    (hK : va_K D cl tys s) (hP : va_P D cl ws H) (hD : va_D A ws) (hS : va_S A s.heap H locs) (hA : ∀ q, s.heap.size ≤ q → A q) (hXc : k_X X) (hX : X A s s.heap) (isC isR isJ : List Nat) (hC : isC.map (fun i => ws[i]?) = wc.map some) (hR : isR.map (fun i => ws[i]?) = (isR.filterMap (fun i => ws[i]?)).map some) (hnd : va_nd isC = true ∧ va_nd isR = true ∧ va_nd isJ = true) (hdis : ∀ i ∈ isR, i ∉ isC) (hJ : ∀ u, isJ.map (fun i => (isR.filterMap (fun i => ws[i]?) ++ wf u)[i]?) = (wt u).map some) (hrecv : ∃ cell : Cell, H[b]? = some cell ∧ cell.vm.isStatics = false ∧ s.vm.findClass C = some cell.cls)
    (hlen : As.length = n) (hsize : ls.size = nL) (hst : st0 = As.reverse ++ .ref b :: rest) (hW : 2 * (F0 m pc ls st0).monitorRoom + (rest.map fun v => v.category).sum ≤ 8) (hdg : decode cc pc = .ok (.invokevirtual index, 3)) (hcs : cells ≤ R.cells ∧ slots ≤ R.slots)
    (kk : ∀ (u : S) (H1 : Heap) (locs1 : List Loc), post u → va_P D cl (wt u) H1 → va_D A (wt u) → va_S A s.heap H1 locs1 → W p l e R s m args below meth c H1 locs1 cells slots Q (F0 m (pc + 3) ls rest)) : W p l e R s m args below meth c H locs cells slots Q (F0 m pc ls st0) := by
  have hPc : va_P D cl wc H := hP.sub isC (k_fm hC)
  have hDc : va_D A wc := hD.sub isC hnd.1 hC
  have hFc := va_free (wc := wc) hD hS hA isC hC
  refine va_callv (va_runV (As := As) (rest := rest) hf (hM H.size) cw ⟨(by intro a U g mk q; obtain ⟨q0, q1, qP, qK, qD, qX⟩ := q; exact ⟨q0, q1, qP, va_K.moved (u := U) (U := U.calling g mk a) (Vm.Alike.refl U.vm) qK, qD, hXc.2.1 _ U (U.calling g mk a) _ rfl qX⟩), hrecv, fun U hU hW => ⟨rfl, by rw [hU], by rw [hU]; exact hPc, va_K.moved hW.alike hK, hDc.weaken (fun _ _ _ _ => trivial), by rw [hU]; exact hXc.1 _ _ _ _ hW (hXc.2.2.2 _ _ _ _ hFc (hXc.2.2.1 _ _ _ _ hS.2.1 hX))⟩⟩ rfl hlen hsize hst hW hdg ⟨hcs.1, hcs.2⟩) hS (fun q _ h => hFc q h) hFc (fun u t H1 locs1 ht hvm hw hB hz1 hk1 hS1 => ?_)
  obtain ⟨hP1, hK1, hD1⟩ := hB
  rw [ht] at hP1
  obtain ⟨hP2, hD2⟩ := va_join hP hD isC isR hC hR hnd.2.1 hdis hk1 hFc hP1 hD1
  exact kk u H1 locs1 hw (hP2.sub isJ (k_fm (hJ u))) (hD2.sub isJ hnd.2.2 (hJ u)) hS1

theorem k_callVNv {S : Type} {post : S → Prop} {wf : S → va_W} (wt : S → va_W) (hf : CallFix p m c cc nL s args Ts own) (hM : k_Cv l y wsy rm D cl tys X (.ref b :: As) wc post wf) (cw : va_CN R s args own index y host bytes maxL ret wsy rm 0 0 n ∧ (Cond.instanceMethod y).before args s = true ∧ (Cond.selects C y y).before args s = true)
    (hK : va_K D cl tys s) (hP : va_P D cl ws H) (hD : va_D A ws) (hS : va_S A s.heap H locs) (hA : ∀ q, s.heap.size ≤ q → A q) (hXc : k_X X) (hX : X A s s.heap) (isC isR isJ : List Nat) (hC : isC.map (fun i => ws[i]?) = wc.map some) (hR : isR.map (fun i => ws[i]?) = (isR.filterMap (fun i => ws[i]?)).map some) (hnd : va_nd isC = true ∧ va_nd isR = true ∧ va_nd isJ = true) (hdis : ∀ i ∈ isR, i ∉ isC) (hJ : ∀ u, isJ.map (fun i => (isR.filterMap (fun i => ws[i]?) ++ wf u)[i]?) = (wt u).map some) (hrecv : ∃ cell : Cell, H[b]? = some cell ∧ cell.vm.isStatics = false ∧ s.vm.findClass C = some cell.cls)
    (hlen : As.length = n) (hsize : ls.size = nL) (hst : st0 = As.reverse ++ .ref b :: rest) (hW : 2 * (F0 m pc ls st0).monitorRoom + (rest.map fun v => v.category).sum ≤ 8) (hdg : decode cc pc = .ok (.invokevirtual index, 3)) (hcs : cells ≤ R.cells ∧ slots ≤ R.slots)
    (kk : ∀ (u : S) (H1 : Heap) (locs1 : List Loc), post u → va_P D cl (wt u) H1 → va_D A (wt u) → va_S A s.heap H1 locs1 → W p l e R s m args below meth c H1 locs1 cells slots Q (F0 m (pc + 3) ls rest)) : W p l e R s m args below meth c H locs cells slots Q (F0 m pc ls st0) := by
  have hPc : va_P D cl wc H := hP.sub isC (k_fm hC)
  have hDc : va_D A wc := hD.sub isC hnd.1 hC
  have hFc := va_free (wc := wc) hD hS hA isC hC
  refine va_callv (va_runVN (As := As) (rest := rest) hf (hM H.size) cw ⟨(by intro a U g mk q; obtain ⟨q0, q1, qP, qK, qD, qX⟩ := q; exact ⟨q0, q1, qP, va_K.moved (u := U) (U := U.calling g mk a) (Vm.Alike.refl U.vm) qK, qD, hXc.2.1 _ U (U.calling g mk a) _ rfl qX⟩), hrecv, fun U hU hW => ⟨rfl, by rw [hU], by rw [hU]; exact hPc, va_K.moved hW.alike hK, hDc.weaken (fun _ _ _ _ => trivial), by rw [hU]; exact hXc.1 _ _ _ _ hW (hXc.2.2.2 _ _ _ _ hFc (hXc.2.2.1 _ _ _ _ hS.2.1 hX))⟩⟩ rfl hlen hsize hst hW hdg ⟨hcs.1, hcs.2⟩) hS (fun q _ h => hFc q h) hFc (fun u t H1 locs1 ht hvm hw hB hz1 hk1 hS1 => ?_)
  obtain ⟨hP1, hK1, hD1⟩ := hB
  rw [ht] at hP1
  obtain ⟨hP2, hD2⟩ := va_join hP hD isC isR hC hR hnd.2.1 hdis hk1 hFc hP1 hD1
  exact kk u H1 locs1 hw (hP2.sub isJ (k_fm (hJ u))) (hD2.sub isJ hnd.2.2 (hJ u)) hS1

theorem k_callSv {S : Type} {post : S → Prop} {wf : S → va_W} (wt : S → va_W) (hf : CallFix p m c cc nL s args Ts own) (hM : k_Cv l y wsy rm D cl tys X As wc post wf) (cw : CallB R s args own index y bytes maxL ret wsy rm 0 0 n ∧ (Cond.static y).before args s = true)
    (hK : va_K D cl tys s) (hP : va_P D cl ws H) (hD : va_D A ws) (hS : va_S A s.heap H locs) (hA : ∀ q, s.heap.size ≤ q → A q) (hXc : k_X X) (hX : X A s s.heap) (isC isR isJ : List Nat) (hC : isC.map (fun i => ws[i]?) = wc.map some) (hR : isR.map (fun i => ws[i]?) = (isR.filterMap (fun i => ws[i]?)).map some) (hnd : va_nd isC = true ∧ va_nd isR = true ∧ va_nd isJ = true) (hdis : ∀ i ∈ isR, i ∉ isC) (hJ : ∀ u, isJ.map (fun i => (isR.filterMap (fun i => ws[i]?) ++ wf u)[i]?) = (wt u).map some)
    (hlen : As.length = n) (hsize : ls.size = nL) (hst : st0 = As.reverse ++ rest) (hW : 2 * (F0 m pc ls st0).monitorRoom + (rest.map fun v => v.category).sum ≤ 8) (hdg : decode cc pc = .ok (.invokestatic index, 3)) (hcs : cells ≤ R.cells ∧ slots ≤ R.slots)
    (kk : ∀ (u : S) (H1 : Heap) (locs1 : List Loc), post u → va_P D cl (wt u) H1 → va_D A (wt u) → va_S A s.heap H1 locs1 → W p l e R s m args below meth c H1 locs1 cells slots Q (F0 m (pc + 3) ls rest)) : W p l e R s m args below meth c H locs cells slots Q (F0 m pc ls st0) := by
  have hPc : va_P D cl wc H := hP.sub isC (k_fm hC)
  have hDc : va_D A wc := hD.sub isC hnd.1 hC
  have hFc := va_free (wc := wc) hD hS hA isC hC
  refine va_callv (va_runS (As := As) (rest := rest) hf (hM H.size) cw ⟨(by intro a U g mk q; obtain ⟨q0, q1, qP, qK, qD, qX⟩ := q; exact ⟨q0, q1, qP, va_K.moved (u := U) (U := U.calling g mk a) (Vm.Alike.refl U.vm) qK, qD, hXc.2.1 _ U (U.calling g mk a) _ rfl qX⟩), fun U hU hW => ⟨rfl, by rw [hU], by rw [hU]; exact hPc, va_K.moved hW.alike hK, hDc.weaken (fun _ _ _ _ => trivial), by rw [hU]; exact hXc.1 _ _ _ _ hW (hXc.2.2.2 _ _ _ _ hFc (hXc.2.2.1 _ _ _ _ hS.2.1 hX))⟩⟩ rfl hlen hsize hst hW hdg ⟨hcs.1, hcs.2⟩) hS (fun q _ h => hFc q h) hFc (fun u t H1 locs1 ht hvm hw hB hz1 hk1 hS1 => ?_)
  obtain ⟨hP1, hK1, hD1⟩ := hB
  rw [ht] at hP1
  obtain ⟨hP2, hD2⟩ := va_join hP hD isC isR hC hR hnd.2.1 hdis hk1 hFc hP1 hD1
  exact kk u H1 locs1 hw (hP2.sub isJ (k_fm (hJ u))) (hD2.sub isJ hnd.2.2 (hJ u)) hS1

theorem k_callSNv {S : Type} {post : S → Prop} {wf : S → va_W} (wt : S → va_W) (hf : CallFix p m c cc nL s args Ts own) (hM : k_Cv l y wsy rm D cl tys X As wc post wf) (cw : va_CN R s args own index y host bytes maxL ret wsy rm 0 0 n ∧ (Cond.static y).before args s = true ∧ True)
    (hK : va_K D cl tys s) (hP : va_P D cl ws H) (hD : va_D A ws) (hS : va_S A s.heap H locs) (hA : ∀ q, s.heap.size ≤ q → A q) (hXc : k_X X) (hX : X A s s.heap) (isC isR isJ : List Nat) (hC : isC.map (fun i => ws[i]?) = wc.map some) (hR : isR.map (fun i => ws[i]?) = (isR.filterMap (fun i => ws[i]?)).map some) (hnd : va_nd isC = true ∧ va_nd isR = true ∧ va_nd isJ = true) (hdis : ∀ i ∈ isR, i ∉ isC) (hJ : ∀ u, isJ.map (fun i => (isR.filterMap (fun i => ws[i]?) ++ wf u)[i]?) = (wt u).map some)
    (hlen : As.length = n) (hsize : ls.size = nL) (hst : st0 = As.reverse ++ rest) (hW : 2 * (F0 m pc ls st0).monitorRoom + (rest.map fun v => v.category).sum ≤ 8) (hdg : decode cc pc = .ok (.invokestatic index, 3)) (hcs : cells ≤ R.cells ∧ slots ≤ R.slots)
    (kk : ∀ (u : S) (H1 : Heap) (locs1 : List Loc), post u → va_P D cl (wt u) H1 → va_D A (wt u) → va_S A s.heap H1 locs1 → W p l e R s m args below meth c H1 locs1 cells slots Q (F0 m (pc + 3) ls rest)) : W p l e R s m args below meth c H locs cells slots Q (F0 m pc ls st0) := by
  have hPc : va_P D cl wc H := hP.sub isC (k_fm hC)
  have hDc : va_D A wc := hD.sub isC hnd.1 hC
  have hFc := va_free (wc := wc) hD hS hA isC hC
  refine va_callv (va_runSN (As := As) (rest := rest) hf (hM H.size) cw ⟨(by intro a U g mk q; obtain ⟨q0, q1, qP, qK, qD, qX⟩ := q; exact ⟨q0, q1, qP, va_K.moved (u := U) (U := U.calling g mk a) (Vm.Alike.refl U.vm) qK, qD, hXc.2.1 _ U (U.calling g mk a) _ rfl qX⟩), fun U hU hW => ⟨rfl, by rw [hU], by rw [hU]; exact hPc, va_K.moved hW.alike hK, hDc.weaken (fun _ _ _ _ => trivial), by rw [hU]; exact hXc.1 _ _ _ _ hW (hXc.2.2.2 _ _ _ _ hFc (hXc.2.2.1 _ _ _ _ hS.2.1 hX))⟩⟩ rfl hlen hsize hst hW hdg ⟨hcs.1, hcs.2⟩) hS (fun q _ h => hFc q h) hFc (fun u t H1 locs1 ht hvm hw hB hz1 hk1 hS1 => ?_)
  obtain ⟨hP1, hK1, hD1⟩ := hB
  rw [ht] at hP1
  obtain ⟨hP2, hD2⟩ := va_join hP hD isC isR hC hR hnd.2.1 hdis hk1 hFc hP1 hD1
  exact kk u H1 locs1 hw (hP2.sub isJ (k_fm (hJ u))) (hD2.sub isJ hnd.2.2 (hJ u)) hS1

end KCALL


abbrev TYm (ck : Nat → ClassId) : List (ClassId × FieldType) := [(ck 0, .byte), (ck 1, .int), (ck 2, .int), (ck 3, .boolean), (ck 4, .long), (ck 5, .boolean)]
/-- the one String of the class: its bytes -/
abbrev strN : Nat := 25
def strL : List Int32 := [35, 91, 93, 40, 41, 123, 125, 46, 38, 42, 43, 45, 126, 33, 47, 37, 60, 62, 94, 124, 63, 58, 59, 61, 44]
def strB (j : Nat) : Int32 := strL.getD j 0
def XM (sk : Nat → Nat) (A : Nat → Prop) (U : State) (H : Heap) : Prop := vk_R R_W 82 "#[](){}.&*+-~!/%<>^|?:;=," (sk 0) U ∧ vk_S 1 [strN] [strL] (fun _ => sk 0) (fun _ => sk 1) A U H ∧ va_Z "java/lang/String" "COMPACT_STRINGS" "Z" (.int 1) A U H ∧ ∀ w ∈ NW, va_Nw w U
theorem XM_c (sk : Nat → Nat) : k_X (XM sk) := by
  refine ⟨fun A s U H hW h => ⟨h.1.warm hW, h.2.1.moved hW.alike, h.2.2.1.moved hW.alike, NW_warm hW h.2.2.2⟩, fun A u U H hv h => ⟨h.1.same hv, h.2.1.moved (by rw [hv]; exact Vm.Alike.refl _), h.2.2.1.moved (by rw [hv]; exact Vm.Alike.refl _), NW_same hv h.2.2.2⟩, fun A U H H1 hq h => ⟨h.1, h.2.1.kept hq, h.2.2.1.kept hq, h.2.2.2⟩, fun A B U H hAB h => ⟨h.1, h.2.1.narrow hAB, h.2.2.1.narrow hAB, h.2.2.2⟩⟩
