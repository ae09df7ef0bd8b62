/-! what the Statement gives of the start: the String constants, the two statics -/
def rpl : List Nat := RS.map (fun r => r.1)
def tmR (i : Nat) : Term := .string R_R (rpl.getD i 0)
abbrev FL : List Cond := flatC (Jvm.Cond.and given_1 narrow_1)
set_option maxRecDepth 100000 in
theorem m_ex : ∀ i, i < 28 → Cond.exactly (tmR i) "java/lang/String" ∈ FL := by decide +kernel
set_option maxRecDepth 100000 in
theorem m_co : ∀ i, i < 28 → Cond.eq (.field (tmR i) "java/lang/String" "coder" "B") (.int 0) ∈ FL := by decide +kernel
set_option maxRecDepth 100000 in
theorem m_ar : ∀ i, i < 28 → Cond.arrayOf (.field (tmR i) "java/lang/String" "value" "[B") .byte ∈ FL := by decide +kernel
set_option maxRecDepth 100000 in
theorem m_le : ∀ i, i < 28 → Cond.eq (.length (.field (tmR i) "java/lang/String" "value" "[B")) (.int (Int32.ofNat (slen i))) ∈ FL := by decide +kernel
set_option maxRecDepth 100000 in
theorem m_el : ∀ i, i < 28 → ∀ j, j < slen i → Cond.eq (.elem (.field (tmR i) "java/lang/String" "value" "[B") (.int (Int32.ofNat j))) (.int (sby i j)) ∈ FL := by decide +kernel
set_option maxRecDepth 100000 in
theorem m_ha : ∀ i, i < 28 → Cond.eq (.field (tmR i) "java/lang/String" "hash" "I") (.int (shs i)) ∈ FL := by decide +kernel
set_option maxRecDepth 100000 in
theorem m_hz : ∀ i, i < 28 → Cond.eq (.field (tmR i) "java/lang/String" "hashIsZero" "Z") (.int (shz i)) ∈ FL := by decide +kernel
theorem m_sl : ∀ i, i < 28 → slen i < 2 ^ 31 := by decide +kernel
theorem m_in : ∀ i, i < 28 → ∀ j, j < 28 → shs i = shs j → i = j := by decide +kernel
set_option maxRecDepth 100000 in
theorem m_rs : ∀ r ∈ RS, tmR r.2.2 = .string R_R r.1 ∧ r.2.2 < 28 := by decide +kernel
def rsi : List Nat := [552, 581, 582, 595, 647, 652, 653, 654, 655, 656, 664, 665, 666, 667, 668, 669, 670, 671, 672, 673, 674, 675, 676, 677, 678, 679, 742, 743]
set_option maxRecDepth 100000 in
theorem m_ri : ∀ i, i < 28 → tables_1[rsi.getD i 0]? = (RS[i]?).map (fun r => Cond.stringRef R_R r.1 r.2.1) := by decide +kernel
theorem m_rw : ∀ r ∈ RS, Cond.stringRef R_R r.1 r.2.1 ∈ lw_tbl := by
  intro r hr
  obtain ⟨i, hi, e⟩ := List.mem_iff_getElem.mp hr
  have hi' : i < 28 := hi
  have e2 := m_ri i hi'
  rw [List.getElem?_eq_getElem (l := RS) hi, e] at e2
  exact List.mem_append_right _ (List.mem_of_getElem? e2)
set_option maxRecDepth 100000 in
theorem n_ex : Cond.exactly (.string R_W 82) "java/lang/String" ∈ FL := by decide +kernel
set_option maxRecDepth 100000 in
theorem n_co : Cond.eq (.field (.string R_W 82) "java/lang/String" "coder" "B") (.int 0) ∈ FL := by decide +kernel
set_option maxRecDepth 100000 in
theorem n_ar : Cond.arrayOf (.field (.string R_W 82) "java/lang/String" "value" "[B") .byte ∈ FL := by decide +kernel
set_option maxRecDepth 100000 in
theorem n_le : Cond.eq (.length (.field (.string R_W 82) "java/lang/String" "value" "[B")) (.int (Int32.ofNat strN)) ∈ FL := by decide +kernel
set_option maxRecDepth 100000 in
theorem n_el : ∀ j, j < strN → Cond.eq (.elem (.field (.string R_W 82) "java/lang/String" "value" "[B") (.int (Int32.ofNat j))) (.int (strL.getD j 0)) ∈ FL := by decide +kernel
set_option maxRecDepth 100000 in
theorem n_cs : Cond.eq (.static "java/lang/String" "COMPACT_STRINGS" "Z") (.int 1) ∈ FL := by decide +kernel
set_option maxRecDepth 100000 in
theorem n_sf : Cond.isRef (.static "jdk/internal/util/Preconditions" "SIOOBE_FORMATTER" "Ljava/util/function/BiFunction;") ∈ FL := by decide +kernel
theorem w_sr : (.stringRef R_W 82 "#[](){}.&*+-~!/%<>^|?:;=,") ∈ lw_tbl := List.mem_append_right _ (List.mem_of_getElem? (i := 233) (by decide +kernel))
set_option maxRecDepth 100000 in
theorem w_l1 : (.laysStatic "java/lang/String" "COMPACT_STRINGS" "Z") ∈ lw_tbl := List.mem_append_right _ (List.mem_of_getElem? (i := 247) (by decide +kernel))
set_option maxRecDepth 100000 in
theorem w_i1 : (.initialized "java/lang/String") ∈ lw_tbl := List.mem_append_right _ (List.mem_of_getElem? (i := 7) (by decide +kernel))
set_option maxRecDepth 100000 in
theorem w_l2 : (.laysStatic "jdk/internal/util/Preconditions" "SIOOBE_FORMATTER" "Ljava/util/function/BiFunction;") ∈ lw_tbl := List.mem_append_right _ (List.mem_of_getElem? (i := 290) (by decide +kernel))
set_option maxRecDepth 100000 in
theorem w_i2 : (.initialized "jdk/internal/util/Preconditions") ∈ lw_tbl := List.mem_append_right _ (List.mem_of_getElem? (i := 11) (by decide +kernel))
def nwi : List Nat := [32, 53, 47, 50, 80, 82, 31, 102, 100, 54, 51, 48, 25]
set_option maxRecDepth 100000 in
theorem m_ni : ∀ i, i < 13 → tables_1[nwi.getD i 0]? = NW[i]? := by decide +kernel
theorem m_nw : ∀ w ∈ NW, w ∈ lw_tbl := by
  intro w hw
  obtain ⟨i, hi, e⟩ := List.mem_iff_getElem.mp hw
  have hi' : i < 13 := hi
  have e2 := m_ni i hi'
  rw [List.getElem?_eq_getElem hi, e] at e2
  exact List.mem_append_right _ (List.mem_of_getElem? e2)
theorem m_no : ∀ w ∈ NW, w.onTables = true := by decide +kernel
theorem of_one {o n d : String} {v w : Value} {t : Nat} {A : Nat → Prop} {U : State} {H : Heap} (h1 : va_OF o n d v t A U H) (h2 : va_OF o n d w t A U H) : v = w := by
  obtain ⟨cf, k, i, f, cell, a1, _, a3, _, a5, _⟩ := h1
  obtain ⟨cf', k', i', f', cell', b1, _, b3, _, b5, _⟩ := h2
  rw [a1] at b1
  cases b1
  rw [a3] at b3
  cases b3
  rw [a5] at b5
  cases b5
  rfl
theorem start_CS {s : State} {b : Nat} {A : Nat → Prop} (hts0 : ∀ w ∈ lw_tbl, w.before #[Value.ref b] s = true) (hgv : (Jvm.Cond.and given_1 narrow_1).before #[Value.ref b] s = true) (hA : ∀ a : Nat, a < s.heap.size → ¬ A a) : va_Z "java/lang/String" "COMPACT_STRINGS" "Z" (.int 1) A s s.heap :=
  va_Zof (hts0 _ w_l1) (hts0 _ w_i1) (va_eqt (flat_of_before _ hgv _ n_cs)) hA
theorem start_XM {s : State} {b : Nat} {A : Nat → Prop} (hts0 : ∀ w ∈ lw_tbl, w.before #[Value.ref b] s = true) (hgv : (Jvm.Cond.and given_1 narrow_1).before #[Value.ref b] s = true) (hA : ∀ a : Nat, a < s.heap.size → ¬ A a) : ∃ sk : Nat → Nat, XM sk A s s.heap := by
  have hs : ∀ c ∈ FL, c.before #[Value.ref b] s = true := flat_of_before _ hgv
  obtain ⟨a, c, cA, kA, q1, q2, q3, q4, q5, q6, -⟩ := Cond.exactly_spec (args := #[Value.ref b]) (first := s) (o := none) (s := s) (idx := []) (t := .string R_W 82) (cls := "java/lang/String") (hs _ n_ex)
  obtain ⟨t, ht, hT⟩ := va_Tof (f := fun j => .int (strL.getD j 0)) (A := A) (N := strN) (by decide) (hs _ n_ar) (va_eqt (hs _ n_le)) (fun j hj => va_eqt (hs _ (n_el j hj))) hA
  refine ⟨fun i => if i = 0 then a else t, vk_R.of (hts0 _ w_sr) q1, ⟨fun i hi => ?_, fun i j hi hj _ => by omega⟩, start_CS hts0 hgv hA, fun w hw => va_Nw.of (m_no w hw) (hts0 w (m_nw w hw))⟩
  have e : i = 0 := by omega
  subst e
  exact ⟨⟨cA, q3, q5, by rw [q6]; exact q2, hA a (Array.getElem?_eq_some_iff.mp q3).1⟩, vk_OFof q1 (va_eqt (hs _ n_co)) hA, vk_OFof q1 ht hA, hT⟩
theorem start_XR {s : State} {b : Nat} {A : Nat → Prop} (hts0 : ∀ w ∈ lw_tbl, w.before #[Value.ref b] s = true) (hgv : (Jvm.Cond.and given_1 narrow_1).before #[Value.ref b] s = true) (hA : ∀ a : Nat, a < s.heap.size → ¬ A a) : ∃ (sa sv : Nat → Nat) (sf : Option Nat), XR sa sv sf A s s.heap := by
  have hs : ∀ c ∈ FL, c.before #[Value.ref b] s = true := flat_of_before _ hgv
  have h0 : ∀ i : Nat, ∃ q : Nat × Nat, i < 28 → (tmR i).eval #[Value.ref b] s none [] s = some (.ref q.1) ∧ st_ok i q.1 q.2 A s s.heap := by
    intro i
    by_cases hi : i < 28
    · obtain ⟨a, c, cA, kA, q1, q2, q3, q4, q5, q6, -⟩ := Cond.exactly_spec (args := #[Value.ref b]) (first := s) (o := none) (s := s) (idx := []) (t := tmR i) (cls := "java/lang/String") (hs _ (m_ex i hi))
      obtain ⟨t, ht, hT⟩ := va_Tof (f := fun j => .int (sby i j)) (A := A) (N := slen i) (m_sl i hi) (hs _ (m_ar i hi)) (va_eqt (hs _ (m_le i hi))) (fun j hj => va_eqt (hs _ (m_el i hi j hj))) hA
      exact ⟨(a, t), fun _ => ⟨q1, ⟨cA, q3, q5, by rw [q6]; exact q2, hA a (Array.getElem?_eq_some_iff.mp q3).1⟩, vk_OFof q1 (va_eqt (hs _ (m_co i hi))) hA, vk_OFof q1 ht hA, hT, vk_OFof q1 (va_eqt (hs _ (m_ha i hi))) hA, vk_OFof q1 (va_eqt (hs _ (m_hz i hi))) hA⟩⟩
    · exact ⟨(0, 0), fun h => absurd h hi⟩
  obtain ⟨ad, had⟩ := Classical.axiomOfChoice h0
  have hr : ∀ r ∈ RS, vk_R R_R r.1 r.2.1 (ad r.2.2).1 s := by
    intro r hr
    obtain ⟨e1, e2⟩ := m_rs r hr
    have q := (had r.2.2 e2).1
    rw [e1] at q
    exact vk_R.of (hts0 _ (m_rw r hr)) q
  have hinj : ∀ i j, i < NS → j < NS → (ad i).1 = (ad j).1 → i = j := by
    intro i j hi hj e
    have a := (had i hi).2.2.2.2.2.1
    have c := (had j hj).2.2.2.2.2.1
    rw [← e] at c
    have z := of_one a c
    refine m_in i hi j hj ?_
    injection z
  rcases va_Zqof (hts0 _ w_l2) (hts0 _ w_i2) (hs _ n_sf) hA with hz | ⟨t, hz⟩
  · exact ⟨fun i => (ad i).1, fun i => (ad i).2, none, hr, fun i hi => (had i hi).2, start_CS hts0 hgv hA, hz, hinj⟩
  · exact ⟨fun i => (ad i).1, fun i => (ad i).2, some t, hr, fun i hi => (had i hi).2, start_CS hts0 hgv hA, hz, hinj⟩
