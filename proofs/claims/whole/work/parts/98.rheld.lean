/-! the held operators, as a list: number, value, kind; the top first -/
abbrev Hel := List (Nat × Int64 × Int32)
def needH (nd : Int32) : Hel → Prop
  | [] => ¬ nd = 0
  | o :: H => needH nd H ∧ ¬ skJ (nI o.1) o.2.1
/-- the same operators on the class's stacks; c are the class's values -/
def exO : Hel → List Int64 → List (Int32 × Int32 × Int32) → List (Int32 × Int32 × Int32)
  | o :: H, c :: vs, O => (cod (sgn o.1), nI (stN o.1), skR (cod (sgn o.1)) c) :: exO H vs O
  | _, _, O => O
def exV : Hel → List Int64 → List (Int64 × Int32) → List (Int64 × Int32)
  | o :: H, c :: vs, V => (c, o.2.2) :: exV H vs V
  | _, _, V => V
/-- the values agree where they are needed, as long as z -/
def agr (z : Prop) (nd : Int32) : Hel → List Int64 → Prop
  | [], [] => True
  | o :: H, c :: vs => agr z nd H vs ∧ (z → needH nd H → c = o.2.1)
  | _, _ => False
theorem agr_mono {z z' : Prop} {nd : Int32} (h : z' → z) : ∀ (H : Hel) (vs : List Int64), agr z nd H vs → agr z' nd H vs := by
  intro H
  induction H with
  | nil =>
    intro vs a
    cases vs with
    | nil => trivial
    | cons c vs => exact a
  | cons o H ih =>
    intro vs a
    cases vs with
    | nil => exact a
    | cons c vs => exact ⟨ih vs a.1, fun y => a.2 (h y)⟩
/-- the arrays hold H from base to h -/
def rep (sg : Nat → Int32) (hv : Nat → Int64) (hp : Nat → Int32) (base : Nat) : Hel → Nat → Prop
  | [], h => h = base
  | o :: H, h => ∃ h', h = h' + 1 ∧ sg h' = nI o.1 ∧ hv h' = o.2.1 ∧ hp h' = o.2.2 ∧ o.1 < 18 ∧ vz o.2.2 ∧ (∀ p H', H = p :: H' → stN p.1 < stN o.1) ∧ rep sg hv hp base H h'
def tpH : Hel → Nat
  | [] => 0
  | o :: _ => stN o.1
theorem rep_le {sg : Nat → Int32} {hv : Nat → Int64} {hp : Nat → Int32} {base : Nat} : ∀ (H : Hel) (h : Nat), rep sg hv hp base H h → base ≤ h ∧ h ≤ base + tpH H ∧ tpH H ≤ 10 := by
  intro H
  induction H with
  | nil =>
    intro h r
    have r : h = base := r
    exact ⟨by omega, (show h ≤ base + 0 by omega), (show 0 ≤ 10 by omega)⟩
  | cons o H ih =>
    intro h r
    obtain ⟨h', r1, _, _, _, r5, _, r7, r8⟩ := r
    obtain ⟨a, b, _⟩ := ih h' r8
    obtain ⟨_, s1, s2, _⟩ := st_class o.1 r5
    refine ⟨by omega, ?_, s2⟩
    cases H with
    | nil =>
      unfold tpH at b ⊢
      dsimp only at b ⊢
      omega
    | cons p H' =>
      have := r7 p H' rfl
      unfold tpH at b ⊢
      dsimp only at b ⊢
      omega
theorem rep_need {sg : Nat → Int32} {hv : Nat → Int64} {hp : Nat → Int32} {base : Nat} {nd : Int32} : ∀ (H : Hel) (h : Nat), rep sg hv hp base H h → (ndH sg hv base h nd ↔ needH nd H) := by
  intro H
  induction H with
  | nil =>
    intro h r
    have r : h = base := r
    exact ⟨fun z => z.1, fun z => ⟨z, fun j a b => absurd b (by omega)⟩⟩
  | cons o H ih =>
    intro h r
    obtain ⟨h', r1, r2, r3, _, _, _, _, r8⟩ := r
    have le := (rep_le H h' r8).1
    have i := ih h' r8
    subst r1
    constructor
    · intro z
      refine ⟨i.mp ⟨z.1, fun j a b => z.2 j a (by omega)⟩, ?_⟩
      have := z.2 h' le (by omega)
      rw [r2, r3] at this
      exact this
    · intro z
      obtain ⟨a, b⟩ := i.mpr z.1
      refine ⟨a, fun j j1 j2 => ?_⟩
      by_cases e : j = h'
      · rw [e, r2, r3]
        exact z.2
      · exact b j j1 (by omega)
theorem rep_same {sg sg' : Nat → Int32} {hv hv' : Nat → Int64} {hp hp' : Nat → Int32} {base : Nat} : ∀ (H : Hel) (h : Nat), rep sg hv hp base H h → (∀ j, j < h → sg' j = sg j ∧ hv' j = hv j ∧ hp' j = hp j) → rep sg' hv' hp' base H h := by
  intro H
  induction H with
  | nil => intro h r _; exact r
  | cons o H ih =>
    intro h r e
    obtain ⟨h', r1, r2, r3, r4, r5, r6, r7, r8⟩ := r
    obtain ⟨e1, e2, e3⟩ := e h' (by omega)
    exact ⟨h', r1, e1.trans r2, e2.trans r3, e3.trans r4, r5, r6, r7, ih h' r8 (fun j hj => e j (by omega))⟩
theorem rep_push {sg : Nat → Int32} {hv : Nat → Int64} {hp : Nat → Int32} {base h k : Nat} {v : Int64} {p : Int32} {H : Hel} (r : rep sg hv hp base H h) (hk : k < 18) (hz : vz p) (ht : tpH H < stN k) : rep (upd sg h (nI k)) (vp_updL hv h v) (upd hp h p) base ((k, v, p) :: H) (h + 1) := by
  refine ⟨h, rfl, pk_us, pk_uLs, pk_us, hk, hz, fun p H' e => ?_, rep_same H h r (fun j hj => ⟨pk_un (by omega), pk_uLn (by omega), pk_un (by omega)⟩)⟩
  rw [e] at ht
  exact ht
theorem nI_11 {s : Nat} (h1 : 1 ≤ s) (h2 : s ≤ 10) : ¬ nI s = -1 ∧ ¬ nI s = 0 ∧ ¬ nI s = 11 ∧ ¬ nI s < 0 := by
  refine ⟨nI_m1 (by omega), nI_ne0 (by omega) (by omega), fun z => ?_, nI_pos (by omega)⟩
  have := (nI_eq (b := 11) (by omega) (by omega)).mp z
  omega
theorem cN_exO {sg : Nat → Int32} {hv : Nat → Int64} {hp : Nat → Int32} {base : Nat} {O : List (Int32 × Int32 × Int32)} : ∀ (H : Hel) (vs : List Int64) (h : Nat), rep sg hv hp base H h → cN (exO H vs O) = cN O := by
  intro H
  induction H with
  | nil => intro vs h _; cases vs <;> rfl
  | cons o H ih =>
    intro vs h r
    obtain ⟨h', _, _, _, _, r5, _, _, r8⟩ := r
    obtain ⟨_, s1, s2, _⟩ := st_class o.1 r5
    obtain ⟨n1, n2, n3, _⟩ := nI_11 s1 s2
    cases vs with
    | nil => rfl
    | cons c vs =>
      rw [exO, cN, ih vs h' r8, if_neg (fun z => z.elim n1 (fun z => z.elim n2 n3)), Nat.zero_add]
theorem cS_exO {sg : Nat → Int32} {hv : Nat → Int64} {hp : Nat → Int32} {base : Nat} {O : List (Int32 × Int32 × Int32)} {z : Prop} {nd : Int32} (hz : z) (hO : ¬ nd = 0 ↔ cS O = 0) : ∀ (H : Hel) (vs : List Int64) (h : Nat), rep sg hv hp base H h → agr z nd H vs → (needH nd H ↔ cS (exO H vs O) = 0) := by
  intro H
  induction H with
  | nil =>
    intro vs h _ a
    cases vs with
    | nil => exact hO
    | cons c vs => exact a.elim
  | cons o H ih =>
    intro vs h r a
    obtain ⟨h', _, _, _, _, r5, _, _, r8⟩ := r
    cases vs with
    | nil => exact a.elim
    | cons c vs =>
      have i := ih vs h' r8 a.1
      have sk := skR_eq r5 c
      rw [exO]
      constructor
      · intro y
        have e := a.2 hz y.1
        have y2 := y.2
        rw [← e] at y2
        rw [cS_out (sk.mpr y2)]
        exact i.mp y.1
      · intro y
        by_cases c1 : skR (cod (sgn o.1)) c = 0
        · rw [cS_out c1] at y
          have y1 := i.mpr y
          refine ⟨y1, ?_⟩
          rw [← a.2 hz y1]
          exact sk.mp c1
        · rw [cS_in c1] at y
          exact absurd y (by omega)
theorem pair_sk {k : Nat} (hk : k < 18) {c w w' : Int64} {p : Int32} (h : skJ (nI k) c) : f_S_pair (cod (sgn k)) c w p = f_S_pair (cod (sgn k)) c w' p := by
  obtain ⟨a, b⟩ := skJ_class k hk
  rcases h with ⟨e, h⟩ | ⟨e, h⟩
  · rw [a.mpr e]
    have q : ∀ w, f_S_holds 31868 c w p = 1 := fun w => by
      have hc : ¬ lg_cmp c 0 = 0 := fun z => h ((lg_cmp_eq _ _).mp z)
      unfold f_S_holds
      by_cases c1 : p = 0
      · rw [if_pos c1]
        simp only [if_neg hc]
        rfl
      · rw [if_neg c1]
        simp only [if_neg hc]
        rfl
    have e2 : ∀ w, f_S_pair 31868 c w p = if f_S_holds 31868 c w p = 0 then 0 else 1 := fun w => rfl
    rw [e2, e2, q, q]
  · rw [b.mpr e]
    have q : ∀ w, f_S_holds 9766 c w p = 0 := fun w => by
      have hc : lg_cmp c 0 = 0 := (lg_cmp_eq _ _).mpr h
      unfold f_S_holds
      by_cases c1 : p = 0
      · rw [if_pos c1]
        simp only [if_pos hc]
        rfl
      · rw [if_neg c1]
        simp only [if_pos hc]
        rfl
    have e2 : ∀ w, f_S_pair 9766 c w p = if f_S_holds 9766 c w p = 0 then 0 else 1 := fun w => rfl
    rw [e2, e2, q, q]
