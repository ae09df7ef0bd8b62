/-! either of the reference -/
theorem r_ePush {W_f : TG} {st tA tS : Nat → Int32} {n k hm i i' base : Nat} {nd bz : Int32} {sg sg0 hp hp0 : Nat → Int32} {hv hv0 : Nat → Int64} {rs : Int32} {rv : Int64} {ip : Int32} {h k1 : Nat} {bz' pl : Int32} {v : Int64} {H : Hel} {J : Int64 → Int32 → Int32 → Int32 → Int32 → Int32 → Int32 → Int32 → (Nat → Int32) → (Nat → Int64) → (Nat → Int32) → Prop} (hn : n ≤ 4096) (hR : tkR (TK (tb st n) n) tA tS) (hm2 : hm ≤ 799) (hb0 : base + 10 ≤ hm) (hz1 : vz nd) (Hf : Sp W_f st tA tS n k hm (fun _ => True) (fun _ => True)) (hk1 : k1 < 18) (hc : cdA (tsA (tb st n) n i') = cod (sgn k1)) (ht : tpH H < stN k1) (hr : rep sg hv hp base H h) (hI : Iv (tb st n) n i i' k nd bz H v bz' pl) (hs : ∀ j, j < base → sg j = sg0 j ∧ hv j = hv0 j ∧ hp j = hp0 j) (JG : ∀ H h v2 i2 bz2 pl2 sg2 hv2 hp2, i' < i2 → Iv (tb st n) n i i2 k nd bz H v2 bz2 pl2 → rep sg2 hv2 hp2 base H h → (∀ j, j < base → sg2 j = sg0 j ∧ hv2 j = hv0 j ∧ hp2 j = hp0 j) → J v2 (opF (cdA (tsA (tb st n) n i2)) 18) (lkA (TK (tb st n) n).length i2) 0 bz2 (nI k) pl2 (nI h) sg2 hv2 hp2) (JB : Bd (tb st n) n i k nd bz tpO → ∀ v2 i2 bz2 ir pl2 hd sg2 hv2 hp2, J v2 (opF (cdA (tsA (tb st n) n i2)) 18) (lkA (TK (tb st n) n).length i2) 1 bz2 ir pl2 hd sg2 hv2 hp2) : vp_in (nI h) 800 ∧ (∀ g1 : Nat → Int32, g1 = upd sg (nI h).toNatClampNeg (nI k1) → (vp_in (nI h) 800 ∧ (∀ g2 : Nat → Int64, g2 = vp_updL hv (nI h).toNatClampNeg v → (vp_in (nI h) 800 ∧ (∀ g3 : Nat → Int32, g3 = upd hp (nI h).toNatClampNeg (vp_nar .boolean pl) → (∀ h2 : Int32, h2 = (nI h + 1) → (wp_R_goOn (fun (lk : Int32) => wp_R_isNeeded (fun (r : Int32) => W_f (fun (a1 : Int64) (a2 a3 a4 a5 a6 a7 : Int32) (b1 : Nat → Int32) (b2 : Nat → Int64) (b3 : Nat → Int32) => wp_R_operatorHere (fun (o : Int32) => J a1 o a2 a3 a4 a5 a6 a7 b1 b2 b3) rs rv ip (nI (TK (tb st n) n).length) a2 a3 a4 a5 a6 a7 st tA tS) rs rv ip (nI (TK (tb st n) n).length) lk 0 bz' (nI k) pl h2 st tA tS g1 g2 g3 r) rs rv ip (nI (TK (tb st n) n).length) lk 0 bz' (nI k) pl h2 g1 g2 (nI base) nd) rs rv ip (nI (TK (tb st n) n).length) (lkA (TK (tb st n) n).length i') 0 bz' (nI k) pl h2))))))) := by
  obtain ⟨l1, l2, l3⟩ := rep_le H h hr
  obtain ⟨_, s1, s2, _⟩ := st_class k1 hk1
  have hN := TK_len (st := st) hn
  have hs4 := sgn_in k1 hk1
  obtain ⟨y, hy, ty⟩ := tk_cd (cod_0 (sgn k1) hs4.1 hs4.2) hc
  have hi : i' < (TK (tb st n) n).length := (List.getElem?_eq_some_iff.mp hy).1
  have pz : vz pl := hI.2.2.1
  have inn : vp_in (nI h) 800 := pk_in h 800 (by omega) rfl
  have hr' := rep_push (v := v) hr hk1 pz ht
  rw [pk_cl h rfl (by omega), nar_z pz]
  refine ⟨inn, nm_e ⟨inn, nm_e ⟨inn, nm_e (nm_r (nI_1 h) (r_goOn hN hi (r_need hz1 (by omega) (by omega) (fun x hx1 hx2 => ?_))))⟩⟩⟩
  have hx := hx2.trans (rep_need _ _ hr')
  refine Hf _ rs rv ip (i' + 1) (h + 1) x bz' pl _ _ _ (by omega) hx1 hI.2.1 (fun v2 i2 bz2 pl2 sg2 hv2 hp2 g2 nl s => r_operatorHere hn hR (JG _ (h + 1) v2 i2 bz2 pl2 sg2 hv2 hp2 nl.2 (Iv_push hr hk1 ht hy ty hx hI g2) (rep_same _ _ hr' s) (fun j hj => ?_))) (fun B v2 i2 bz2 ir pl2 hd sg2 hv2 hp2 => r_operatorHere hn hR (JB (Bd_push hr hk1 ht hy ty hx hI B) _ _ _ _ _ _ _ _ _))
  obtain ⟨e1, e2, e3⟩ := s j (by omega)
  obtain ⟨f1, f2, f3⟩ := hs j hj
  exact ⟨(e1.trans (pk_un (by omega))).trans f1, (e2.trans (pk_uLn (by omega))).trans f2, (e3.trans (pk_un (by omega))).trans f3⟩
theorem r_e29 {W_c W_e W_f : TG} {st tA tS : Nat → Int32} {n k hm i i' base : Nat} {nd bz : Int32} {sg sg0 hp hp0 : Nat → Int32} {hv hv0 : Nat → Int64} {rs : Int32} {rv : Int64} {ip : Int32} {k1 : Nat} {post : Int64 → Int32 → Int32 → Int32 → Int32 → Int32 → Int32 → (Nat → Int32) → (Nat → Int64) → (Nat → Int32) → Prop} {J : Int64 → Int32 → Int32 → Int32 → Int32 → Int32 → Int32 → Int32 → (Nat → Int32) → (Nat → Int64) → (Nat → Int32) → Prop} (hn : n ≤ 4096) (hR : tkR (TK (tb st n) n) tA tS) (hm2 : hm ≤ 799) (hb0 : base + 10 ≤ hm) (hz1 : vz nd) (Hf : Sp W_f st tA tS n k hm (fun _ => True) (fun _ => True)) (hk1 : k1 < 18) (hc : cdA (tsA (tb st n) n i') = cod (sgn k1)) (hs : ∀ j, j < base → sg j = sg0 j ∧ hv j = hv0 j ∧ hp j = hp0 j) (JG : ∀ H h v2 i2 bz2 pl2 sg2 hv2 hp2, i' < i2 → Iv (tb st n) n i i2 k nd bz H v2 bz2 pl2 → rep sg2 hv2 hp2 base H h → (∀ j, j < base → sg2 j = sg0 j ∧ hv2 j = hv0 j ∧ hp2 j = hp0 j) → J v2 (opF (cdA (tsA (tb st n) n i2)) 18) (lkA (TK (tb st n) n).length i2) 0 bz2 (nI k) pl2 (nI h) sg2 hv2 hp2) (JB : Bd (tb st n) n i k nd bz tpO → ∀ v2 i2 bz2 ir pl2 hd sg2 hv2 hp2, J v2 (opF (cdA (tsA (tb st n) n i2)) 18) (lkA (TK (tb st n) n).length i2) 1 bz2 ir pl2 hd sg2 hv2 hp2) : ∀ (H : Hel) (h : Nat) (v : Int64) (bz' pl : Int32), rep sg hv hp base H h → Iv (tb st n) n i i' k nd bz H v bz' pl → w_R_either_29 W_c W_e W_f post J nd (nI base) (nI k1) rs rv ip (nI (TK (tb st n) n).length) (lkA (TK (tb st n) n).length i') 0 (nI k) st tA tS sg hv hp (H.length + 1) v bz' pl (nI h) := by
  intro H
  obtain ⟨_, s1, s2, _⟩ := st_class k1 hk1
  induction H with
  | nil =>
    intro h v bz' pl hr hI
    have hr0 : h = base := hr
    exact br_t (nI_le (Nat.le_of_eq hr0) (by omega)) (r_ePush (H := []) hn hR hm2 hb0 hz1 Hf hk1 hc (show 0 < stN k1 by omega) hr hI hs JG JB)
  | cons o H ih =>
    intro h v bz' pl hr hI
    obtain ⟨k2, v2, p2⟩ := o
    obtain ⟨l1, l2, l3⟩ := rep_le _ h hr
    have hr0 := hr
    obtain ⟨h', r1, r2, r3, r4, r5, r6, r7, r8⟩ := hr0
    have r2 : sg h' = nI k2 := r2
    have r3 : hv h' = v2 := r3
    have r4 : hp h' = p2 := r4
    have r5 : k2 < 18 := r5
    have r6 : vz p2 := r6
    obtain ⟨m1, m2, m3⟩ := rep_le H h' r8
    obtain ⟨_, q1, q2, _⟩ := st_class k2 r5
    subst r1
    have nle : ¬ nI (h' + 1) ≤ nI base := nI_ge (by omega) (by omega)
    refine br_f nle ?_
    rw [nI_pred h', pk_cl h' rfl (by omega), r2]
    refine ⟨pk_in h' 800 (by omega) rfl, r_signOf r5 (r_strength r5 (r_signOf hk1 (r_strength hk1 (pk_lt (stN k2) (stN k1) (fun c => ?_) (fun c => ?_) rfl rfl (by omega) (by omega)))))⟩
    · exact r_ePush (H := (k2, v2, p2) :: H) hn hR hm2 hb0 hz1 Hf hk1 hc c hr hI hs JG JB
    · refine r_settle hz1 m1 (by omega) r5 r2 (by rw [r4]; exact r6) hI.2.2.1 hI.2.1 (fun x hx1 hx2 r hq => ih h' r _ _ r8 ?_)
      rw [r3, r4] at hq
      rw [r4]
      exact Iv_set hr (hx2.trans (rep_need H h' r8)) hq (op_hts hk1 r5 hc c) hI
theorem r_e144 {W_c W_e W_f : TG} {st tA tS : Nat → Int32} {n k hm i i' base : Nat} {nd bz : Int32} {sg sg0 hp hp0 : Nat → Int32} {hv hv0 : Nat → Int64} {rs : Int32} {rv : Int64} {ip : Int32} {post : Int64 → Int32 → Int32 → Int32 → Int32 → Int32 → Int32 → (Nat → Int32) → (Nat → Int64) → (Nat → Int32) → Prop} (hn : n ≤ 4096) (hR : tkR (TK (tb st n) n) tA tS) (hm2 : hm ≤ 799) (hb0 : base + 10 ≤ hm) (hz1 : vz nd) (hnx : nxE (cdA (tsA (tb st n) n i'))) (hle : i ≤ i') (hs : ∀ j, j < base → sg j = sg0 j ∧ hv j = hv0 j ∧ hp j = hp0 j) (hg : ∀ v i' bz' pl sg' hv' hp', Gd (tb st n) n i i' k nd bz tpO v bz' pl → (nxE (cdA (tsA (tb st n) n i')) ∧ i ≤ i') → (∀ j, j < base → sg' j = sg0 j ∧ hv' j = hv0 j ∧ hp' j = hp0 j) → post v (lkA (TK (tb st n) n).length i') 0 bz' (nI k) pl (nI base) sg' hv' hp') : ∀ (H : Hel) (h : Nat) (v : Int64) (bz' pl : Int32), rep sg hv hp base H h → Iv (tb st n) n i i' k nd bz H v bz' pl → w_R_either_144 W_c W_e W_f post nd (nI base) rs rv ip (nI (TK (tb st n) n).length) (lkA (TK (tb st n) n).length i') 0 (nI k) st tA tS sg hv hp (H.length + 1) v bz' pl (nI h) := by
  intro H
  induction H with
  | nil =>
    intro h v bz' pl hr hI
    have hr0 : h = base := hr
    rw [hr0]
    exact br_t (nI_le (Nat.le_refl _) (by omega)) (hg v i' bz' pl sg hv hp (Iv_end hI) ⟨hnx, hle⟩ hs)
  | cons o H ih =>
    intro h v bz' pl hr hI
    obtain ⟨k2, v2, p2⟩ := o
    obtain ⟨l1, l2, l3⟩ := rep_le _ h hr
    have hr0 := hr
    obtain ⟨h', r1, r2, r3, r4, r5, r6, r7, r8⟩ := hr0
    have r2 : sg h' = nI k2 := r2
    have r3 : hv h' = v2 := r3
    have r4 : hp h' = p2 := r4
    have r5 : k2 < 18 := r5
    have r6 : vz p2 := r6
    obtain ⟨m1, m2, m3⟩ := rep_le H h' r8
    obtain ⟨_, q1, q2, _⟩ := st_class k2 r5
    subst r1
    have nle : ¬ nI (h' + 1) ≤ nI base := nI_ge (by omega) (by omega)
    refine br_f nle (br_t rfl (r_settle hz1 m1 (by omega) r5 r2 (by rw [r4]; exact r6) hI.2.2.1 hI.2.1 (fun x hx1 hx2 r hq => br_t rfl (ih h' r _ _ r8 ?_))))
    rw [r3, r4] at hq
    rw [r4]
    exact Iv_set hr (hx2.trans (rep_need H h' r8)) hq (nxE_hts q1 q2 hnx) hI
theorem r_e17b {W_c W_e W_f : TG} {st tA tS : Nat → Int32} {n k i base : Nat} {nd bz : Int32} {rs : Int32} {rv : Int64} {ip : Int32} {post : Int64 → Int32 → Int32 → Int32 → Int32 → Int32 → Int32 → (Nat → Int32) → (Nat → Int64) → (Nat → Int32) → Prop} (hb0 : base ≤ 799) (hb : Bd (tb st n) n i k nd bz tpO → ∀ v i' bz' ir pl hd sg' hv' hp', post v (lkA (TK (tb st n) n).length i') 1 bz' ir pl hd sg' hv' hp') (B : Bd (tb st n) n i k nd bz tpO) (f : Nat) (v : Int64) (x5 : Int32) (j : Nat) (bz' ir pl hd : Int32) (sg : Nat → Int32) (hv : Nat → Int64) (hp : Nat → Int32) : w_R_either_17 W_c W_e W_f post nd (nI base) rs rv ip (nI (TK (tb st n) n).length) st tA tS (f + 1) v x5 (lkA (TK (tb st n) n).length j) 1 bz' ir pl hd sg hv hp := by
  have B := hb B
  exact br_f (by decide) ⟨2, br_c (fun _ => B _ _ _ _ _ _ _ _ _) (fun _ => br_f (by decide) (br_f (by decide) (br_t (nI_le (Nat.le_refl _) (by omega)) (B _ _ _ _ _ _ _ _ _))))⟩
theorem r_e17 {W_c W_e W_f : TG} {st tA tS : Nat → Int32} {n k hm i base : Nat} {nd bz : Int32} {sg0 hp0 : Nat → Int32} {hv0 : Nat → Int64} {rs : Int32} {rv : Int64} {ip : Int32} {post : Int64 → Int32 → Int32 → Int32 → Int32 → Int32 → Int32 → (Nat → Int32) → (Nat → Int64) → (Nat → Int32) → Prop} (hn : n ≤ 4096) (hR : tkR (TK (tb st n) n) tA tS) (hm2 : hm ≤ 799) (hb0 : base + 10 ≤ hm) (hz1 : vz nd) (Hf : Sp W_f st tA tS n k hm (fun _ => True) (fun _ => True)) (hg : ∀ v i' bz' pl sg' hv' hp', Gd (tb st n) n i i' k nd bz tpO v bz' pl → (nxE (cdA (tsA (tb st n) n i')) ∧ i ≤ i') → (∀ j, j < base → sg' j = sg0 j ∧ hv' j = hv0 j ∧ hp' j = hp0 j) → post v (lkA (TK (tb st n) n).length i') 0 bz' (nI k) pl (nI base) sg' hv' hp') (hb : Bd (tb st n) n i k nd bz tpO → ∀ v i' bz' ir pl hd sg' hv' hp', post v (lkA (TK (tb st n) n).length i') 1 bz' ir pl hd sg' hv' hp') : ∀ (f : Nat) (H : Hel) (h : Nat) (v : Int64) (i' : Nat) (bz' pl : Int32) (sg : Nat → Int32) (hv : Nat → Int64) (hp : Nat → Int32), (TK (tb st n) n).length ≤ i' + f → i ≤ i' → Iv (tb st n) n i i' k nd bz H v bz' pl → rep sg hv hp base H h → (∀ j, j < base → sg j = sg0 j ∧ hv j = hv0 j ∧ hp j = hp0 j) → w_R_either_17 W_c W_e W_f post nd (nI base) rs rv ip (nI (TK (tb st n) n).length) st tA tS (f + 1) v (opF (cdA (tsA (tb st n) n i')) 18) (lkA (TK (tb st n) n).length i') 0 bz' (nI k) pl (nI h) sg hv hp := by
  intro f
  induction f with
  | zero =>
    intro H h v i' bz' pl sg hv hp hf hle hI hr hs
    refine br_t rfl (br_c (fun c => ⟨_, r_e144 hn hR hm2 hb0 hz1 (nxE_of c) hle hs hg H h v bz' pl hr hI⟩) (fun c => ?_))
    obtain ⟨k1, hk1, hc, _⟩ := opF_pos 18 c
    have hs4 := sgn_in k1 hk1
    obtain ⟨y, hy, _⟩ := tk_cd (cod_0 (sgn k1) hs4.1 hs4.2) hc
    have hi : i' < (TK (tb st n) n).length := (List.getElem?_eq_some_iff.mp hy).1
    exact absurd hi (by omega)
  | succ f ih =>
    intro H h v i' bz' pl sg hv hp hf hle hI hr hs
    refine br_t rfl (br_c (fun c => ⟨_, r_e144 hn hR hm2 hb0 hz1 (nxE_of c) hle hs hg H h v bz' pl hr hI⟩) (fun c => ?_))
    obtain ⟨k1, hk1, hc, he⟩ := opF_pos 18 c
    rw [he]
    exact ⟨_, r_e29 hn hR hm2 hb0 hz1 Hf hk1 hc hs (fun H h v2 i2 bz2 pl2 sg2 hv2 hp2 h1 h2 h3 h4 => ih H h v2 i2 bz2 pl2 sg2 hv2 hp2 (by omega) (by omega) h2 h3 h4) (fun B v2 i2 bz2 ir pl2 hd sg2 hv2 hp2 => r_e17b (by omega) hb B f _ _ _ _ _ _ _ _ _ _) H h v bz' pl hr hI⟩
theorem r_either {W_c W_e W_f : TG} {st tA tS : Nat → Int32} {n k hm : Nat} (hn : n ≤ 4096) (hR : tkR (TK (tb st n) n) tA tS) (hm2 : hm + 10 ≤ 799) (Hf : Sp W_f st tA tS n k (hm + 10) (fun _ => True) (fun _ => True)) : Sp (wb_R_either W_c W_e W_f) st tA tS n k hm tpO nxE := by
  intro post rs rv ip i h nd bz rp sg hv hp hh hz1 hz2 hg hb
  refine Hf _ rs rv ip i h nd bz rp sg hv hp (by omega) hz1 hz2 (fun v i' bz' pl sg' hv' hp' g nl s => r_operatorHere hn hR ⟨(TK (tb st n) n).length + 1, r_e17 hn hR hm2 (by omega) hz1 Hf hg hb (TK (tb st n) n).length [] h v i' bz' pl sg' hv' hp' (by omega) nl.2 (Iv_0 g) rfl s⟩) (fun B v i' bz' ir pl hd sg' hv' hp' => r_operatorHere hn hR ⟨1, r_e17b (by omega) hb (fun O V h1 h2 _ => B O V h1 h2 trivial) 0 _ _ _ _ _ _ _ _ _ _⟩)
/-! the three together -/
theorem Sp_mono {W : TG} {st tA tS : Nat → Int32} {n k hm hm' : Nat} {tp : Ops → Prop} {nx : Int32 → Prop} (h : hm ≤ hm') (S : Sp W st tA tS n k hm' tp nx) : Sp W st tA tS n k hm tp nx :=
  fun post rs rv ip i h0 nd bz rp sg hv hp hh => S post rs rv ip i h0 nd bz rp sg hv hp (Nat.le_trans hh h)
theorem r_group {st tA tS : Nat → Int32} {n : Nat} (hn : n ≤ 4096) (hR : tkR (TK (tb st n) n) tA tS) : ∀ (d k : Nat), k ≤ 60 → (3 * (60 - k) + 3 ≤ d → Sp (wpG d).1 st tA tS n k (10 * k) tpO nxC) ∧ (3 * (60 - k) + 2 ≤ d → Sp (wpG d).2.1 st tA tS n k (10 * k) tpO nxE) ∧ (3 * (60 - k) + 1 ≤ d → Sp (wpG d).2.2 st tA tS n k (10 * k + 10) (fun _ => True) (fun _ => True)) := by
  intro d
  induction d with
  | zero => intro k hk; exact ⟨fun h => absurd h (by omega), fun h => absurd h (by omega), fun h => absurd h (by omega)⟩
  | succ d ih =>
    intro k hk
    refine ⟨fun h => ?_, fun h => ?_, fun h => ?_⟩
    · exact r_choice hn hR hk ((ih k hk).2.1 (by omega)) (fun c => Sp_mono (by omega) ((ih (k + 1) c).1 (by omega)))
    · exact r_either hn hR (by omega) ((ih k hk).2.2 (by omega))
    · exact r_front hn hR hk (fun c => Sp_mono (by omega) ((ih (k + 1) c).1 (by omega))) (fun c => Sp_mono (by omega) ((ih (k + 1) c).2.2 (by omega)))
