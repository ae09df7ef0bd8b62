/-! what the reference's tokens(), token(), feed and cut answer -/
theorem r_tokens {post : Int32 → Int32 → (Nat → Int32) → (Nat → Int32) → Prop} {st tA tS : Nat → Int32} {n : Nat} {rv : Int64} {ip cn lk bd bz ir rp hd : Int32} (hn : n ≤ 4096) (hb : bys st) (h : ∀ c tA tS, post (nI (tkl (tb st n) n 4096 0).length) c tA tS) : wp_R_tokens post (nI n) rv ip cn lk bd bz ir rp hd st tA tS := by
  unfold wp_R_tokens
  exact r_cutAll hn hb (fun tA tS _ => h _ tA tS)
theorem r_token {post : Int32 → Int32 → (Nat → Int32) → (Nat → Int32) → Prop} {st tA tS : Nat → Int32} {n : Nat} {rv : Int64} {ip cn lk bd bz ir rp hd i w : Int32} (hn : n ≤ 4096) (hb : bys st) (h : ∀ c tA tS, post (tkA (tb st n) n i w) c tA tS) : wp_R_token post (nI n) rv ip cn lk bd bz ir rp hd st tA tS i w := by
  have hlen := tkl_len (st := st) (n := n) 4096 0 (by omega)
  unfold wp_R_token
  refine r_cutAll hn hb (fun tA tS hR => ?_)
  unfold tkA at h
  by_cases w1 : w < 0
  · rw [if_pos w1] at h
    exact br_c (fun _ => h _ _ _) (fun _ => br_c (fun _ => h _ _ _) (fun _ => br_t w1 (h _ _ _)))
  rw [if_neg w1] at h
  by_cases w2 : 2 < w
  · rw [if_pos w2] at h
    exact br_c (fun _ => h _ _ _) (fun _ => br_c (fun _ => h _ _ _) (fun _ => br_f w1 (br_f (Int32.not_le.mpr w2) (h _ _ _))))
  rw [if_neg w2] at h
  by_cases i1 : i < 0
  · rw [if_pos i1] at h
    exact br_t i1 (h _ _ _)
  rw [if_neg i1] at h
  obtain ⟨j, j1, j2⟩ := nI_of i1
  subst j2
  refine br_f i1 (pk_le (tkl (tb st n) n 4096 0).length j (fun c => ?_) (fun c => br_f w1 (br_t (Int32.not_lt.mp w2) ?_)) rfl rfl (by omega) j1)
  · have e : (tkl (tb st n) n 4096 0)[(nI j).toNatClampNeg]? = none := by rw [nI_clamp j1]; exact List.getElem?_eq_none c
    rw [e] at h
    by_cases j4 : nI j < 4096
    · rw [if_pos j4] at h
      exact h _ _ _
    · rw [if_neg j4] at h
      exact h _ _ _
  · obtain ⟨x, hx⟩ : ∃ x, (tkl (tb st n) n 4096 0)[j]? = some x := ⟨_, List.getElem?_eq_getElem c⟩
    have hj4 : nI j < 4096 := nI_lt (b := 4096) (by omega) (by omega)
    rw [if_pos hj4, nI_clamp j1, hx] at h
    dsimp only at h
    obtain ⟨h3, h4⟩ := hR j x hx
    obtain ⟨h1, h2⟩ := tkl_at _ _ x (List.mem_of_getElem? hx)
    have hle := tokE_le (st := st) h1
    rw [← h2] at hle
    have hi := pk_in j 4096 (by omega) rfl
    unfold tkW at h
    refine br_c (fun c1 => ⟨hi, ?_⟩) (fun c1 => br_c (fun c2 => ⟨hi, ?_⟩) (fun c2 => ?_))
    · rw [if_pos c1] at h
      rw [nI_clamp j1, h3]
      exact h _ _ _
    · rw [if_neg c1, if_pos c2, pk_sub (by omega)] at h
      rw [nI_clamp j1, h4]
      exact h _ _ _
    · rw [if_neg c1, if_neg c2] at h
      exact r_kindOf hn hR hx (h _ _ _)
theorem lo_eq (x : BitVec 64) {k : Nat} (hk : k ≤ 56) : ((x.sshiftRight k).signExtend 32).signExtend 8 = ((x >>> k).signExtend 32).signExtend 8 := by
  apply BitVec.eq_of_getLsbD_eq
  intro i hi
  simp only [BitVec.getLsbD_signExtend, BitVec.getLsbD_sshiftRight, BitVec.getLsbD_ushiftRight]
  have h1 : i < 8 := hi
  have h2 : ¬ 64 ≤ i := by omega
  have h3 : k + i < 64 := by omega
  have h4 : i < 32 := by omega
  have h5 : i < 64 := by omega
  simp [h1, h2, h3, h4, h5]
theorem sh_cnt : ∀ j, j < 8 → (((8 * nI j).toInt64 &&& 63).toBitVec.smod 64).toNat = 8 * j ∧ ((8 * nI j).toInt64.toUInt64 &&& Int64.toUInt64 63).toBitVec.toNat % 64 = 8 * j := by decide +kernel
theorem by_eq (x : Int64) {j : Nat} (hj : j < 8) : vp_nar .byte (((x >>> ((8 * nI j).toInt64 &&& 63)).toInt32).toInt8.toInt32) = byB x j := by
  obtain ⟨e1, e2⟩ := sh_cnt j hj
  have e : ((x >>> ((8 * nI j).toInt64 &&& 63)).toInt32).toInt8 = (((x.toUInt64 >>> ((8 * nI j).toInt64.toUInt64 &&& Int64.toUInt64 63)).toInt64).toInt32).toInt8 := by
    apply Int8.toBitVec_inj.mp
    have l := lo_eq x.toBitVec (k := 8 * j) (by omega)
    have a1 : (x >>> ((8 * nI j).toInt64 &&& 63)).toBitVec = x.toBitVec.sshiftRight (8 * j) := by
      show x.toBitVec.sshiftRight' _ = _
      unfold BitVec.sshiftRight'
      rw [e1]
    have a2 : ((x.toUInt64 >>> ((8 * nI j).toInt64.toUInt64 &&& Int64.toUInt64 63)).toInt64).toBitVec = x.toBitVec >>> (8 * j) := by
      show x.toBitVec >>> (_ : BitVec 64) = _
      rw [BitVec.ushiftRight_eq']
      show x.toBitVec >>> BitVec.toNat (_ % 64#64) = _
      rw [BitVec.toNat_umod]
      exact congrArg (fun k => x.toBitVec >>> k) e2
    rw [Int32.toBitVec_toInt8, Int32.toBitVec_toInt8, Int64.toBitVec_toInt32, Int64.toBitVec_toInt32, a1, a2]
    exact l
  unfold byB
  rw [e]
theorem r_feedLoop {post : Int32 → Int32 → (Nat → Int32) → Prop} {x : Int64} {row0 : Nat → Int32} {n c : Nat} {rv : Int64} {ip cn lk bd bz ir rp hd : Int32} (hc : c ≤ 8) (hn : n + c ≤ 4096) (h : ∀ row', (∀ j, j < n → row' j = row0 j) → (∀ j, j < c → row' (n + j) = byB x j) → bys row' → post (nI (n + c)) (nI (n + c)) row') : ∀ (d i : Nat) (row : Nat → Int32), i + d = c → (∀ j, j < n → row j = row0 j) → (∀ j, j < i → row (n + j) = byB x j) → bys row → w_R_feed_31 post x (nI c) rv ip cn lk bd bz ir rp hd (d + 1) (nI i) (nI (n + i)) row := by
  intro d
  induction d with
  | zero =>
    intro i row hi h1 h2 h3
    have hi : i = c := hi
    subst hi
    exact br_t (nI_le (Nat.le_refl _) (by omega)) (h row h1 h2 h3)
  | succ d ih =>
    intro i row hi h1 h2 h3
    refine pk_le c i (fun z => absurd z (by omega)) (fun _ => ?_) rfl rfl (by omega) (by omega)
    rw [pk_cl (n + i) rfl (by omega)]
    refine ⟨pk_in (n + i) 4096 (by omega), nm_e (nm_r (nI_1 (n + i)) (nm_r (nI_1 i) ?_))⟩
    rw [by_eq x (by omega)]
    refine ih (i + 1) _ (by omega) (fun j hj => ?_) (fun j hj => ?_) (fun j => ?_)
    · rw [pk_un (by omega)]
      exact h1 j hj
    · by_cases hj2 : j = i
      · subst hj2
        rw [pk_us]
      · rw [pk_un (by omega)]
        exact h2 j (by omega)
    · by_cases hj2 : j = n + i
      · subst hj2
        rw [pk_us]
        unfold byB
        rw [vp_nar_byte]
        exact pk_vb _
      · rw [pk_un hj2]
        exact h3 j
theorem r_feed {post : Int32 → Int32 → (Nat → Int32) → Prop} {rv : Int64} {ip cn lk bd bz ir rp hd : Int32} {row : Nat → Int32} {n : Nat} {x : Int64} {c : Int32} (hn : n ≤ 4096) (hB : bys row) (hb : (c < 1 ∨ ¬ c ≤ 8) → post (-1) (nI n) row) (hf : ∀ k, 1 ≤ k → k ≤ 8 → c = nI k → 4096 < n + k → post (-2) (nI n) row) (hk : ∀ k, 1 ≤ k → k ≤ 8 → c = nI k → n + k ≤ 4096 → ∀ row', (∀ j, j < n → row' j = row j) → (∀ j, j < k → row' (n + j) = byB x j) → bys row' → post (nI (n + k)) (nI (n + k)) row') : wp_R_feed post (nI n) rv ip cn lk bd bz ir rp hd row x c := by
  unfold wp_R_feed
  refine br_c (fun c1 => hb (Or.inl c1)) (fun c1 => br_c (fun c2 => ?_) (fun c2 => hb (Or.inr c2)))
  obtain ⟨k, k1, k2⟩ := nI_of2 (M := 8) (n := 8) rfl (fun z => c1 (Int32.lt_of_lt_of_le z (by decide))) c2
  subst k2
  have k3 : 1 ≤ k := by
    cases k with
    | zero => exact absurd (by decide) c1
    | succ k => omega
  refine pk_le (n + k) 4096 (fun c3 => ?_) (fun c3 => ?_) (nI_add n k) rfl (by omega) (by omega)
  · exact ⟨_, r_feedLoop k1 (by omega) (hk k k3 k1 rfl (by omega)) k 0 row (by omega) (fun _ _ => rfl) (fun j hj => absurd hj (by omega)) hB⟩
  · exact hf k k3 k1 rfl (by omega)
theorem r_cut {post : Int32 → Int32 → Prop} {rv : Int64} {ip cn lk bd bz ir rp hd : Int32} {n : Nat} {c : Int32} (hn : n ≤ 4096) (hb : (c < 0 ∨ ¬ c ≤ nI n) → post (-1) (nI n)) (hk : ∀ k, k ≤ n → c = nI k → post (nI (n - k)) (nI k)) : wp_R_cut post (nI n) rv ip cn lk bd bz ir rp hd c := by
  unfold wp_R_cut
  refine br_c (fun c1 => hb (Or.inl c1)) (fun c1 => br_c (fun c2 => ?_) (fun c2 => hb (Or.inr c2)))
  obtain ⟨k, k1, k2⟩ := nI_of2 (M := nI n) (n := n) (nI_toInt (by omega)) c1 c2
  subst k2
  exact nm_r (pk_sub k1) (hk k k1 rfl)
