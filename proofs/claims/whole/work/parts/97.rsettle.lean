/-! settle: the last held operator is reckoned -/
/-- whether what stands behind the held operators from base on is needed -/
def ndH (sg : Nat → Int32) (hv : Nat → Int64) (base h : Nat) (nd : Int32) : Prop := ¬ nd = 0 ∧ ∀ j, base ≤ j → j < h → ¬ skJ (sg j) (hv j)
theorem r_need {post : Int32 → Prop} {sg : Nat → Int32} {hv : Nat → Int64} {h base : Nat} {nd rs : Int32} {rv : Int64} {ip cn lk bd bz ir rp : Int32} (hz : vz nd) (hb : base ≤ h) (hh : h ≤ 800) (hp : ∀ x, vz x → (¬ x = 0 ↔ ndH sg hv base h nd) → post x) : wp_R_isNeeded post rs rv ip cn lk bd bz ir rp (nI h) sg hv (nI base) nd := by
  refine r_isNeeded hz hb hh (fun a b => hp 1 (Or.inr rfl) ⟨fun _ => ⟨a, b⟩, fun _ => by decide⟩) (fun a => hp 0 (Or.inl rfl) ⟨fun z => absurd rfl z, fun z => ?_⟩)
  rcases a with a | ⟨j, a, b, c⟩
  · exact absurd a z.1
  · exact absurd c (z.2 j a b)
theorem r_settle {post : Int64 → Int32 → Int32 → Int32 → Prop} {sg : Nat → Int32} {hv : Nat → Int64} {hp : Nat → Int32} {h base k : Nat} {v : Int64} {nd rs : Int32} {rv : Int64} {ip cn lk bd bz ir rp : Int32} (hz : vz nd) (hb : base ≤ h) (hh : h < 800) (hk : k < 18) (hs : sg h = nI k) (h1 : vz (hp h)) (h2 : vz rp) (h3 : vz bz) (hpost : ∀ x, vz x → (¬ x = 0 ↔ ndH sg hv base h nd) → ∀ r, ((cod (sgn k) = 37 ∧ v = 0) ∨ r = f_S_pair (cod (sgn k)) (hv h) v (plP (cod (sgn k)) (hp h) rp)) → post r (if (cod (sgn k) = 47 ∨ cod (sgn k) = 37) ∧ v = 0 ∧ ¬ x = 0 then 1 else bz) (if plP (cod (sgn k)) (hp h) rp = 0 then 0 else (if f_S_isTruth (cod (sgn k)) = 0 then 1 else 0)) (nI h)) : wp_R_settle post rs rv ip cn lk bd bz ir rp (nI (h + 1)) sg hv hp v (nI base) nd := by
  have hi := pk_in h 800 hh rfl
  refine nm_r (nI_pred h) ⟨hi, hi, hi, ?_⟩
  rw [pk_cl h rfl (by omega), hs]
  exact r_need hz hb (by omega) (fun x hx1 hx2 => r_join hk h1 h2 h3 (fun r hr => hpost x hx1 hx2 r hr))
