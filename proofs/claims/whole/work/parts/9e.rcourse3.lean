/-! choices on the course -/
theorem rn_qst {ts : List Tok} {O : Ops} {V : List (Int64 × Int32)} {bz p : Int32} {v : Int64} (hO : tpO O) (hk : cN O + 1 ≤ 60) : rn (.inl 63 :: ts) 0 O ((v, p) :: V) bz = rn ts 1 ((63, -1, if v = 0 then 1 else 0) :: O) V bz := by
  have e : stB 63 O ((v, p) :: V) bz = some (1, (63, -1, if v = 0 then 1 else 0) :: O, V, bz) := by
    unfold stB
    rw [if_neg (by decide), finD_stop (s := f_K_strengthOf 63) hO]
    dsimp only
    rw [if_neg (by decide), if_neg (by decide), if_pos rfl, if_neg (by omega)]
  rw [rn, if_pos rfl]
  show (match stB 63 O ((v, p) :: V) bz with | none => none | some x => rn ts x.1 x.2.1 x.2.2.1 x.2.2.2) = _
  rw [e]
theorem rn_qst0 {ts : List Tok} {O : Ops} {V : List (Int64 × Int32)} {bz p : Int32} {v : Int64} (hO : tpO O) (hk : 60 < cN O + 1) : rn (.inl 63 :: ts) 0 O ((v, p) :: V) bz = none := by
  have e : stB 63 O ((v, p) :: V) bz = none := by
    unfold stB
    rw [if_neg (by decide), finD_stop (s := f_K_strengthOf 63) hO]
    dsimp only
    rw [if_neg (by decide), if_neg (by decide), if_pos rfl, if_pos hk]
  rw [rn, if_pos rfl]
  show (match stB 63 O ((v, p) :: V) bz with | none => none | some x => rn ts x.1 x.2.1 x.2.2.1 x.2.2.2) = _
  rw [e]
theorem rn_col {ts : List Tok} {O : Ops} {V : List (Int64 × Int32)} {bz z : Int32} : rn (.inl 58 :: ts) 0 ((63, -1, z) :: O) V bz = rn ts 1 ((58, 0, if z = 0 then 1 else 0) :: O) V bz := by
  have e : stB 58 ((63, -1, z) :: O) V bz = some (1, (58, 0, if z = 0 then 1 else 0) :: O, V, bz) := by
    unfold stB
    rw [if_neg (by decide), finD_stop (fun o r y => by cases y; exact (show (-1 : Int32) < f_K_strengthOf 58 by decide))]
    rfl
  rw [rn, if_pos rfl]
  show (match stB 58 ((63, -1, z) :: O) V bz with | none => none | some x => rn ts x.1 x.2.1 x.2.2.1 x.2.2.2) = _
  rw [e]
theorem rn_qNo {ts : List Tok} {O : Ops} {V : List (Int64 × Int32)} {d z : Int32} (h : f_K_strengthOf (cdA ts) = 99 ∨ cdA ts = 41) : rn ts 0 ((63, -1, z) :: O) V d = none := by
  cases ts with
  | nil =>
    rw [rn, if_pos rfl, finD_stop (fun o r y => by cases y; exact (show (-1 : Int32) < 0 by decide))]
  | cons t r =>
    have h : f_K_strengthOf (tkC t) = 99 ∨ tkC t = 41 := h
    have e : stB (tkC t) ((63, -1, z) :: O) V d = none := by
      unfold stB
      rcases h with h | h
      · rw [if_pos h]
      · rw [h, if_neg (by decide), finD_stop (fun o r y => by cases y; exact (show (-1 : Int32) < f_K_strengthOf 41 by decide))]
        rfl
    rw [rn, if_pos rfl, e]
theorem rn_popC {ts : List Tok} {O : Ops} {V : List (Int64 × Int32)} {bz z p q : Int32} {c b : Int64} (h : nxC (cdA ts)) : rn ts 0 ((58, 0, z) :: O) ((c, q) :: (b, p) :: V) bz = rn ts 0 O ((if z = 0 then c else b, if p = 0 then (if q = 0 then 0 else 1) else 1) :: V) bz := by
  rw [rn_pop (o := (58, 0, z)) (fun t r y => ?_) (show ¬ (0 : Int32) < 0 by decide)]
  · have e1 : fV (58, 0, z) ((c, q) :: (b, p) :: V) = (if z = 0 then c else b, if p = 0 then (if q = 0 then 0 else 1) else 1) :: V := by
      unfold fV
      rw [if_neg (show ¬ (0 : Int32) = 11 by decide)]
      exact if_pos rfl
    have e2 : fD (58, 0, z) (cS ((58, 0, z) :: O)) ((c, q) :: (b, p) :: V) bz = bz := by
      unfold fD
      exact if_pos (Or.inr rfl)
    rw [e1, e2]
  · rw [y] at h
    have h : nxC (tkC t) := h
    rcases h with h | h | h
    · exact Or.inl h
    · rw [h]
      exact Or.inr (show ¬ (0 : Int32) < f_K_strengthOf 41 by decide)
    · rw [h]
      exact Or.inr (show ¬ (0 : Int32) < f_K_strengthOf 58 by decide)
