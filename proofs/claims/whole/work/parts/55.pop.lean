/-! the course: what waits on top may be finished at once, where the next sign finishes it anyhow -/
theorem finD_stop {s : Int32} {O : List (Int32 × Int32 × Int32)} {V : List (Int64 × Int32)} {d : Int32} (h : ∀ o r, O = o :: r → o.2.1 < s) : finD s O V d = (O, V, d) := by
  cases O with
  | nil => rfl
  | cons o r => rw [finD, if_pos (h o r rfl)]
theorem stB_pop {c : Int32} {O : List (Int32 × Int32 × Int32)} {V : List (Int64 × Int32)} {d : Int32} {o : Int32 × Int32 × Int32} (h : f_K_strengthOf c = 99 ∨ ¬ o.2.1 < f_K_strengthOf c) : stB c (o :: O) V d = stB c O (fV o V) (fD o (cS (o :: O)) V d) := by
  unfold stB
  by_cases b : f_K_strengthOf c = 99
  · rw [if_pos b, if_pos b]
  · rw [if_neg b, if_neg b, finD, if_neg (h.resolve_left b)]
theorem rn_pop {ts : List Tok} {O : List (Int32 × Int32 × Int32)} {V : List (Int64 × Int32)} {d : Int32} {o : Int32 × Int32 × Int32} (h : ∀ t r, ts = t :: r → f_K_strengthOf (tkC t) = 99 ∨ ¬ o.2.1 < f_K_strengthOf (tkC t)) (h0 : ¬ o.2.1 < 0) : rn ts 0 (o :: O) V d = rn ts 0 O (fV o V) (fD o (cS (o :: O)) V d) := by
  cases ts with
  | nil => rw [rn, rn, if_pos rfl, if_pos rfl, finD, if_neg h0]
  | cons t r => rw [rn, rn, if_pos rfl, if_pos rfl, stB_pop (h t r rfl)]
