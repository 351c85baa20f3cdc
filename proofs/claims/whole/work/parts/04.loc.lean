/-! LOCALS -/
theorem qx_ld_get : ∀ (ls : List Value) (k : Nat) (v : Value), qx_ld ls k = v → v = .retAddr 0 ∨ ls[k]? = some v
  | [], k, v, h => Or.inl (by rw [← h]; cases k <;> rfl)
  | u :: r, 0, v, h => Or.inr (by rw [← h]; rfl)
  | u :: r, k + 1, v, h => by
    rcases qx_ld_get r k v h with q | q
    · exact Or.inl q
    · exact Or.inr (by rw [List.getElem?_cons_succ]; exact q)
theorem qx_l.at {G : qx_G} {lsA : Array Slot} {n : Nat} {ls : List Value} (h : qx_l G lsA n ls) {k : Nat} {v : Value} (hv : qx_ld ls k = v) (hn : v ≠ .retAddr 0) : lsA[k]? = some (.val (qx_pv G v)) := by
  rcases qx_ld_get ls k v hv with q | q
  · exact absurd q hn
  · rcases h.2.2.2 k v q with q | q
    · exact absurd q hn
    · exact q
def qx_as (G : qx_G) (n : Nat) (ls : List Value) : List (Nat × Value) := (List.range n).filterMap (fun i => match ls[i]? with
  | some v => if v = .retAddr 0 then none else some (i, qx_pv G v)
  | none => none)
theorem qx_as_mem {G : qx_G} {n : Nat} {ls : List Value} (hn : ls.length = n) {i : Nat} {v : Value} (h : ls[i]? = some v) (hv : v ≠ .retAddr 0) : (i, qx_pv G v) ∈ qx_as G n ls := by
  have hi : i < n := by rw [← hn]; exact (List.getElem?_eq_some_iff.mp h).1
  refine List.mem_filterMap.mpr ⟨i, List.mem_range.mpr hi, ?_⟩
  simp [h, hv]
theorem qx_as_inv {G : qx_G} {n : Nat} {ls : List Value} {q : Nat × Value} (h : q ∈ qx_as G n ls) : ∃ v, ls[q.1]? = some v ∧ v ≠ .retAddr 0 ∧ q.2 = qx_pv G v := by
  obtain ⟨i, -, hi⟩ := List.mem_filterMap.mp h
  cases hl : ls[i]? with
  | none => rw [hl] at hi; cases hi
  | some v =>
    rw [hl] at hi
    by_cases hv : v = .retAddr 0
    · simp [hv] at hi
    · simp only [hv, if_false] at hi
      cases hi
      exact ⟨v, hl, hv, rfl⟩
theorem qx_l.has {G : qx_G} {lsA : Array Slot} {n : Nat} {ls : List Value} (h : qx_l G lsA n ls) : lv_has lsA n (qx_as G n ls) := by
  refine ⟨h.1, h.2.1, fun q hq => ?_⟩
  obtain ⟨v, h1, h2, h3⟩ := qx_as_inv hq
  rcases h.2.2.2 q.1 v h1 with z | z
  · exact absurd z h2
  · rw [h3]; exact z
theorem qx_pv_cat (G : qx_G) (v : Value) : (qx_pv G v).category = v.category := by cases v <;> rfl
theorem qx_w_cat (v : Value) (h : qx_w v ≠ .retAddr 0) : qx_w v = v ∧ v.category = 1 := by
  cases v <;> first | exact ⟨rfl, rfl⟩ | exact absurd rfl h
theorem qx_s0_len (ls : List Value) (v : Value) : (qx_s0 ls v).length = ls.length := by cases ls <;> rfl
theorem qx_s1_len : ∀ (ls : List Value) (k : Nat) (v : Value), (qx_s1 ls k v).length = ls.length
  | [], k, v => by cases k <;> rfl
  | u :: r, 0, v => rfl
  | u :: r, 1, v => by show (qx_s0 r v).length + 1 = r.length + 1; rw [qx_s0_len]
  | u :: r, k + 2, v => by show (qx_s1 r (k + 1) v).length + 1 = r.length + 1; rw [qx_s1_len]
theorem qx_s1_get : ∀ (ls : List Value) (k : Nat) (v : Value) (i : Nat) (w : Value), (qx_s1 ls k v)[i]? = some w → (i = k ∧ w = v) ∨ (i + 1 = k ∧ ∃ u, ls[i]? = some u ∧ w = qx_w u) ∨ (i ≠ k ∧ i + 1 ≠ k ∧ ls[i]? = some w)
  | [], k, v, i, w, h => by cases k <;> simp [qx_s1] at h
  | u :: r, 0, v, i, w, h => by
    cases i with
    | zero => simp [qx_s1] at h; exact Or.inl ⟨rfl, h.symm⟩
    | succ i => simp [qx_s1] at h; exact Or.inr (Or.inr ⟨by omega, by omega, by simpa using h⟩)
  | u :: r, 1, v, i, w, h => by
    cases i with
    | zero => simp [qx_s1] at h; exact Or.inr (Or.inl ⟨rfl, u, rfl, h.symm⟩)
    | succ i =>
      simp only [qx_s1, List.getElem?_cons_succ] at h
      cases r with
      | nil => simp [qx_s0] at h
      | cons x r =>
        cases i with
        | zero => simp [qx_s0] at h; exact Or.inl ⟨rfl, h.symm⟩
        | succ i => simp [qx_s0] at h; exact Or.inr (Or.inr ⟨by omega, by omega, by simpa using h⟩)
  | u :: r, k + 2, v, i, w, h => by
    cases i with
    | zero => simp [qx_s1] at h; exact Or.inr (Or.inr ⟨by omega, by omega, by simpa using h⟩)
    | succ i =>
      simp only [qx_s1, List.getElem?_cons_succ] at h
      rcases qx_s1_get r (k + 1) v i w h with ⟨a, b⟩ | ⟨a, y, b, c⟩ | ⟨a, b, c⟩
      · exact Or.inl ⟨by omega, b⟩
      · exact Or.inr (Or.inl ⟨by omega, y, by simpa using b, c⟩)
      · exact Or.inr (Or.inr ⟨by omega, by omega, by simpa using c⟩)
theorem qx_l.s1 {G : qx_G} {lsA lsB : Array Slot} {n : Nat} {ls : List Value} (h : qx_l G lsA n ls) {k : Nat} {v : Value} (hB : lv_has lsB n ((k, qx_pv G v) :: (qx_as G n ls).filter (fun q => !(q.1 == k) && !(q.1 + 1 == k && q.2.category == 2)))) : qx_l G lsB n (qx_s1 ls k v) := by
  refine ⟨hB.1, hB.2.1, (qx_s1_len ls k v).trans h.2.2.1, fun i w hw => ?_⟩
  by_cases hj : w = .retAddr 0
  · exact Or.inl hj
  · right
    rcases qx_s1_get ls k v i w hw with ⟨a, b⟩ | ⟨a, y, b, c⟩ | ⟨a, b, c⟩
    · subst a; subst b
      exact hB.2.2 (i, qx_pv G w) List.mem_cons_self
    · subst c
      obtain ⟨e1, e2⟩ := qx_w_cat y hj
      rw [e1] at hj ⊢
      refine hB.2.2 (i, qx_pv G y) (List.mem_cons_of_mem _ (List.mem_filter.mpr ⟨qx_as_mem h.2.2.1 b hj, ?_⟩))
      have : ¬ i = k := by omega
      simp [this, qx_pv_cat, e2]
    · refine hB.2.2 (i, qx_pv G w) (List.mem_cons_of_mem _ (List.mem_filter.mpr ⟨qx_as_mem h.2.2.1 c hj, ?_⟩))
      simp [a, b]
theorem qx_t0_len (ls : List Value) (v : Value) : (qx_t0 ls v).length = ls.length := by
  match ls with
  | [] => rfl
  | [_] => rfl
  | _ :: _ :: _ => rfl
theorem qx_s2_len : ∀ (ls : List Value) (k : Nat) (v : Value), (qx_s2 ls k v).length = ls.length
  | [], k, v => by cases k <;> rfl
  | u :: r, 0, v => qx_t0_len (u :: r) v
  | u :: r, 1, v => by show (qx_t0 r v).length + 1 = r.length + 1; rw [qx_t0_len]
  | u :: r, k + 2, v => by show (qx_s2 r (k + 1) v).length + 1 = r.length + 1; rw [qx_s2_len]
theorem qx_t0_get (ls : List Value) (v : Value) (i : Nat) (w : Value) (h : (qx_t0 ls v)[i]? = some w) : (i = 0 ∧ w = v) ∨ (w = .retAddr 0) ∨ (i ≠ 0 ∧ i ≠ 1 ∧ ls[i]? = some w) := by
  match ls, i with
  | [], i => simp [qx_t0] at h
  | [x], 0 => simp [qx_t0] at h; exact Or.inl ⟨rfl, h.symm⟩
  | [x], i + 1 => simp [qx_t0] at h
  | x :: y :: r, 0 => simp [qx_t0] at h; exact Or.inl ⟨rfl, h.symm⟩
  | x :: y :: r, 1 => simp [qx_t0] at h; exact Or.inr (Or.inl h.symm)
  | x :: y :: r, i + 2 => simp [qx_t0] at h; exact Or.inr (Or.inr ⟨by omega, by omega, by simpa using h⟩)
theorem qx_s2_get : ∀ (ls : List Value) (k : Nat) (v : Value) (i : Nat) (w : Value), (qx_s2 ls k v)[i]? = some w → (i = k ∧ w = v) ∨ w = .retAddr 0 ∨ (i + 1 = k ∧ ∃ u, ls[i]? = some u ∧ w = qx_w u) ∨ (i ≠ k ∧ i ≠ k + 1 ∧ i + 1 ≠ k ∧ ls[i]? = some w)
  | [], k, v, i, w, h => by cases k <;> simp [qx_s2, qx_t0] at h
  | u :: r, 0, v, i, w, h => by
    rcases qx_t0_get (u :: r) v i w h with ⟨a, b⟩ | a | ⟨a, b, c⟩
    · exact Or.inl ⟨a, b⟩
    · exact Or.inr (Or.inl a)
    · exact Or.inr (Or.inr (Or.inr ⟨a, b, by omega, c⟩))
  | u :: r, 1, v, i, w, h => by
    cases i with
    | zero => simp [qx_s2] at h; exact Or.inr (Or.inr (Or.inl ⟨rfl, u, rfl, h.symm⟩))
    | succ i =>
      simp only [qx_s2, List.getElem?_cons_succ] at h
      rcases qx_t0_get r v i w h with ⟨a, b⟩ | a | ⟨a, b, c⟩
      · exact Or.inl ⟨by omega, b⟩
      · exact Or.inr (Or.inl a)
      · exact Or.inr (Or.inr (Or.inr ⟨by omega, by omega, by omega, by simpa using c⟩))
  | u :: r, k + 2, v, i, w, h => by
    cases i with
    | zero => simp [qx_s2] at h; exact Or.inr (Or.inr (Or.inr ⟨by omega, by omega, by omega, by simpa using h⟩))
    | succ i =>
      simp only [qx_s2, List.getElem?_cons_succ] at h
      rcases qx_s2_get r (k + 1) v i w h with ⟨a, b⟩ | a | ⟨a, y, b, c⟩ | ⟨a, b, c, d⟩
      · exact Or.inl ⟨by omega, b⟩
      · exact Or.inr (Or.inl a)
      · exact Or.inr (Or.inr (Or.inl ⟨by omega, y, by simpa using b, c⟩))
      · exact Or.inr (Or.inr (Or.inr ⟨by omega, by omega, by omega, by simpa using d⟩))
theorem qx_l.s2 {G : qx_G} {lsA lsB : Array Slot} {n : Nat} {ls : List Value} (h : qx_l G lsA n ls) {k : Nat} {v : Value} (hB : lv_has lsB n ((k, qx_pv G v) :: (qx_as G n ls).filter (fun q => !(q.1 == k) && (!(q.1 == k + 1) && !(q.1 + 1 == k && q.2.category == 2))))) : qx_l G lsB n (qx_s2 ls k v) := by
  refine ⟨hB.1, hB.2.1, (qx_s2_len ls k v).trans h.2.2.1, fun i w hw => ?_⟩
  by_cases hj : w = .retAddr 0
  · exact Or.inl hj
  · right
    rcases qx_s2_get ls k v i w hw with ⟨a, b⟩ | a | ⟨a, y, b, c⟩ | ⟨a, b, c, d⟩
    · subst a; subst b
      exact hB.2.2 (i, qx_pv G w) List.mem_cons_self
    · exact absurd a hj
    · subst c
      obtain ⟨e1, e2⟩ := qx_w_cat y hj
      rw [e1] at hj ⊢
      refine hB.2.2 (i, qx_pv G y) (List.mem_cons_of_mem _ (List.mem_filter.mpr ⟨qx_as_mem h.2.2.1 b hj, ?_⟩))
      have h1 : ¬ i = k := by omega
      have h2 : ¬ i = k + 1 := by omega
      simp [h1, h2, qx_pv_cat, e2]
    · refine hB.2.2 (i, qx_pv G w) (List.mem_cons_of_mem _ (List.mem_filter.mpr ⟨qx_as_mem h.2.2.1 d hj, ?_⟩))
      simp [a, b, c]
/-- the locals at a method's entry -/
def qx_ex (as : List Value) : List Value := match as with
  | [] => []
  | v :: r => cond (Nat.beq v.category 2) (v :: .retAddr 0 :: qx_ex r) (v :: qx_ex r)
def qx_pad (n : Nat) (l : List Value) : List Value := match n, l with
  | 0, _ => []
  | n + 1, [] => .retAddr 0 :: qx_pad n []
  | n + 1, v :: r => v :: qx_pad n r
abbrev qx_en (n : Nat) (as : List Value) : List Value := qx_pad n (qx_ex as)
theorem qx_pad_len : ∀ (n : Nat) (l : List Value), (qx_pad n l).length = n
  | 0, l => by cases l <;> rfl
  | n + 1, [] => by show (qx_pad n []).length + 1 = n + 1; rw [qx_pad_len]
  | n + 1, v :: r => by show (qx_pad n r).length + 1 = n + 1; rw [qx_pad_len]
theorem qx_pad_get : ∀ (n : Nat) (l : List Value) (i : Nat) (v : Value), (qx_pad n l)[i]? = some v → v = .retAddr 0 ∨ l[i]? = some v
  | 0, l, i, v, h => by cases l <;> simp [qx_pad] at h
  | n + 1, [], i, v, h => by
    cases i with
    | zero => simp [qx_pad] at h; exact Or.inl h.symm
    | succ i =>
      simp only [qx_pad, List.getElem?_cons_succ] at h
      rcases qx_pad_get n [] i v h with q | q
      · exact Or.inl q
      · simp at q
  | n + 1, u :: r, i, v, h => by
    cases i with
    | zero => simp [qx_pad] at h; exact Or.inr (by simp [h])
    | succ i =>
      simp only [qx_pad, List.getElem?_cons_succ] at h
      rcases qx_pad_get n r i v h with q | q
      · exact Or.inl q
      · exact Or.inr (by rw [List.getElem?_cons_succ]; exact q)
theorem qx_ex_get (G : qx_G) : ∀ (as : List Value) (o i : Nat) (v : Value), (qx_ex as)[i]? = some v → v = .retAddr 0 ∨ (o + i, qx_pv G v) ∈ lv_args o (as.map (qx_pv G))
  | [], o, i, v, h => by simp [qx_ex] at h
  | u :: r, o, i, v, h => by
    simp only [qx_ex] at h
    cases hc : Nat.beq u.category 2 with
    | false =>
      rw [hc] at h
      have hc' : ¬ (qx_pv G u).category = 2 := by
        rw [qx_pv_cat]
        intro z
        rw [z] at hc
        cases hc
      simp only [cond] at h
      cases i with
      | zero =>
        simp at h
        right
        rw [h]
        exact List.mem_cons_self
      | succ i =>
        rw [List.getElem?_cons_succ] at h
        rcases qx_ex_get G r (o + 1) i v h with q | q
        · exact Or.inl q
        · right
          refine List.mem_cons_of_mem _ ?_
          rw [if_neg hc', show o + (i + 1) = o + 1 + i by omega]
          exact q
    | true =>
      rw [hc] at h
      simp only [cond] at h
      have hc' : (qx_pv G u).category = 2 := by
        rw [qx_pv_cat]
        exact Nat.eq_of_beq_eq_true hc
      match i with
      | 0 =>
        simp at h
        right
        rw [h]
        exact List.mem_cons_self
      | 1 => simp at h; exact Or.inl h.symm
      | i + 2 =>
        rw [List.getElem?_cons_succ, List.getElem?_cons_succ] at h
        rcases qx_ex_get G r (o + 2) i v h with q | q
        · exact Or.inl q
        · right
          refine List.mem_cons_of_mem _ ?_
          rw [if_pos hc', show o + (i + 2) = o + 2 + i by omega]
          exact q
theorem qx_en_l {G : qx_G} {lsA : Array Slot} {n : Nat} {as : List Value} (h : lv_has lsA n (lv_args 0 (as.map (qx_pv G)))) : qx_l G lsA n (qx_en n as) := by
  refine ⟨h.1, h.2.1, qx_pad_len n _, fun i v hv => ?_⟩
  rcases qx_pad_get n _ i v hv with q | q
  · exact Or.inl q
  · rcases qx_ex_get G as 0 i v q with z | z
    · exact Or.inl z
    · rw [Nat.zero_add] at z
      exact Or.inr (h.2.2 _ z)
