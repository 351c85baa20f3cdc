/-! TEXTS: tests; by recursion, and with a stack of what is open -/
def q_ARc (F : q_P → q_X) (T : q_T) : Nat → q_P → q_X
  | 0, s => .ok s
  | m + 1, s => if q_kd T s.1 = 319 then q_bd (F (q_pas T s)) (fun s' => q_ARc F T m (q_em 100022 s')) else .ok s
def q_AR (F : q_P → q_X) (T : q_T) (s : q_P) : q_X := q_ARc F T (T.1 - s.1) s
def q_ORc (F : q_P → q_X) (T : q_T) : Nat → q_P → q_X
  | 0, s => .ok s
  | m + 1, s => if q_kd T s.1 = 318 then q_bd (F (q_pas T s)) (fun s' => q_bd (q_AR F T s') (fun s'' => q_ORc F T m (q_em 100023 s''))) else .ok s
def q_OR (F : q_P → q_X) (T : q_T) (s : q_P) : q_X := q_ORc F T (T.1 - s.1) s
def q_ts (F : q_P → q_X) (T : q_T) (s : q_P) : q_X := q_bd (F s) (fun s1 => q_bd (q_AR F T s1) (q_OR F T))
/-- behind a bracket -/
def q_cls (T : q_T) (K : q_P → q_X) (s : q_P) : q_X := if q_kd T s.1 = 93 then K (q_pas T s) else .error (1 + 8 * s.1 + 0)
def q_FA (T : q_T) : Nat → q_P → q_X
  | 0, s => if q_kd T s.1 = 91 ∨ q_kd T s.1 = 320 then .error (1 + 8 * s.1 + 2) else q_cmq T s
  | k + 1, s => if q_kd T s.1 = 91 then q_bd (q_ts (q_FA T k) T (q_pas T s)) (q_cls T .ok) else if q_kd T s.1 = 320 then q_bd (q_FA T k (q_pas T s)) (fun s' => .ok (q_em 100021 s')) else q_cmq T s
theorem q_bd_as (x : q_X) (f g : q_P → q_X) : q_bd (q_bd x f) g = q_bd x (fun s => q_bd (f s) g) := by
  cases x <;> rfl
/-- what reads goes on -/
def gF (T : q_T) (F : q_P → q_X) : Prop := ∀ s s', F s = .ok s' → gP T s s'
theorem q_ARc_g {F : q_P → q_X} {T : q_T} (hF : gF T F) : ∀ (m : Nat) (s s' : q_P), q_ARc F T m s = .ok s' → gQ T s s'
  | 0, s, s', h => Or.inl (Except.ok.inj h).symm
  | m + 1, s, s', h => by
    unfold q_ARc at h
    split at h
    · next hk =>
      obtain ⟨s1, h1, h2⟩ := q_bd_ok h
      exact gQ.em (gP.em rfl (by omega) (hF _ _ h1) _).1 (q_ARc_g hF m _ _ h2)
    · exact Or.inl (Except.ok.inj h).symm
theorem q_ARc_m {F : q_P → q_X} {T : q_T} (hF : gF T F) : ∀ (m m' : Nat) (s : q_P), T.1 ≤ s.1 + m → T.1 ≤ s.1 + m' → q_ARc F T m s = q_ARc F T m' s := by
  intro m
  induction m with
  | zero =>
    intro m' s h _
    have e := (q_kd_E (T := T) (s := s.1) (by omega)).1
    cases m' with
    | zero => rfl
    | succ m' =>
      show _ = (if q_kd T s.1 = 319 then _ else _)
      rw [if_neg (by omega)]
      rfl
  | succ m ih =>
    intro m' s h h'
    cases m' with
    | zero =>
      have e := (q_kd_E (T := T) (s := s.1) (by omega)).1
      show (if q_kd T s.1 = 319 then _ else _) = _
      rw [if_neg (by omega)]
      rfl
    | succ m' =>
      unfold q_ARc
      by_cases h1 : q_kd T s.1 = 319
      · rw [if_pos h1, if_pos h1]
        cases hv : F (q_pas T s) with
        | error e => rfl
        | ok s1 =>
          have g := (gP.em rfl (by omega) (hF _ _ hv) 100022).1.1
          exact ih m' _ (by omega) (by omega)
      · rw [if_neg h1, if_neg h1]
theorem q_AR_e {F : q_P → q_X} {T : q_T} {s : q_P} (h : q_kd T s.1 ≠ 319) : q_AR F T s = .ok s := by
  unfold q_AR
  cases T.1 - s.1 with
  | zero => rfl
  | succ m => exact if_neg h
theorem q_AR_s {F : q_P → q_X} {T : q_T} (hF : gF T F) {s : q_P} (h : q_kd T s.1 = 319) : q_AR F T s = q_bd (F (q_pas T s)) (fun s' => q_AR F T (q_em 100022 s')) := by
  have hl := q_kd_lt (T := T) (p := s.1) (by omega)
  have e : q_AR F T s = q_bd (F (q_pas T s)) (fun s' => q_ARc F T (T.1 - s.1 - 1) (q_em 100022 s')) := by
    unfold q_AR
    rw [show T.1 - s.1 = T.1 - s.1 - 1 + 1 by omega]
    exact if_pos h
  rw [e]
  cases hv : F (q_pas T s) with
  | error e => rfl
  | ok s1 =>
    have g := (gP.em rfl (by omega) (hF _ _ hv) 100022).1.1
    exact q_ARc_m hF _ _ _ (by omega) (by omega)
theorem q_AR_g {F : q_P → q_X} {T : q_T} (hF : gF T F) {s s' : q_P} (h : q_AR F T s = .ok s') : gQ T s s' := q_ARc_g hF _ _ _ h
theorem q_orx {F : q_P → q_X} {T : q_T} (hF : gF T F) {s s1 s2 : q_P} (hk : q_kd T s.1 = 318) (h1 : F (q_pas T s) = .ok s1) (h2 : q_AR F T s1 = .ok s2) (c : Nat) : gP T s (q_em c s2) := (gP.em rfl (by omega) ((hF _ _ h1).q (q_AR_g hF h2)) c).1
theorem q_ORc_g {F : q_P → q_X} {T : q_T} (hF : gF T F) : ∀ (m : Nat) (s s' : q_P), q_ORc F T m s = .ok s' → gQ T s s'
  | 0, s, s', h => Or.inl (Except.ok.inj h).symm
  | m + 1, s, s', h => by
    unfold q_ORc at h
    split at h
    · next hk =>
      obtain ⟨s1, h1, h2⟩ := q_bd_ok h
      obtain ⟨s2, h3, h4⟩ := q_bd_ok h2
      exact gQ.em (q_orx hF hk h1 h3 _) (q_ORc_g hF m _ _ h4)
    · exact Or.inl (Except.ok.inj h).symm
theorem q_ORc_m {F : q_P → q_X} {T : q_T} (hF : gF T F) : ∀ (m m' : Nat) (s : q_P), T.1 ≤ s.1 + m → T.1 ≤ s.1 + m' → q_ORc F T m s = q_ORc F T m' s := by
  intro m
  induction m with
  | zero =>
    intro m' s h _
    have e := (q_kd_E (T := T) (s := s.1) (by omega)).1
    cases m' with
    | zero => rfl
    | succ m' =>
      show _ = (if q_kd T s.1 = 318 then _ else _)
      rw [if_neg (by omega)]
      rfl
  | succ m ih =>
    intro m' s h h'
    cases m' with
    | zero =>
      have e := (q_kd_E (T := T) (s := s.1) (by omega)).1
      show (if q_kd T s.1 = 318 then _ else _) = _
      rw [if_neg (by omega)]
      rfl
    | succ m' =>
      unfold q_ORc
      by_cases h1 : q_kd T s.1 = 318
      · rw [if_pos h1, if_pos h1]
        cases hv : F (q_pas T s) with
        | error e => rfl
        | ok s1 =>
          show q_bd (q_AR F T s1) _ = q_bd (q_AR F T s1) _
          cases hw : q_AR F T s1 with
          | error e => rfl
          | ok s2 =>
            have g := (q_orx hF h1 hv hw 100023).1
            exact ih m' _ (by omega) (by omega)
      · rw [if_neg h1, if_neg h1]
theorem q_OR_e {F : q_P → q_X} {T : q_T} {s : q_P} (h : q_kd T s.1 ≠ 318) : q_OR F T s = .ok s := by
  unfold q_OR
  cases T.1 - s.1 with
  | zero => rfl
  | succ m => exact if_neg h
theorem q_OR_s {F : q_P → q_X} {T : q_T} (hF : gF T F) {s : q_P} (h : q_kd T s.1 = 318) : q_OR F T s = q_bd (F (q_pas T s)) (fun s' => q_bd (q_AR F T s') (fun s'' => q_OR F T (q_em 100023 s''))) := by
  have hl := q_kd_lt (T := T) (p := s.1) (by omega)
  have e : q_OR F T s = q_bd (F (q_pas T s)) (fun s' => q_bd (q_AR F T s') (fun s'' => q_ORc F T (T.1 - s.1 - 1) (q_em 100023 s''))) := by
    unfold q_OR
    rw [show T.1 - s.1 = T.1 - s.1 - 1 + 1 by omega]
    exact if_pos h
  rw [e]
  cases hv : F (q_pas T s) with
  | error e => rfl
  | ok s1 =>
    show q_bd (q_AR F T s1) _ = q_bd (q_AR F T s1) _
    cases hw : q_AR F T s1 with
    | error e => rfl
    | ok s2 =>
      have g := (q_orx hF h hv hw 100023).1
      exact q_ORc_m hF _ _ _ (by omega) (by omega)
theorem q_ts_g {F : q_P → q_X} {T : q_T} (hF : gF T F) {s s' : q_P} (h : q_ts F T s = .ok s') : gP T s s' := by
  obtain ⟨s1, h1, h2⟩ := q_bd_ok h
  obtain ⟨s2, h3, h4⟩ := q_bd_ok h2
  exact ((hF _ _ h1).q (q_AR_g hF h3)).q (q_ORc_g hF _ _ _ h4)
/-- a piece is passed ahead, or behind -/
theorem gP.pas {T : q_T} {s : q_P} (h : q_kd T s.1 ≠ 999) : gP T s (q_pas T s) := by
  have hp := q_nx_gt (q_kd_lt h)
  refine ⟨hp.1, hp.2, q_nx_sk (by have := q_kd_lt h; omega), ?_, Nat.le_refl _, fun _ _ => rfl, Nat.le_refl _, fun z => z⟩
  show s.2.1 + s.1 ≤ s.2.1 + q_nx T s.1
  omega
theorem q_FA_g (T : q_T) : ∀ k, gF T (q_FA T k)
  | 0, s, s', h => by
    unfold q_FA at h
    split at h
    · cases h
    · exact q_cmq_g h
  | k + 1, s, s', h => by
    have ih := q_FA_g T k
    unfold q_FA at h
    split at h
    · next hk =>
      obtain ⟨s1, h1, h2⟩ := q_bd_ok h
      have g1 := (gP.pas (by omega)).tr (q_ts_g ih h1)
      unfold q_cls at h2
      split at h2
      · next hk2 =>
        have e := (Except.ok.inj h2).symm
        rw [e]
        exact g1.tr (gP.pas (by omega))
      · cases h2
    · split at h
      · next hk =>
        obtain ⟨s1, h1, h2⟩ := q_bd_ok h
        have e := (Except.ok.inj h2).symm
        rw [e]
        exact (gP.em rfl (by omega) (ih _ _ h1) _).1
      · exact q_cmq_g h
/-- how deep -/
def q_dp : List Nat → Nat
  | [] => 0
  | x :: st => (if x = 11 ∨ x = 91 then 1 else 0) + q_dp st
abbrev q_Fd (T : q_T) (st : List Nat) : q_P → q_X := q_FA T (10 - q_dp st)
/-- what is still to be read, by what is open: all; without what follows 'and' -/
def q_CC (T : q_T) : List Nat → (q_P → q_X) × (q_P → q_X)
  | [] => (fun s => q_bd (q_AR (q_Fd T []) T s) (q_OR (q_Fd T []) T), q_OR (q_Fd T []) T)
  | x :: st => if x = 91 then (fun s => q_bd (q_AR (q_Fd T (x :: st)) T s) (fun s1 => q_bd (q_OR (q_Fd T (x :: st)) T s1) (q_cls T (q_CC T st).1)), fun s => q_bd (q_OR (q_Fd T (x :: st)) T s) (q_cls T (q_CC T st).1))
    else if x = 13 then (fun s => q_bd (q_AR (q_Fd T st) T s) (fun s1 => (q_CC T st).2 (q_em 100023 s1)), (q_CC T st).2)
    else (fun s => (q_CC T st).1 (q_em (100010 + x) s), (q_CC T st).2)
abbrev q_C (T : q_T) (st : List Nat) : q_P → q_X := (q_CC T st).1
/-- what may stand above what -/
def q_tp (st : List Nat) : Nat := st.headD 91
def wS : List Nat → Prop
  | [] => True
  | x :: st => wS st ∧ (x = 11 ∨ x = 12 ∨ x = 13 ∨ x = 91) ∧ (x = 13 → q_tp st = 91) ∧ (x = 12 → q_tp st = 91 ∨ q_tp st = 13)
theorem q_C_n (T : q_T) (st : List Nat) (s : q_P) : q_C T (11 :: st) s = q_C T st (q_em 100021 s) := rfl
theorem q_C_a (T : q_T) (st : List Nat) (s : q_P) : q_C T (12 :: st) s = q_C T st (q_em 100022 s) := rfl
theorem q_C_o (T : q_T) (st : List Nat) (s : q_P) : q_C T (13 :: st) s = q_bd (q_AR (q_Fd T st) T s) (fun s1 => (q_CC T st).2 (q_em 100023 s1)) := rfl
theorem q_C_b (T : q_T) (st : List Nat) (s : q_P) : q_C T (91 :: st) s = q_bd (q_AR (q_Fd T (91 :: st)) T s) (fun s1 => q_bd (q_OR (q_Fd T (91 :: st)) T s1) (q_cls T (q_C T st))) := rfl
/-- at a bracket's bottom: all is 'and' parts, then 'or' parts -/
theorem q_C_91 {T : q_T} {st : List Nat} (h : q_tp st = 91) (hw : wS st) (s : q_P) : q_C T st s = q_bd (q_AR (q_Fd T st) T s) (q_CC T st).2 := by
  cases st with
  | nil => rfl
  | cons x st =>
    have h : x = 91 := h
    subst h
    rfl
theorem q_C_o1 {T : q_T} {st : List Nat} (hw : wS (13 :: st)) {s : q_P} (hk : q_kd T s.1 ≠ 319) : q_C T (13 :: st) s = q_C T st (q_em 100023 s) := by
  rw [q_C_o, q_AR_e hk, q_C_91 (hw.2.2.1 rfl) hw.1, q_AR_e (s := q_em 100023 s) hk]
  rfl
theorem q_dp_a {st : List Nat} : q_dp (12 :: st) = q_dp st := by
  show (if (12 : Nat) = 11 ∨ (12 : Nat) = 91 then 1 else 0) + q_dp st = _
  rw [if_neg (by decide)]
  omega
theorem q_dp_o {st : List Nat} : q_dp (13 :: st) = q_dp st := by
  show (if (13 : Nat) = 11 ∨ (13 : Nat) = 91 then 1 else 0) + q_dp st = _
  rw [if_neg (by decide)]
  omega
theorem q_dp_n {st : List Nat} : q_dp (11 :: st) = q_dp st + 1 := by
  show (if (11 : Nat) = 11 ∨ (11 : Nat) = 91 then 1 else 0) + q_dp st = _
  rw [if_pos (by decide)]
  omega
theorem q_dp_b {st : List Nat} : q_dp (91 :: st) = q_dp st + 1 := by
  show (if (91 : Nat) = 11 ∨ (91 : Nat) = 91 then 1 else 0) + q_dp st = _
  rw [if_pos (by decide)]
  omega
/-- 'and' -/
theorem q_C_and {T : q_T} {st : List Nat} (hw : wS st) (h : q_tp st = 91 ∨ q_tp st = 13) {s : q_P} (hk : q_kd T s.1 = 319) : q_C T st s = q_bd (q_Fd T (12 :: st) (q_pas T s)) (q_C T (12 :: st)) := by
  have e : q_Fd T (12 :: st) = q_Fd T st := by unfold q_Fd; rw [q_dp_a]
  rw [e]
  rcases h with h | h
  · rw [q_C_91 h hw, q_AR_s (q_FA_g T _) hk, q_bd_as]
    congr 1
    funext s'
    rw [q_C_a, q_C_91 h hw]
  · cases st with
    | nil => exact absurd h (by decide)
    | cons x st =>
      have h : x = 13 := h
      subst h
      have e2 : q_Fd T (13 :: st) = q_Fd T st := by unfold q_Fd; rw [q_dp_o]
      rw [e2, q_C_o, q_AR_s (q_FA_g T _) hk, q_bd_as]
      congr 1
/-- 'or' -/
theorem q_C_or {T : q_T} {st : List Nat} (hw : wS st) (h : q_tp st = 91) {s : q_P} (hk : q_kd T s.1 = 318) : q_C T st s = q_bd (q_Fd T (13 :: st) (q_pas T s)) (q_C T (13 :: st)) := by
  have e : q_Fd T (13 :: st) = q_Fd T st := by unfold q_Fd; rw [q_dp_o]
  rw [e, q_C_91 h hw, q_AR_e (by omega)]
  cases st with
  | nil =>
    show q_OR _ T s = _
    rw [q_OR_s (q_FA_g T _) hk]
    rfl
  | cons x st =>
    have h : x = 91 := h
    subst h
    show q_bd (q_OR _ T s) _ = _
    rw [q_OR_s (q_FA_g T _) hk, q_bd_as]
    congr 1
    funext s'
    rw [q_bd_as]
    rfl
/-- a fact that opens -/
theorem q_F_not {T : q_T} {st : List Nat} (hd : q_dp st < 10) {s : q_P} (hk : q_kd T s.1 = 320) : q_bd (q_Fd T st s) (q_C T st) = q_bd (q_Fd T (11 :: st) (q_pas T s)) (q_C T (11 :: st)) := by
  have e : q_Fd T st s = q_bd (q_Fd T (11 :: st) (q_pas T s)) (fun s' => .ok (q_em 100021 s')) := by
    unfold q_Fd
    rw [q_dp_n, show 10 - q_dp st = 10 - (q_dp st + 1) + 1 by omega]
    show (if _ then _ else if _ then _ else _) = _
    rw [if_neg (by omega), if_pos hk]
  rw [e, q_bd_as]
  rfl
theorem q_F_br {T : q_T} {st : List Nat} (hd : q_dp st < 10) {s : q_P} (hk : q_kd T s.1 = 91) : q_bd (q_Fd T st s) (q_C T st) = q_bd (q_Fd T (91 :: st) (q_pas T s)) (q_C T (91 :: st)) := by
  have e : q_Fd T st s = q_bd (q_ts (q_Fd T (91 :: st)) T (q_pas T s)) (q_cls T .ok) := by
    unfold q_Fd
    rw [q_dp_b, show 10 - q_dp st = 10 - (q_dp st + 1) + 1 by omega]
    show (if _ then _ else _) = _
    rw [if_pos hk]
  rw [e]
  unfold q_ts
  rw [q_bd_as, q_bd_as]
  congr 1
  funext s'
  rw [q_C_b, q_bd_as]
  congr 1
  funext s''
  congr 1
  funext s3
  unfold q_cls
  split <;> rfl
theorem q_F_deep {T : q_T} {st : List Nat} (hd : 10 ≤ q_dp st) {s : q_P} (hk : q_kd T s.1 = 91 ∨ q_kd T s.1 = 320) : q_Fd T st s = .error (1 + 8 * s.1 + 2) := by
  unfold q_Fd
  rw [show 10 - q_dp st = 0 by omega]
  exact if_pos hk
theorem q_F_cmp {T : q_T} {st : List Nat} {s : q_P} (h1 : q_kd T s.1 ≠ 91) (h2 : q_kd T s.1 ≠ 320) : q_Fd T st s = q_cmq T s := by
  unfold q_Fd
  cases 10 - q_dp st with
  | zero => exact if_neg (by omega)
  | succ k =>
    show (if _ then _ else if _ then _ else _) = _
    rw [if_neg h1, if_neg h2]
/-- what is open is settled -/
def q_sth (x : Nat) : Nat := if x = 13 then 1 else if x = 12 then 2 else if x = 11 then 3 else 0
def q_stl (l : Nat) : List Nat → q_P → List Nat × q_P
  | [], s => ([], s)
  | x :: st, s => if l ≤ q_sth x then q_stl l st (q_em (100010 + x) s) else (x :: st, s)
theorem q_stl_1 (l : Nat) : ∀ (st : List Nat) (s : q_P), (q_stl l st s).2.1 = s.1 ∧ (q_stl l st s).2.2.1 + (q_stl l st s).1.length = s.2.1 + st.length ∧ (q_stl l st s).2.2.2.2 = s.2.2.2 ∧ (wS st → wS (q_stl l st s).1)
  | [], s => ⟨rfl, rfl, rfl, fun z => z⟩
  | x :: st, s => by
    unfold q_stl
    split
    · obtain ⟨a, b, c, d⟩ := q_stl_1 l st (q_em (100010 + x) s)
      refine ⟨a, b.trans ?_, c, fun z => d z.1⟩
      show s.2.1 + 1 + st.length = s.2.1 + (st.length + 1)
      omega
    · exact ⟨rfl, rfl, rfl, fun z => z⟩
/-- settled by 3: what is left to read is the same -/
theorem q_stl_3 {T : q_T} : ∀ (st : List Nat) (s : q_P), wS st → q_C T (q_stl 3 st s).1 (q_stl 3 st s).2 = q_C T st s ∧ (q_stl 3 st s).1.headD 91 ≠ 11
  | [], s, _ => ⟨rfl, show (91 : Nat) ≠ 11 by decide⟩
  | x :: st, s, hw => by
    unfold q_stl
    by_cases hx : x = 11
    · subst hx
      rw [if_pos (by decide)]
      obtain ⟨a, b⟩ := q_stl_3 (T := T) st (q_em (100010 + 11) s) hw.1
      exact ⟨a.trans (q_C_n T st s).symm, b⟩
    · have : ¬ 3 ≤ q_sth x := by
        unfold q_sth
        rcases hw.2.1 with e | e | e | e
        · exact absurd e hx
        · rw [e]; decide
        · rw [e]; decide
        · rw [e]; decide
      rw [if_neg this]
      exact ⟨rfl, hx⟩
/-- settled by 1, where no 'and' stands -/
theorem q_stl_all {T : q_T} : ∀ (st : List Nat) (s : q_P), wS st → q_kd T s.1 ≠ 319 → q_C T (q_stl 1 st s).1 (q_stl 1 st s).2 = q_C T st s ∧ q_tp (q_stl 1 st s).1 = 91 ∧ (91 ∈ st → ∃ st', (q_stl 1 st s).1 = 91 :: st') ∧ (91 ∉ st → (q_stl 1 st s).1 = [])
  | [], s, _, _ => ⟨rfl, rfl, fun z => absurd z (by simp), fun _ => rfl⟩
  | x :: st, s, hw, hk => by
    have hw' := hw
    obtain ⟨w1, w2, w3, w4⟩ := hw
    unfold q_stl
    by_cases hx : x = 91
    · subst hx
      rw [if_neg (by decide)]
      exact ⟨rfl, rfl, fun _ => ⟨st, rfl⟩, fun z => absurd (by simp) z⟩
    · have h1 : 1 ≤ q_sth x := by
        rcases w2 with e | e | e | e
        · rw [e]; decide
        · rw [e]; decide
        · rw [e]; decide
        · exact absurd e hx
      rw [if_pos h1]
      obtain ⟨a, b, c, d⟩ := q_stl_all (T := T) st (q_em (100010 + x) s) w1 hk
      refine ⟨a.trans ?_, b, fun z => c ?_, fun z => d ?_⟩
      · rcases w2 with e | e | e | e
        · rw [e]; rfl
        · rw [e]; rfl
        · rw [e]
          rw [e] at hw'
          exact (q_C_o1 hw' hk).symm
        · exact absurd e hx
      · rcases List.mem_cons.mp z with e | e
        · exact absurd e.symm hx
        · exact e
      · exact fun y => z (List.mem_cons_of_mem _ y)
/-- settled by 2: no 'not', no 'and' is left above -/
theorem q_stl_2 {T : q_T} : ∀ (st : List Nat) (s : q_P), wS st → q_C T (q_stl 2 st s).1 (q_stl 2 st s).2 = q_C T st s ∧ (q_tp (q_stl 2 st s).1 = 91 ∨ q_tp (q_stl 2 st s).1 = 13)
  | [], s, _ => ⟨rfl, Or.inl rfl⟩
  | x :: st, s, hw => by
    obtain ⟨w1, w2, w3, w4⟩ := hw
    unfold q_stl
    by_cases hx : x = 11 ∨ x = 12
    · have h1 : 2 ≤ q_sth x := by rcases hx with e | e <;> rw [e] <;> decide
      rw [if_pos h1]
      obtain ⟨a, b⟩ := q_stl_2 (T := T) st (q_em (100010 + x) s) w1
      refine ⟨a.trans ?_, b⟩
      rcases hx with e | e <;> rw [e] <;> rfl
    · have h1 : ¬ 2 ≤ q_sth x := by
        rcases w2 with e | e | e | e
        · exact absurd (Or.inl e) hx
        · exact absurd (Or.inr e) hx
        · rw [e]; decide
        · rw [e]; decide
      rw [if_neg h1]
      refine ⟨rfl, ?_⟩
      show x = 91 ∨ x = 13
      omega
/-- emitting and passing -/
theorem q_stl_pas (T : q_T) (l : Nat) : ∀ (st : List Nat) (s : q_P), q_stl l st (q_pas T s) = ((q_stl l st s).1, q_pas T (q_stl l st s).2)
  | [], s => rfl
  | x :: st, s => by
    unfold q_stl
    split
    · exact q_stl_pas T l st (q_em (100010 + x) s)
    · rfl
/-- inside, and nothing that can stand here -/
theorem q_C_in {T : q_T} : ∀ (st : List Nat) (s : q_P), wS st → 91 ∈ st → q_kd T s.1 ≠ 319 → q_kd T s.1 ≠ 318 → q_kd T s.1 ≠ 93 → q_C T st s = .error (1 + 8 * s.1 + 0) := by
  intro st s hw hi h1 h2 h3
  obtain ⟨a, b, c, -⟩ := q_stl_all (T := T) st s hw h1
  obtain ⟨st', e⟩ := c hi
  obtain ⟨y, -⟩ := q_stl_1 1 st s
  rw [← a, e, q_C_b, q_AR_e (by rw [y]; exact h1)]
  show q_bd (q_OR _ T _) _ = _
  rw [q_OR_e (by rw [y]; exact h2)]
  show q_cls T _ _ = _
  unfold q_cls
  rw [y, if_neg h3]
theorem q_C_out {T : q_T} {st : List Nat} {s : q_P} (hw : wS st) (hi : 91 ∉ st) (h1 : q_kd T s.1 ≠ 319) (h2 : q_kd T s.1 ≠ 318) : q_C T st s = .ok (q_stl 1 st s).2 ∧ (q_stl 1 st s).1 = [] := by
  obtain ⟨a, b, -, c⟩ := q_stl_all (T := T) st s hw h1
  have e := c hi
  obtain ⟨y, -⟩ := q_stl_1 1 st s
  refine ⟨?_, e⟩
  rw [← a, e]
  show q_bd (q_AR _ T _) _ = _
  rw [q_AR_e (by rw [y]; exact h1)]
  exact q_OR_e (by rw [y]; exact h2)
/-- a bracket closes -/
theorem q_C_93 {T : q_T} {st : List Nat} {s : q_P} (hk : q_kd T s.1 = 93) : q_C T (91 :: st) s = q_C T st (q_pas T s) := by
  rw [q_C_b, q_AR_e (by omega)]
  show q_bd (q_OR _ T s) _ = _
  rw [q_OR_e (by omega)]
  show q_cls T _ s = _
  unfold q_cls
  rw [if_pos hk]
