/-! TEXTS: sums and tests -/
/-- reading: where, steps so far, the steps, parts made -/
abbrev q_P : Type := Nat × Nat × (Nat → Nat) × Nat
abbrev q_X : Type := Except Nat q_P
def q_em (c : Nat) (s : q_P) : q_P := (s.1, s.2.1 + 1, va_up s.2.2.1 s.2.1 c, s.2.2.2)
def q_pas (T : q_T) (s : q_P) : q_P := (q_nx T s.1, s.2)
/-- one part more -/
def q_mk (T : q_T) (s : q_P) : q_P := (q_nx T s.1, s.2.1, s.2.2.1, s.2.2.2 + 1)
def q_bd (x : q_X) (f : q_P → q_X) : q_X := match x with
  | .error e => .error e
  | .ok s => f s
def q_isv (k : Nat) : Bool := decide (k = 256 ∨ (300 ≤ k ∧ k < 312))
def q_vc (T : q_T) (p : Nat) : Nat := if q_kd T p = 256 then q_nu T p else 100000 + (q_kd T p - 300)
def q_V (T : q_T) (s : q_P) : q_X :=
  if q_kd T s.1 = 257 then .error (1 + 8 * s.1 + 1)
  else if q_isv (q_kd T s.1) = true then (if s.2.2.2 = 60 then .error (1 + 8 * s.1 + 3) else .ok (q_em (q_vc T s.1) (q_mk T s)))
  else .error (1 + 8 * s.1 + 0)
def q_TRc (T : q_T) : Nat → q_P → q_X
  | 0, s => .ok s
  | m + 1, s => if q_kd T s.1 = 42 then q_bd (q_V T (q_pas T s)) (fun s' => q_TRc T m (q_em 100014 s')) else if q_kd T s.1 = 47 then q_bd (q_V T (q_pas T s)) (fun s' => q_TRc T m (q_em 100015 s')) else .ok s
def q_TR (T : q_T) (s : q_P) : q_X := q_TRc T (T.1 - s.1) s
def q_term (T : q_T) (s : q_P) : q_X := q_bd (q_V T s) (q_TR T)
def q_SRc (T : q_T) : Nat → q_P → q_X
  | 0, s => .ok s
  | m + 1, s => if q_kd T s.1 = 43 then q_bd (q_term T (q_pas T s)) (fun s' => q_SRc T m (q_em 100012 s')) else if q_kd T s.1 = 45 then q_bd (q_term T (q_pas T s)) (fun s' => q_SRc T m (q_em 100013 s')) else .ok s
def q_SR (T : q_T) (s : q_P) : q_X := q_SRc T (T.1 - s.1) s
def q_sm (T : q_T) (s : q_P) : q_X := q_bd (q_term T s) (q_SR T)
/-- a sign of comparison -/
def q_cp1 (k : Nat) : Option Nat := if k = 60 then some 100016 else if k = 258 then some 100017 else if k = 61 then some 100018 else if k = 259 then some 100019 else if k = 62 then some 100020 else none
def q_cmq (T : q_T) (s : q_P) : q_X := q_bd (q_sm T s) (fun s1 => match q_cp1 (q_kd T s1.1) with
  | none => .error (1 + 8 * s1.1 + 0)
  | some c => if s1.2.2.2 = 60 then .error (1 + 8 * s1.1 + 3) else q_bd (q_sm T (q_mk T s1)) (fun s2 => .ok (q_em c s2)))
/-- how reading goes on -/
def gP (T : q_T) (s s' : q_P) : Prop := s.1 < s'.1 ∧ s'.1 ≤ T.1 ∧ q_sk T s'.1 = s'.1 ∧ s'.2.1 + s.1 ≤ s.2.1 + s'.1 ∧ s.2.1 ≤ s'.2.1 ∧ (∀ i, i < s.2.1 → s'.2.2.1 i = s.2.2.1 i) ∧ s.2.2.2 ≤ s'.2.2.2 ∧ (s.2.2.2 ≤ 60 → s'.2.2.2 ≤ 60)
theorem q_kd_lt {T : q_T} {p : Nat} (h : q_kd T p ≠ 999) : p < T.1 := by
  rcases Nat.lt_or_ge p T.1 with z | z
  · exact z
  · exact absurd (q_kd_E z).1 h
theorem gP.tr {T : q_T} {a b c : q_P} (h : gP T a b) (k : gP T b c) : gP T a c := by
  obtain ⟨h1, h2, h3, h4, h5, h6, h7, h8⟩ := h
  obtain ⟨k1, k2, k3, k4, k5, k6, k7, k8⟩ := k
  exact ⟨by omega, k2, k3, by omega, by omega, fun i hi => (k6 i (by omega)).trans (h6 i hi), by omega, fun z => k8 (h8 z)⟩
/-- a piece is passed, then a step comes for it -/
theorem gP.em {T : q_T} {s s' : q_P} {q : q_P} (hq : q = q_pas T s) (hk : q_kd T s.1 ≠ 999) (h : gP T q s') (c : Nat) : gP T s (q_em c s') ∧ s'.2.1 + 1 + s.1 ≤ s.2.1 + s'.1 := by
  subst hq
  obtain ⟨h1, h2, h3, h4, h5, h6, h7, h8⟩ := h
  have hp := (q_nx_gt (q_kd_lt hk)).1
  have e1 : (q_pas T s).1 = q_nx T s.1 := rfl
  have e2 : (q_pas T s).2 = s.2 := rfl
  rw [e1] at h1 h4
  rw [e2] at h4 h5 h6 h7 h8
  refine ⟨⟨?_, h2, h3, ?_, ?_, fun i hi => ?_, h7, h8⟩, by omega⟩
  · show s.1 < s'.1; omega
  · show s'.2.1 + 1 + s.1 ≤ s.2.1 + s'.1; omega
  · show s.2.1 ≤ s'.2.1 + 1; omega
  · show va_up s'.2.2.1 s'.2.1 c i = _
    rw [va_up_ne _ _ (by omega)]
    exact h6 i hi
theorem q_V_g {T : q_T} {s s' : q_P} (h : q_V T s = .ok s') : gP T s s' ∧ q_kd T s.1 ≠ 999 ∧ s.2.2.2 ≠ 60 ∧ s' = q_em (q_vc T s.1) (q_mk T s) ∧ q_isv (q_kd T s.1) = true ∧ q_kd T s.1 ≠ 257 := by
  unfold q_V at h
  split at h
  · cases h
  · next h0 =>
    split at h
    · next h1 =>
      split at h
      · cases h
      · next h2 =>
        have hk : q_kd T s.1 ≠ 999 := by
          have := of_decide_eq_true h1
          omega
        have hl := q_kd_lt hk
        have hp := q_nx_gt hl
        have e := (Except.ok.inj h).symm
        refine ⟨?_, hk, h2, e, h1, h0⟩
        rw [e]
        refine ⟨hp.1, hp.2, q_nx_sk (by omega), ?_, Nat.le_succ _, fun i hi => ?_, Nat.le_succ _, fun z => ?_⟩
        · show s.2.1 + 1 + s.1 ≤ s.2.1 + q_nx T s.1; omega
        · show va_up s.2.2.1 s.2.1 _ i = _
          exact va_up_ne _ _ (by omega)
        · show s.2.2.2 + 1 ≤ 60; omega
    · cases h
theorem q_bd_ok {x : q_X} {f : q_P → q_X} {s : q_P} (h : q_bd x f = .ok s) : ∃ s1, x = .ok s1 ∧ f s1 = .ok s := by
  cases x with
  | error e => cases h
  | ok s1 => exact ⟨s1, rfl, h⟩
/-- reading that doesn't go back -/
def gQ (T : q_T) (s s' : q_P) : Prop := s' = s ∨ gP T s s'
theorem gP.q {T : q_T} {a b c : q_P} (h : gP T a b) (k : gQ T b c) : gP T a c := by
  rcases k with e | k
  · rw [e]; exact h
  · exact h.tr k
theorem gQ.em {T : q_T} {s s' c : q_P} {n : Nat} (h : gP T s (q_em n s')) (k : gQ T (q_em n s') c) : gQ T s c := Or.inr (h.q k)
theorem q_TRc_g {T : q_T} : ∀ (m : Nat) (s s' : q_P), q_TRc T m s = .ok s' → gQ T s s'
  | 0, s, s', h => Or.inl (Except.ok.inj h).symm
  | m + 1, s, s', h => by
    unfold q_TRc at h
    split at h
    · next hk =>
      obtain ⟨s1, h1, h2⟩ := q_bd_ok h
      exact gQ.em (gP.em rfl (by omega) (q_V_g h1).1 _).1 (q_TRc_g m _ _ h2)
    · split at h
      · next hk =>
        obtain ⟨s1, h1, h2⟩ := q_bd_ok h
        exact gQ.em (gP.em rfl (by omega) (q_V_g h1).1 _).1 (q_TRc_g m _ _ h2)
      · exact Or.inl (Except.ok.inj h).symm
theorem q_TRc_m {T : q_T} : ∀ (m m' : Nat) (s : q_P), T.1 ≤ s.1 + m → T.1 ≤ s.1 + m' → q_TRc T m s = q_TRc T m' s := by
  intro m
  induction m with
  | zero =>
    intro m' s h _
    have e := (q_kd_E (T := T) (s := s.1) (by omega)).1
    cases m' with
    | zero => rfl
    | succ m' =>
      show _ = (if q_kd T s.1 = 42 then _ else if q_kd T s.1 = 47 then _ else _)
      rw [if_neg (by omega), if_neg (by omega)]
      rfl
  | succ m ih =>
    intro m' s h h'
    cases m' with
    | zero =>
      have e := (q_kd_E (T := T) (s := s.1) (by omega)).1
      show (if q_kd T s.1 = 42 then _ else if q_kd T s.1 = 47 then _ else _) = _
      rw [if_neg (by omega), if_neg (by omega)]
      rfl
    | succ m' =>
      have key : ∀ c, q_kd T s.1 ≠ 999 → q_bd (q_V T (q_pas T s)) (fun s' => q_TRc T m (q_em c s')) = q_bd (q_V T (q_pas T s)) (fun s' => q_TRc T m' (q_em c s')) := by
        intro c hk
        cases hv : q_V T (q_pas T s) with
        | error e => rfl
        | ok s1 =>
          have g := (gP.em rfl hk (q_V_g hv).1 c).1.1
          exact ih m' _ (by omega) (by omega)
      unfold q_TRc
      by_cases h1 : q_kd T s.1 = 42
      · rw [if_pos h1, if_pos h1]; exact key _ (by omega)
      · rw [if_neg h1, if_neg h1]
        by_cases h2 : q_kd T s.1 = 47
        · rw [if_pos h2, if_pos h2]; exact key _ (by omega)
        · rw [if_neg h2, if_neg h2]
theorem q_TR_e {T : q_T} {s : q_P} (h1 : q_kd T s.1 ≠ 42) (h2 : q_kd T s.1 ≠ 47) : q_TR T s = .ok s := by
  unfold q_TR
  cases T.1 - s.1 with
  | zero => rfl
  | succ m =>
    unfold q_TRc
    rw [if_neg h1, if_neg h2]
theorem q_TR_s {T : q_T} {s : q_P} {k c : Nat} (hk : (k = 42 ∧ c = 100014) ∨ (k = 47 ∧ c = 100015)) (h1 : q_kd T s.1 = k) : q_TR T s = q_bd (q_V T (q_pas T s)) (fun s' => q_TR T (q_em c s')) := by
  have hn : q_kd T s.1 ≠ 999 := by omega
  have hl := q_kd_lt hn
  have hf : ∀ s1, q_V T (q_pas T s) = .ok s1 → q_TRc T (T.1 - s.1 - 1) (q_em c s1) = q_TR T (q_em c s1) := by
    intro s1 hv
    have g := (gP.em rfl hn (q_V_g hv).1 c).1.1
    exact q_TRc_m _ _ _ (by omega) (by omega)
  have e : q_TR T s = q_bd (q_V T (q_pas T s)) (fun s' => q_TRc T (T.1 - s.1 - 1) (q_em c s')) := by
    unfold q_TR
    rw [show T.1 - s.1 = T.1 - s.1 - 1 + 1 by omega]
    show (if q_kd T s.1 = 42 then _ else if q_kd T s.1 = 47 then _ else _) = _
    rcases hk with ⟨a, b⟩ | ⟨a, b⟩
    · rw [if_pos (by omega), b]; rfl
    · rw [if_neg (by omega), if_pos (by omega), b]; rfl
  rw [e]
  cases hv : q_V T (q_pas T s) with
  | error e => rfl
  | ok s1 => exact hf s1 hv
theorem q_term_g {T : q_T} {s s' : q_P} (h : q_term T s = .ok s') : gP T s s' := by
  obtain ⟨s1, h1, h2⟩ := q_bd_ok h
  exact (q_V_g h1).1.q (q_TRc_g _ _ _ h2)
theorem q_SRc_g {T : q_T} : ∀ (m : Nat) (s s' : q_P), q_SRc T m s = .ok s' → gQ T s s'
  | 0, s, s', h => Or.inl (Except.ok.inj h).symm
  | m + 1, s, s', h => by
    unfold q_SRc at h
    split at h
    · next hk =>
      obtain ⟨s1, h1, h2⟩ := q_bd_ok h
      exact gQ.em (gP.em rfl (by omega) (q_term_g h1) _).1 (q_SRc_g m _ _ h2)
    · split at h
      · next hk =>
        obtain ⟨s1, h1, h2⟩ := q_bd_ok h
        exact gQ.em (gP.em rfl (by omega) (q_term_g h1) _).1 (q_SRc_g m _ _ h2)
      · exact Or.inl (Except.ok.inj h).symm
theorem q_SRc_m {T : q_T} : ∀ (m m' : Nat) (s : q_P), T.1 ≤ s.1 + m → T.1 ≤ s.1 + m' → q_SRc T m s = q_SRc T m' s := by
  intro m
  induction m with
  | zero =>
    intro m' s h _
    have e := (q_kd_E (T := T) (s := s.1) (by omega)).1
    cases m' with
    | zero => rfl
    | succ m' =>
      show _ = (if q_kd T s.1 = 43 then _ else if q_kd T s.1 = 45 then _ else _)
      rw [if_neg (by omega), if_neg (by omega)]
      rfl
  | succ m ih =>
    intro m' s h h'
    cases m' with
    | zero =>
      have e := (q_kd_E (T := T) (s := s.1) (by omega)).1
      show (if q_kd T s.1 = 43 then _ else if q_kd T s.1 = 45 then _ else _) = _
      rw [if_neg (by omega), if_neg (by omega)]
      rfl
    | succ m' =>
      have key : ∀ c, q_kd T s.1 ≠ 999 → q_bd (q_term T (q_pas T s)) (fun s' => q_SRc T m (q_em c s')) = q_bd (q_term T (q_pas T s)) (fun s' => q_SRc T m' (q_em c s')) := by
        intro c hk
        cases hv : q_term T (q_pas T s) with
        | error e => rfl
        | ok s1 =>
          have g := (gP.em rfl hk (q_term_g hv) c).1.1
          exact ih m' _ (by omega) (by omega)
      unfold q_SRc
      by_cases h1 : q_kd T s.1 = 43
      · rw [if_pos h1, if_pos h1]; exact key _ (by omega)
      · rw [if_neg h1, if_neg h1]
        by_cases h2 : q_kd T s.1 = 45
        · rw [if_pos h2, if_pos h2]; exact key _ (by omega)
        · rw [if_neg h2, if_neg h2]
theorem q_SR_e {T : q_T} {s : q_P} (h1 : q_kd T s.1 ≠ 43) (h2 : q_kd T s.1 ≠ 45) : q_SR T s = .ok s := by
  unfold q_SR
  cases T.1 - s.1 with
  | zero => rfl
  | succ m =>
    unfold q_SRc
    rw [if_neg h1, if_neg h2]
theorem q_SR_s {T : q_T} {s : q_P} {k c : Nat} (hk : (k = 43 ∧ c = 100012) ∨ (k = 45 ∧ c = 100013)) (h1 : q_kd T s.1 = k) : q_SR T s = q_bd (q_term T (q_pas T s)) (fun s' => q_SR T (q_em c s')) := by
  have hn : q_kd T s.1 ≠ 999 := by omega
  have hl := q_kd_lt hn
  have hf : ∀ s1, q_term T (q_pas T s) = .ok s1 → q_SRc T (T.1 - s.1 - 1) (q_em c s1) = q_SR T (q_em c s1) := by
    intro s1 hv
    have g := (gP.em rfl hn (q_term_g hv) c).1.1
    exact q_SRc_m _ _ _ (by omega) (by omega)
  have e : q_SR T s = q_bd (q_term T (q_pas T s)) (fun s' => q_SRc T (T.1 - s.1 - 1) (q_em c s')) := by
    unfold q_SR
    rw [show T.1 - s.1 = T.1 - s.1 - 1 + 1 by omega]
    show (if q_kd T s.1 = 43 then _ else if q_kd T s.1 = 45 then _ else _) = _
    rcases hk with ⟨a, b⟩ | ⟨a, b⟩
    · rw [if_pos (by omega), b]; rfl
    · rw [if_neg (by omega), if_pos (by omega), b]; rfl
  rw [e]
  cases hv : q_term T (q_pas T s) with
  | error e => rfl
  | ok s1 => exact hf s1 hv
theorem q_sm_g {T : q_T} {s s' : q_P} (h : q_sm T s = .ok s') : gP T s s' := by
  obtain ⟨s1, h1, h2⟩ := q_bd_ok h
  exact (q_term_g h1).q (q_SRc_g _ _ _ h2)
theorem q_cp1_k {k c : Nat} (h : q_cp1 k = some c) : k ≠ 999 := by
  rintro rfl
  rw [show q_cp1 999 = none by decide] at h
  cases h
theorem q_mk_g {T : q_T} {s s' : q_P} (hk : q_kd T s.1 ≠ 999) (hm : s.2.2.2 ≠ 60) (h : gP T (q_mk T s) s') (c : Nat) : gP T s (q_em c s') ∧ s'.2.1 + 1 + s.1 ≤ s.2.1 + s'.1 := by
  obtain ⟨h1, h2, h3, h4, h5, h6, h7, h8⟩ := h
  have hp := (q_nx_gt (q_kd_lt hk)).1
  have h1 : q_nx T s.1 < s'.1 := h1
  have h4 : s'.2.1 + q_nx T s.1 ≤ s.2.1 + s'.1 := h4
  have h5 : s.2.1 ≤ s'.2.1 := h5
  have h7 : s.2.2.2 + 1 ≤ s'.2.2.2 := h7
  have h8 : s.2.2.2 + 1 ≤ 60 → s'.2.2.2 ≤ 60 := h8
  refine ⟨⟨?_, h2, h3, ?_, ?_, fun i hi => ?_, ?_, fun z => h8 (by omega)⟩, by omega⟩
  · show s.1 < s'.1; omega
  · show s'.2.1 + 1 + s.1 ≤ s.2.1 + s'.1; omega
  · show s.2.1 ≤ s'.2.1 + 1; omega
  · show va_up s'.2.2.1 s'.2.1 c i = _
    rw [va_up_ne _ _ (by omega)]
    exact h6 i hi
  · show s.2.2.2 ≤ s'.2.2.2; omega
theorem q_cmq_g {T : q_T} {s s' : q_P} (h : q_cmq T s = .ok s') : gP T s s' := by
  obtain ⟨s1, h1, h2⟩ := q_bd_ok h
  split at h2
  · cases h2
  · next c hc =>
    split at h2
    · cases h2
    · next hm =>
      obtain ⟨s2, h3, h4⟩ := q_bd_ok h2
      have e := (Except.ok.inj h4).symm
      rw [e]
      exact (q_sm_g h1).tr (q_mk_g (q_cp1_k hc) hm (q_sm_g h3) c).1
