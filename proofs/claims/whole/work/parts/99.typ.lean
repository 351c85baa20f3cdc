/-! TEXTS: what is read is sound -/
def tyr (c : Nat → Nat) (i j : Nat) (a b : List Bool) : Prop := i ≤ j ∧ ty_run c (j - i) i a = some b
theorem ty_run_add (c : Nat → Nat) : ∀ (m n i : Nat) (s s' : List Bool), ty_run c m i s = some s' → ty_run c (m + n) i s = ty_run c n (i + m) s'
  | 0, n, i, s, s', h => by
    cases h
    rw [Nat.zero_add]
    rfl
  | m + 1, n, i, s, s', h => by
    rw [show m + 1 + n = m + n + 1 by omega]
    have u : ∀ k, ty_run c (k + 1) i s = match ty_st (c i) s with
      | none => none
      | some s' => ty_run c k (i + 1) s' := fun _ => rfl
    rw [u] at h ⊢
    cases e : ty_st (c i) s with
    | none => rw [e] at h; cases h
    | some q =>
      rw [e] at h
      have := ty_run_add c m n (i + 1) q s' h
      rw [show i + (m + 1) = i + 1 + m by omega]
      exact this
theorem tyr.tr {c : Nat → Nat} {i j k : Nat} {a b d : List Bool} (h : tyr c i j a b) (g : tyr c j k b d) : tyr c i k a d := by
  refine ⟨Nat.le_trans h.1 g.1, ?_⟩
  have h1 := h.1
  have g1 := g.1
  rw [show k - i = j - i + (k - j) by omega, ty_run_add c (j - i) (k - j) i a b h.2, show i + (j - i) = j by omega]
  exact g.2
theorem ty_run_cg {c c' : Nat → Nat} : ∀ (m i : Nat) (s : List Bool), (∀ x, i ≤ x → x < i + m → c' x = c x) → ty_run c' m i s = ty_run c m i s
  | 0, _, _, _ => rfl
  | m + 1, i, s, h => by
    unfold ty_run
    rw [h i (by omega) (by omega)]
    cases ty_st (c i) s with
    | none => rfl
    | some q => exact ty_run_cg m (i + 1) q (fun x h1 h2 => h x (by omega) (by omega))
theorem tyr.cg {c c' : Nat → Nat} {i j : Nat} {a b : List Bool} (h : tyr c i j a b) (e : ∀ x, i ≤ x → x < j → c' x = c x) : tyr c' i j a b := by
  refine ⟨h.1, ?_⟩
  have h1 := h.1
  rw [ty_run_cg _ _ _ (fun x y z => e x y (by omega))]
  exact h.2
theorem tyr.rf {c : Nat → Nat} {i : Nat} {a : List Bool} : tyr c i i a a := ⟨Nat.le_refl _, by rw [Nat.sub_self]; rfl⟩
theorem tyr.one {c : Nat → Nat} {i : Nat} {a b : List Bool} (h : ty_st (c i) a = some b) : tyr c i (i + 1) a b := by
  refine ⟨Nat.le_succ _, ?_⟩
  rw [show i + 1 - i = 0 + 1 by omega]
  unfold ty_run
  rw [h]
  rfl
/-- steps from s to s' turn a stack's types -/
def tyS (s s' : q_P) (a b : List Bool) : Prop := tyr s'.2.2.1 s.2.1 s'.2.1 a b ∧ b.length ≤ s'.2.2.2
theorem gQ.cd {T : q_T} {s s' : q_P} (h : gQ T s s') : ∀ i, i < s.2.1 → s'.2.2.1 i = s.2.2.1 i := by
  rcases h with e | h
  · rw [e]; exact fun _ _ => rfl
  · exact h.2.2.2.2.2.1
theorem tyS.tr {T : q_T} {s1 s2 s3 : q_P} {a b d : List Bool} (h : tyS s1 s2 a b) (g : gQ T s2 s3) (k : tyS s2 s3 b d) : tyS s1 s3 a d := by
  refine ⟨tyr.tr (tyr.cg h.1 (fun x _ hx => g.cd x hx)) k.1, k.2⟩
theorem tyS.em {s s1 : q_P} {a b d : List Bool} {c : Nat} (h : tyS s s1 a b) (e : ty_st c b = some d) (hd : d.length ≤ s1.2.2.2) : tyS s (q_em c s1) a d := by
  refine ⟨tyr.tr (j := s1.2.1) (b := b) (tyr.cg h.1 (fun x _ hx => va_up_ne _ _ (by omega))) (tyr.one ?_), hd⟩
  show ty_st (va_up s1.2.2.1 s1.2.1 c s1.2.1) b = some d
  rw [va_up_self]
  exact e
theorem ty_arith {c : Nat} (h1 : 100012 ≤ c) (h2 : c < 100016) (ts : List Bool) : ty_st c (false :: false :: ts) = some (false :: ts) := by
  unfold ty_st
  rw [if_neg (by omega), if_pos h2]
theorem ty_cmp {c : Nat} (h1 : 100016 ≤ c) (h2 : c < 100021) (ts : List Bool) : ty_st c (false :: false :: ts) = some (true :: ts) := by
  unfold ty_st
  rw [if_neg (by omega), if_neg (by omega), if_pos h2]
theorem ty_not (ts : List Bool) : ty_st 100021 (true :: ts) = some (true :: ts) := rfl
theorem ty_log {c : Nat} (h1 : c = 100022 ∨ c = 100023) (ts : List Bool) : ty_st c (true :: true :: ts) = some (true :: ts) := by
  unfold ty_st
  rw [if_neg (by omega), if_neg (by omega), if_neg (by omega), if_neg (by omega), if_pos (by omega)]
/-- what reads a value of a type -/
def tyF (F : q_P → q_X) (t : Bool) : Prop := ∀ s s' ts, F s = .ok s' → s.2.2.2 ≤ 60 → ts.length ≤ s.2.2.2 → tyS s s' ts (t :: ts)
theorem q_V_ty (T : q_T) : tyF (q_V T) false := by
  intro s s' ts h h6 hl
  obtain ⟨-, -, h2, e, h3, -⟩ := q_V_g h
  have hv : q_vc T s.1 < 100012 := by
    unfold q_vc
    have := of_decide_eq_true h3
    split
    · have := q_nu_lt T s.1
      omega
    · omega
  rw [e]
  have base : tyS s (q_mk T s) ts ts := ⟨tyr.rf, by show ts.length ≤ s.2.2.2 + 1; omega⟩
  refine base.em ?_ (by show ts.length + 1 ≤ s.2.2.2 + 1; omega)
  unfold ty_st
  rw [if_pos hv, if_pos (by omega)]
theorem q_TRc_ty (T : q_T) : ∀ (m : Nat) (s s' : q_P) (ts : List Bool), q_TRc T m s = .ok s' → s.2.2.2 ≤ 60 → ts.length + 1 ≤ s.2.2.2 → tyS s s' (false :: ts) (false :: ts)
  | 0, s, s', ts, h, h6, hl => by
    rw [← Except.ok.inj h]
    exact ⟨tyr.rf, hl⟩
  | m + 1, s, s', ts, h, h6, hl => by
    have key : ∀ c, 100012 ≤ c → c < 100016 → q_kd T s.1 ≠ 999 → ∀ s1, q_V T (q_pas T s) = .ok s1 → q_TRc T m (q_em c s1) = .ok s' → tyS s s' (false :: ts) (false :: ts) := by
      intro c c1 c2 hk s1 h1 h2
      have v := q_V_ty T (q_pas T s) s1 (false :: ts) h1 h6 hl
      have v : tyS s s1 (false :: ts) (false :: false :: ts) := v
      have g := (q_V_g h1).1
      have l1 : s1.2.2.2 ≤ 60 := g.2.2.2.2.2.2.2 h6
      have v2 := v.2
      have v2 : ts.length + 1 + 1 ≤ s1.2.2.2 := v2
      have w := v.em (ty_arith c1 c2 ts) (by show ts.length + 1 ≤ s1.2.2.2; omega)
      exact w.tr (q_TRc_g (T := T) m _ _ h2) (q_TRc_ty T m (q_em c s1) s' ts h2 l1 (by show ts.length + 1 ≤ s1.2.2.2; omega))
    unfold q_TRc at h
    split at h
    · next hk =>
      obtain ⟨s1, h1, h2⟩ := q_bd_ok h
      exact key _ (by decide) (by decide) (by omega) s1 h1 h2
    · split at h
      · next hk =>
        obtain ⟨s1, h1, h2⟩ := q_bd_ok h
        exact key _ (by decide) (by decide) (by omega) s1 h1 h2
      · rw [← Except.ok.inj h]
        exact ⟨tyr.rf, hl⟩
theorem q_term_ty (T : q_T) : tyF (q_term T) false := by
  intro s s' ts h h6 hl
  obtain ⟨s1, h1, h2⟩ := q_bd_ok h
  have v := q_V_ty T s s1 ts h1 h6 hl
  exact v.tr (q_TRc_g (T := T) _ _ _ h2) (q_TRc_ty T _ s1 s' ts h2 ((q_V_g h1).1.2.2.2.2.2.2.2 h6) v.2)
theorem q_SRc_ty (T : q_T) : ∀ (m : Nat) (s s' : q_P) (ts : List Bool), q_SRc T m s = .ok s' → s.2.2.2 ≤ 60 → ts.length + 1 ≤ s.2.2.2 → tyS s s' (false :: ts) (false :: ts)
  | 0, s, s', ts, h, h6, hl => by
    rw [← Except.ok.inj h]
    exact ⟨tyr.rf, hl⟩
  | m + 1, s, s', ts, h, h6, hl => by
    have key : ∀ c, 100012 ≤ c → c < 100016 → ∀ s1, q_term T (q_pas T s) = .ok s1 → q_SRc T m (q_em c s1) = .ok s' → tyS s s' (false :: ts) (false :: ts) := by
      intro c c1 c2 s1 h1 h2
      have v := q_term_ty T (q_pas T s) s1 (false :: ts) h1 h6 hl
      have v : tyS s s1 (false :: ts) (false :: false :: ts) := v
      have g := q_term_g h1
      have l1 : s1.2.2.2 ≤ 60 := g.2.2.2.2.2.2.2 h6
      have v2 : ts.length + 1 + 1 ≤ s1.2.2.2 := v.2
      have w := v.em (ty_arith c1 c2 ts) (by show ts.length + 1 ≤ s1.2.2.2; omega)
      exact w.tr (q_SRc_g (T := T) m _ _ h2) (q_SRc_ty T m (q_em c s1) s' ts h2 l1 (by show ts.length + 1 ≤ s1.2.2.2; omega))
    unfold q_SRc at h
    split at h
    · obtain ⟨s1, h1, h2⟩ := q_bd_ok h
      exact key _ (by decide) (by decide) s1 h1 h2
    · split at h
      · obtain ⟨s1, h1, h2⟩ := q_bd_ok h
        exact key _ (by decide) (by decide) s1 h1 h2
      · rw [← Except.ok.inj h]
        exact ⟨tyr.rf, hl⟩
theorem q_sm_ty (T : q_T) : tyF (q_sm T) false := by
  intro s s' ts h h6 hl
  obtain ⟨s1, h1, h2⟩ := q_bd_ok h
  have v := q_term_ty T s s1 ts h1 h6 hl
  exact v.tr (q_SRc_g (T := T) _ _ _ h2) (q_SRc_ty T _ s1 s' ts h2 ((q_term_g h1).2.2.2.2.2.2.2 h6) v.2)
theorem q_cp1_r {k c : Nat} (h : q_cp1 k = some c) : 100016 ≤ c ∧ c < 100021 := by
  unfold q_cp1 at h
  split at h
  · cases h; decide
  · split at h
    · cases h; decide
    · split at h
      · cases h; decide
      · split at h
        · cases h; decide
        · split at h
          · cases h; decide
          · cases h
theorem q_cmq_ty (T : q_T) : tyF (q_cmq T) true := by
  intro s s' ts h h6 hl
  obtain ⟨s1, h1, h2⟩ := q_bd_ok h
  have v := q_sm_ty T s s1 ts h1 h6 hl
  have l1 := (q_sm_g h1).2.2.2.2.2.2.2 h6
  split at h2
  · cases h2
  · next c hc =>
    split at h2
    · cases h2
    · next hm =>
      obtain ⟨s2, h3, h4⟩ := q_bd_ok h2
      have v2 : ts.length + 1 ≤ s1.2.2.2 := v.2
      have w := q_sm_ty T (q_mk T s1) s2 (false :: ts) h3 (by show s1.2.2.2 + 1 ≤ 60; omega) (by show ts.length + 1 ≤ s1.2.2.2 + 1; omega)
      have w : tyS s1 s2 (false :: ts) (false :: false :: ts) := w
      have g : gQ T s1 s2 := Or.inr (by
        obtain ⟨g1, g2, g3, g4, g5, g6, g7, g8⟩ := q_sm_g h3
        have hp := (q_nx_gt (q_kd_lt (q_cp1_k hc))).1
        have g1 : q_nx T s1.1 < s2.1 := g1
        have g4 : s2.2.1 + q_nx T s1.1 ≤ s1.2.1 + s2.1 := g4
        have g7 : s1.2.2.2 + 1 ≤ s2.2.2.2 := g7
        have g8 : s1.2.2.2 + 1 ≤ 60 → s2.2.2.2 ≤ 60 := g8
        exact ⟨by omega, g2, g3, by omega, g5, g6, by omega, fun z => g8 (by omega)⟩)
      have x := v.tr g w
      rw [← Except.ok.inj h4]
      have x2 : ts.length + 1 + 1 ≤ s2.2.2.2 := x.2
      exact x.em (ty_cmp (q_cp1_r hc).1 (q_cp1_r hc).2 ts) (by show ts.length + 1 ≤ s2.2.2.2; omega)
theorem q_ARc_ty {T : q_T} {F : q_P → q_X} (hg : gF T F) (hF : tyF F true) : ∀ (m : Nat) (s s' : q_P) (ts : List Bool), q_ARc F T m s = .ok s' → s.2.2.2 ≤ 60 → ts.length + 1 ≤ s.2.2.2 → tyS s s' (true :: ts) (true :: ts)
  | 0, s, s', ts, h, h6, hl => by
    rw [← Except.ok.inj h]
    exact ⟨tyr.rf, hl⟩
  | m + 1, s, s', ts, h, h6, hl => by
    unfold q_ARc at h
    split at h
    · obtain ⟨s1, h1, h2⟩ := q_bd_ok h
      have v := hF (q_pas T s) s1 (true :: ts) h1 h6 hl
      have v : tyS s s1 (true :: ts) (true :: true :: ts) := v
      have l1 : s1.2.2.2 ≤ 60 := (hg _ _ h1).2.2.2.2.2.2.2 h6
      have v2 : ts.length + 1 + 1 ≤ s1.2.2.2 := v.2
      have w := v.em (ty_log (Or.inl rfl) ts) (by show ts.length + 1 ≤ s1.2.2.2; omega)
      exact w.tr (q_ARc_g hg m _ _ h2) (q_ARc_ty hg hF m (q_em 100022 s1) s' ts h2 l1 (by show ts.length + 1 ≤ s1.2.2.2; omega))
    · rw [← Except.ok.inj h]
      exact ⟨tyr.rf, hl⟩
theorem gQ.m60 {T : q_T} {s s' : q_P} (h : gQ T s s') (h6 : s.2.2.2 ≤ 60) : s'.2.2.2 ≤ 60 := by
  rcases h with e | h
  · rw [e]; exact h6
  · exact h.2.2.2.2.2.2.2 h6
theorem q_ORc_ty {T : q_T} {F : q_P → q_X} (hg : gF T F) (hF : tyF F true) : ∀ (m : Nat) (s s' : q_P) (ts : List Bool), q_ORc F T m s = .ok s' → s.2.2.2 ≤ 60 → ts.length + 1 ≤ s.2.2.2 → tyS s s' (true :: ts) (true :: ts)
  | 0, s, s', ts, h, h6, hl => by
    rw [← Except.ok.inj h]
    exact ⟨tyr.rf, hl⟩
  | m + 1, s, s', ts, h, h6, hl => by
    unfold q_ORc at h
    split at h
    · obtain ⟨s1, h1, h2⟩ := q_bd_ok h
      obtain ⟨s2, h3, h4⟩ := q_bd_ok h2
      have v := hF (q_pas T s) s1 (true :: ts) h1 h6 hl
      have v : tyS s s1 (true :: ts) (true :: true :: ts) := v
      have l1 : s1.2.2.2 ≤ 60 := (hg _ _ h1).2.2.2.2.2.2.2 h6
      have w := q_ARc_ty hg hF _ s1 s2 (true :: ts) h3 l1 v.2
      have g2 := q_AR_g hg h3
      have l2 := g2.m60 l1
      have x := v.tr g2 w
      have x2 : ts.length + 1 + 1 ≤ s2.2.2.2 := x.2
      have y := x.em (ty_log (Or.inr rfl) ts) (by show ts.length + 1 ≤ s2.2.2.2; omega)
      exact y.tr (q_ORc_g hg m _ _ h4) (q_ORc_ty hg hF m (q_em 100023 s2) s' ts h4 l2 (by show ts.length + 1 ≤ s2.2.2.2; omega))
    · rw [← Except.ok.inj h]
      exact ⟨tyr.rf, hl⟩
theorem q_ts_ty {T : q_T} {F : q_P → q_X} (hg : gF T F) (hF : tyF F true) : tyF (q_ts F T) true := by
  intro s s' ts h h6 hl
  obtain ⟨s1, h1, h2⟩ := q_bd_ok h
  obtain ⟨s2, h3, h4⟩ := q_bd_ok h2
  have v := hF s s1 ts h1 h6 hl
  have l1 := (hg _ _ h1).2.2.2.2.2.2.2 h6
  have w := q_ARc_ty hg hF _ s1 s2 ts h3 l1 v.2
  have g2 := q_AR_g hg h3
  exact (v.tr g2 w).tr (q_ORc_g hg _ _ _ h4) (q_ORc_ty hg hF _ s2 s' ts h4 (g2.m60 l1) w.2)
theorem q_FA_ty (T : q_T) : ∀ k, tyF (q_FA T k) true
  | 0, s, s', ts, h, h6, hl => by
    unfold q_FA at h
    split at h
    · cases h
    · exact q_cmq_ty T s s' ts h h6 hl
  | k + 1, s, s', ts, h, h6, hl => by
    unfold q_FA at h
    split at h
    · obtain ⟨s1, h1, h2⟩ := q_bd_ok h
      have v := q_ts_ty (q_FA_g T k) (q_FA_ty T k) (q_pas T s) s1 ts h1 h6 hl
      unfold q_cls at h2
      split at h2
      · rw [← Except.ok.inj h2]
        exact v
      · cases h2
    · split at h
      · obtain ⟨s1, h1, h2⟩ := q_bd_ok h
        have v := q_FA_ty T k (q_pas T s) s1 ts h1 h6 hl
        have v : tyS s s1 ts (true :: ts) := v
        rw [← Except.ok.inj h2]
        exact v.em (ty_not ts) v.2
      · exact q_cmq_ty T s s' ts h h6 hl
theorem ty_st_lt {c : Nat} {a b : List Bool} (h : ty_st c a = some b) : c < 100024 := by
  rcases Nat.lt_or_ge c 100024 with z | z
  · exact z
  · unfold ty_st at h
    rw [if_neg (by omega), if_neg (by omega), if_neg (by omega), if_neg (by omega), if_neg (by omega)] at h
    cases h
theorem ty_run_lt {c : Nat → Nat} : ∀ (m i : Nat) (a b : List Bool), ty_run c m i a = some b → ∀ x, i ≤ x → x < i + m → c x < 100024
  | 0, i, a, b, h, x, h1, h2 => by omega
  | m + 1, i, a, b, h, x, h1, h2 => by
    unfold ty_run at h
    cases e : ty_st (c i) a with
    | none => rw [e] at h; cases h
    | some q =>
      rw [e] at h
      rcases Nat.lt_or_ge i x with z | z
      · exact ty_run_lt m (i + 1) q b h x z (by omega)
      · obtain rfl : i = x := by omega
        exact ty_st_lt e
theorem tyr.lt {c : Nat → Nat} {i j : Nat} {a b : List Bool} (h : tyr c i j a b) : ∀ x, i ≤ x → x < j → c x < 100024 := fun x h1 h2 => ty_run_lt _ _ _ _ h.2 x h1 (by have := h.1; omega)
/-- a clause's cells are sound -/
def wC (c : Nat → Nat) (len : Nat) (i : Bool × Nat × Nat × Nat) : Prop := i.2.1 ≤ i.2.2.1 ∧ i.2.2.1 ≤ i.2.2.2 ∧ i.2.2.2 ≤ len ∧ (i.1 = true → i.2.1 = i.2.2.1 ∧ i.2.2.1 < i.2.2.2) ∧ (i.1 = false → q_sq c i.2.1 i.2.2.1 false) ∧ (i.2.2.1 < i.2.2.2 → q_sq c i.2.2.1 i.2.2.2 true)
theorem q_sq.cg {c c' : Nat → Nat} {b e : Nat} {t : Bool} (h : q_sq c b e t) (hc : ∀ x, x < e → c' x = c x) : q_sq c' b e t := tyr.cg (a := []) (b := [t]) h (fun x _ hx => hc x hx)
theorem wC.cg {c c' : Nat → Nat} {len len' : Nat} {i : Bool × Nat × Nat × Nat} (h : wC c len i) (hc : ∀ x, x < len → c' x = c x) (hl : len ≤ len') : wC c' len' i := by
  obtain ⟨a, b, d, e, f, g⟩ := h
  exact ⟨a, b, Nat.le_trans d hl, e, fun z => (f z).cg (fun x hx => hc x (by omega)), fun z => (g z).cg (fun x hx => hc x (by omega))⟩
theorem q_oc_w {T : q_T} {s : q_P} {nc : Nat} {y : q_P × Bool × Nat × Nat × Nat} (h : q_oc T s nc = .ok y) (h6 : s.2.2.2 ≤ 60) : wC y.1.2.2.1 y.1.2.1 y.2 ∧ nc ≠ 12 ∧ (∀ x, s.2.1 ≤ x → x < y.1.2.1 → y.1.2.2.1 x < 100024) ∧ y.1.2.2.2 ≤ 60 := by
  have hg := q_oc_g h
  unfold q_oc at h
  split at h
  · cases h
  · split at h
    · cases h
    · next h12 =>
      cases hd : decide (q_kd T s.1 = 315) with
      | true =>
        rw [hd] at h
        split at h
        · cases h
        · next s1 h1 =>
          have e1 : s1 = q_pas T s := (Except.ok.inj h1).symm
          subst e1
          split at h
          · cases h
          · next s2 h2 =>
            have h2 : q_ts (q_FA T 10) T (q_pas T s) = .ok s2 := h2
            have v := q_ts_ty (q_FA_g T 10) (q_FA_ty T 10) (q_pas T s) s2 [] h2 h6 (Nat.zero_le _)
            have lt := q_ts_lt h2
            have lt : s.2.1 < s2.2.1 := lt
            have e := (Except.ok.inj h).symm
            rw [e] at hg ⊢
            have v1 : tyr s2.2.2.1 s.2.1 s2.2.1 [] [true] := v.1
            exact ⟨⟨Nat.le_refl _, Nat.le_of_lt lt, Nat.le_refl _, fun _ => ⟨rfl, lt⟩, fun z => (by cases z), fun _ => v1⟩, h12, v1.lt, hg.2.2.2.2.2.2.2 h6⟩
      | false =>
        rw [hd] at h
        split at h
        · cases h
        · next s1 h1 =>
          have h1 : q_sm T (q_pas T s) = .ok s1 := h1
          have v := q_sm_ty T (q_pas T s) s1 [] h1 h6 (Nat.zero_le _)
          have l1 : s1.2.2.2 ≤ 60 := (q_sm_g h1).2.2.2.2.2.2.2 h6
          have lt := q_sm_lt h1
          have lt : s.2.1 < s1.2.1 := lt
          have v1 : tyr s1.2.2.1 s.2.1 s1.2.1 [] [false] := v.1
          split at h
          · cases h
          · next s2 h2 =>
            have e := (Except.ok.inj h).symm
            rw [e] at hg ⊢
            have g2 := q_dB_g h2
            have len2 := g2.len
            have v2 : tyr s2.2.2.1 s.2.1 s1.2.1 [] [false] := v1.cg (fun x _ hx => g2.cd x hx)
            have h2' : q_dB T false s1 = .ok s2 := h2
            unfold q_dB at h2'
            rw [if_neg (by decide)] at h2'
            split at h2'
            · have w := q_ts_ty (q_FA_g T 10) (q_FA_ty T 10) (q_pas T s1) s2 [] h2' l1 (Nat.zero_le _)
              have w1 : tyr s2.2.2.1 s1.2.1 s2.2.1 [] [true] := w.1
              have lt2 := q_ts_lt h2'
              have lt2 : s1.2.1 < s2.2.1 := lt2
              refine ⟨⟨Nat.le_of_lt lt, Nat.le_of_lt lt2, Nat.le_refl _, fun z => (by cases z), fun _ => v2, fun _ => w1⟩, h12, fun x x1 x2 => ?_, hg.2.2.2.2.2.2.2 h6⟩
              rcases Nat.lt_or_ge x s1.2.1 with z | z
              · exact v2.lt x x1 z
              · exact w1.lt x z x2
            · have e2 := Except.ok.inj h2'
              subst e2
              exact ⟨⟨Nat.le_of_lt lt, Nat.le_refl _, Nat.le_refl _, fun z => (by cases z), fun _ => v2, fun z => absurd (show s1.2.1 < s1.2.1 from z) (by omega)⟩, h12, fun x x1 x2 => v2.lt x x1 x2, hg.2.2.2.2.2.2.2 h6⟩
theorem q_ruc_w {T : q_T} (hT : T.1 ≤ 400) : ∀ (m : Nat) (s : q_P) (nc : Nat) (ci : q_ci) (R : qR), q_ruc T m s nc ci = .ok R → s.2.2.2 ≤ 60 → s.2.1 ≤ s.1 → nc ≤ 12 → (∀ x, x < s.2.1 → s.2.2.1 x < 100024) → (∀ c, c < nc → wC s.2.2.1 s.2.1 (ci c)) → q_wf R
  | 0, s, nc, ci, R, h, _, _, _, _, _ => by cases h
  | m + 1, s, nc, ci, R, h, h6, hb, hn, hx, hc => by
    cases ho : q_oc T s nc with
    | error f => rw [q_ruc_er ho] at h; cases h
    | ok y =>
      rw [q_ruc_ok ho] at h
      have hg := q_oc_g ho
      obtain ⟨g1, g2, g3, g4, g5, g6, g7, g8⟩ := hg
      obtain ⟨w1, w3, w4, w5⟩ := q_oc_w ho h6
      have hx2 : ∀ x, x < y.1.2.1 → y.1.2.2.1 x < 100024 := by
        intro x hxx
        rcases Nat.lt_or_ge x s.2.1 with z | z
        · rw [g6 x z]; exact hx x z
        · exact w4 x z hxx
      have hc2 : ∀ c, c < nc + 1 → wC y.1.2.2.1 y.1.2.1 (va_up ci nc y.2 c) := by
        intro c hcc
        by_cases z : c = nc
        · rw [z, va_up_self]; exact w1
        · rw [va_up_ne _ _ z]
          exact (hc c (by omega)).cg g6 g5
      unfold q_rr at h
      split at h
      · next hk =>
        have hp := q_nx_gt (T := T) (q_kd_lt (T := T) (p := y.1.1) (by omega))
        exact q_ruc_w hT m (q_pas T y.1) (nc + 1) _ R h w5 (show y.1.2.1 ≤ q_nx T y.1.1 by omega) (by omega) hx2 hc2
      · split at h
        · rw [← Except.ok.inj h]
          refine ⟨show nc + 1 ≤ 12 by omega, show y.1.2.1 ≤ 400 by omega, hx2, fun c hcc => ?_⟩
          obtain ⟨a1, a2, a3, a4, a5, a6⟩ := hc2 c hcc
          exact ⟨a1, a2, a3, a4, a5, a6⟩
        · cases h
theorem q_ru_w {T : q_T} (hT : T.1 ≤ 400) {R : qR} (h : q_ru T = .ok R) : q_wf R := q_ruc_w hT 13 (q_s0 T) 0 _ R h (by show 0 ≤ 60; omega) (Nat.zero_le _) (by omega) (fun x hx => absurd hx (by show ¬ x < 0; omega)) (fun c hc => absurd hc (by omega))
