/-! TEXTS: faults are numbers of the text -/
def eB (T : q_T) (f : Nat) : Prop := 0 < f ∧ f ≤ 8 * T.1 + 5
def eF (T : q_T) (F : q_P → q_X) : Prop := ∀ s f, s.1 ≤ T.1 → F s = .error f → eB T f
theorem eB.mk {T : q_T} {p k : Nat} (h : p ≤ T.1) (hk : k ≤ 4) : eB T (1 + 8 * p + k) := ⟨by omega, by omega⟩
theorem q_bd_er {x : q_X} {g : q_P → q_X} {f : Nat} (h : q_bd x g = .error f) : x = .error f ∨ ∃ s, x = .ok s ∧ g s = .error f := by
  cases x with
  | error e => exact Or.inl h
  | ok s => exact Or.inr ⟨s, rfl, h⟩
theorem q_pas_le {T : q_T} {s : q_P} (h : q_kd T s.1 ≠ 999) : (q_pas T s).1 ≤ T.1 := (q_nx_gt (q_kd_lt h)).2
theorem q_mk_le {T : q_T} {s : q_P} (h : q_kd T s.1 ≠ 999) : (q_mk T s).1 ≤ T.1 := (q_nx_gt (q_kd_lt h)).2
theorem q_V_er (T : q_T) : eF T (q_V T) := by
  intro s f hs h
  unfold q_V at h
  split at h
  · rw [← Except.error.inj h]; exact eB.mk hs (by decide)
  · split at h
    · split at h
      · rw [← Except.error.inj h]; exact eB.mk hs (by decide)
      · cases h
    · rw [← Except.error.inj h]; exact eB.mk hs (by decide)
theorem q_TRc_er (T : q_T) : ∀ m, eF T (q_TRc T m)
  | 0, s, f, hs, h => by cases h
  | m + 1, s, f, hs, h => by
    unfold q_TRc at h
    split at h
    · next hk =>
      rcases q_bd_er h with h | ⟨s1, h1, h2⟩
      · exact q_V_er T _ _ (q_pas_le (by omega)) h
      · exact q_TRc_er T m (q_em _ s1) _ ((q_V_g h1).1.2.1) h2
    · split at h
      · next hk =>
        rcases q_bd_er h with h | ⟨s1, h1, h2⟩
        · exact q_V_er T _ _ (q_pas_le (by omega)) h
        · exact q_TRc_er T m (q_em _ s1) _ ((q_V_g h1).1.2.1) h2
      · cases h
theorem q_term_er (T : q_T) : eF T (q_term T) := by
  intro s f hs h
  rcases q_bd_er h with h | ⟨s1, h1, h2⟩
  · exact q_V_er T _ _ hs h
  · exact q_TRc_er T _ _ _ ((q_V_g h1).1.2.1) h2
theorem q_SRc_er (T : q_T) : ∀ m, eF T (q_SRc T m)
  | 0, s, f, hs, h => by cases h
  | m + 1, s, f, hs, h => by
    unfold q_SRc at h
    split at h
    · next hk =>
      rcases q_bd_er h with h | ⟨s1, h1, h2⟩
      · exact q_term_er T _ _ (q_pas_le (by omega)) h
      · exact q_SRc_er T m (q_em _ s1) _ ((q_term_g h1).2.1) h2
    · split at h
      · next hk =>
        rcases q_bd_er h with h | ⟨s1, h1, h2⟩
        · exact q_term_er T _ _ (q_pas_le (by omega)) h
        · exact q_SRc_er T m (q_em _ s1) _ ((q_term_g h1).2.1) h2
      · cases h
theorem q_sm_er (T : q_T) : eF T (q_sm T) := by
  intro s f hs h
  rcases q_bd_er h with h | ⟨s1, h1, h2⟩
  · exact q_term_er T _ _ hs h
  · exact q_SRc_er T _ _ _ ((q_term_g h1).2.1) h2
theorem q_cmq_er (T : q_T) : eF T (q_cmq T) := by
  intro s f hs h
  rcases q_bd_er h with h | ⟨s1, h1, h2⟩
  · exact q_sm_er T _ _ hs h
  · have l1 := (q_sm_g h1).2.1
    split at h2
    · rw [← Except.error.inj h2]; exact eB.mk l1 (by decide)
    · next c hc =>
      split at h2
      · rw [← Except.error.inj h2]; exact eB.mk l1 (by decide)
      · rcases q_bd_er h2 with h2 | ⟨s2, h3, h4⟩
        · exact q_sm_er T _ _ (q_mk_le (q_cp1_k hc)) h2
        · cases h4
theorem q_ARc_er {T : q_T} {F : q_P → q_X} (hg : gF T F) (he : eF T F) : ∀ m, eF T (q_ARc F T m)
  | 0, s, f, hs, h => by cases h
  | m + 1, s, f, hs, h => by
    unfold q_ARc at h
    split at h
    · next hk =>
      rcases q_bd_er h with h | ⟨s1, h1, h2⟩
      · exact he _ _ (q_pas_le (by omega)) h
      · exact q_ARc_er hg he m (q_em _ s1) _ ((hg _ _ h1).2.1) h2
    · cases h
theorem gQ.le {T : q_T} {s s' : q_P} (h : gQ T s s') (hs : s.1 ≤ T.1) : s'.1 ≤ T.1 := by
  rcases h with e | h
  · rw [e]; exact hs
  · exact h.2.1
theorem q_ORc_er {T : q_T} {F : q_P → q_X} (hg : gF T F) (he : eF T F) : ∀ m, eF T (q_ORc F T m)
  | 0, s, f, hs, h => by cases h
  | m + 1, s, f, hs, h => by
    unfold q_ORc at h
    split at h
    · next hk =>
      rcases q_bd_er h with h | ⟨s1, h1, h2⟩
      · exact he _ _ (q_pas_le (by omega)) h
      · have l1 := (hg _ _ h1).2.1
        rcases q_bd_er h2 with h2 | ⟨s2, h3, h4⟩
        · exact q_ARc_er hg he _ _ _ l1 h2
        · exact q_ORc_er hg he m (q_em _ s2) _ ((q_AR_g hg h3).le l1) h4
    · cases h
theorem q_ts_er {T : q_T} {F : q_P → q_X} (hg : gF T F) (he : eF T F) : eF T (q_ts F T) := by
  intro s f hs h
  rcases q_bd_er h with h | ⟨s1, h1, h2⟩
  · exact he _ _ hs h
  · have l1 := (hg _ _ h1).2.1
    rcases q_bd_er h2 with h2 | ⟨s2, h3, h4⟩
    · exact q_ARc_er hg he _ _ _ l1 h2
    · exact q_ORc_er hg he _ _ _ ((q_AR_g hg h3).le l1) h4
theorem q_FA_er (T : q_T) : ∀ k, eF T (q_FA T k)
  | 0, s, f, hs, h => by
    unfold q_FA at h
    split at h
    · rw [← Except.error.inj h]; exact eB.mk hs (by decide)
    · exact q_cmq_er T _ _ hs h
  | k + 1, s, f, hs, h => by
    unfold q_FA at h
    split at h
    · next hk =>
      rcases q_bd_er h with h | ⟨s1, h1, h2⟩
      · exact q_ts_er (q_FA_g T k) (q_FA_er T k) _ _ (q_pas_le (by omega)) h
      · have l1 := (q_ts_g (q_FA_g T k) h1).2.1
        unfold q_cls at h2
        split at h2
        · cases h2
        · rw [← Except.error.inj h2]; exact eB.mk l1 (by decide)
    · split at h
      · next hk =>
        rcases q_bd_er h with h | ⟨s1, h1, h2⟩
        · exact q_FA_er T k _ _ (q_pas_le (by omega)) h
        · cases h2
      · exact q_cmq_er T _ _ hs h
theorem q_oc_er {T : q_T} {s : q_P} {nc f : Nat} (hs : s.1 ≤ T.1) (h : q_oc T s nc = .error f) : eB T f := by
  unfold q_oc at h
  split at h
  · rw [← Except.error.inj h]; exact eB.mk hs (by decide)
  · next hk =>
    have lp : (q_pas T s).1 ≤ T.1 := q_pas_le (by omega)
    split at h
    · rw [← Except.error.inj h]; exact eB.mk hs (by decide)
    · split at h
      · next f1 h1 =>
        rw [← Except.error.inj h]
        unfold q_dA at h1
        split at h1
        · cases h1
        · exact q_sm_er T _ _ lp h1
      · next s1 h1 =>
        have l1 := (q_dA_g h1).le lp
        split at h
        · next f2 h2 =>
          rw [← Except.error.inj h]
          unfold q_dB at h2
          split at h2
          · exact q_ts_er (q_FA_g T 10) (q_FA_er T 10) _ _ l1 h2
          · split at h2
            · next hk2 => exact q_ts_er (q_FA_g T 10) (q_FA_er T 10) _ _ (q_pas_le (by omega)) h2
            · cases h2
        · cases h
