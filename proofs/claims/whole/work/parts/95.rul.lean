/-! THE REFERENCE: clauses of a rule -/
theorem m_takesP {G : qx_G} {σ : qx_S} {Z : Nat → Int32} {T : q_T} {t : Nat} {s : q_P} (h : mP σ Z T t s) (j : Nat) (hj : j < 21) : qx_M G qc_T 2 YX12_takesWord [.ref 197, .long (lN (q_WS.getD j 0))] σ (fun r s' => r = some (.int (bI (decide (q_kd T s.1 = 300 + j)))) ∧ ql [(197, some 8)] σ s' ∧ mP s' Z T t (if q_kd T s.1 = 300 + j then q_pas T s else s)) := by
  have mw := m_isWordP (G := G) h j hj
  by_cases hk : q_kd T s.1 = 300 + j
  · rw [if_pos hk]
    have ed : decide (q_kd T s.1 = 300 + j) = true := decide_eq_true hk
    rw [ed] at mw ⊢
    refine qx_M_in rfl (Nat.le_of_ble_eq_true rfl) ?_
    refine qy_wp_ok (c := CX12_takesWord) (cuts := []) vX12_takesWord wX12_takesWord 2000 0 _ _ _ ?_
    refine And.intro rfl (Exists.intro _ (And.intro (by decide) (qx_M_mono (mw) ?_)))
    rintro _ σ1 ⟨rfl, fσ1, aσ1, gσ1⟩
    refine And.intro (fun h5 => ?_) (fun h5 => ?_)
    · skip
      have h5 := bI_t h5
      refine And.intro rfl (Exists.intro _ (And.intro (by decide) (qx_M_mono (m_passP aσ1 gσ1 (by omega)) ?_)))
      rintro _ σ2 ⟨rfl, fσ2, aσ2⟩
      refine Exists.intro (nI 1) (And.intro rfl ?_)
      refine And.intro (Or.inr rfl) ?_
      exact ⟨rfl, fσ1.tr fσ2, aσ2⟩
    · skip
      have h5 := bI_f h5
      exact absurd (h5.symm.trans (rfl)) (by decide)
  · rw [if_neg hk]
    have ed : decide (q_kd T s.1 = 300 + j) = false := decide_eq_false hk
    rw [ed] at mw ⊢
    refine qx_M_in rfl (Nat.le_of_ble_eq_true rfl) ?_
    refine qy_wp_ok (c := CX12_takesWord) (cuts := []) vX12_takesWord wX12_takesWord 2000 0 _ _ _ ?_
    refine And.intro rfl (Exists.intro _ (And.intro (by decide) (qx_M_mono (mw) ?_)))
    rintro _ σ1 ⟨rfl, fσ1, aσ1, gσ1⟩
    refine And.intro (fun h5 => ?_) (fun h5 => ?_)
    · skip
      have h5 := bI_t h5
      exact absurd (h5.symm.trans (rfl)) (by decide)
    · skip
      have h5 := bI_f h5
      refine Exists.intro (nI 0) (And.intro rfl ?_)
      refine And.intro (Or.inl rfl) ?_
      exact ⟨rfl, fσ1, aσ1⟩
abbrev q_ci : Type := Nat → Bool × Nat × Nat × Nat
def q_dA (T : q_T) (bar : Bool) (s : q_P) : q_X := if bar = true then .ok s else q_sm T s
def q_dB (T : q_T) (bar : Bool) (s : q_P) : q_X := if bar = true then q_ts (q_FA T 10) T s else if q_kd T s.1 = 317 then q_ts (q_FA T 10) T (q_pas T s) else .ok s
/-- a clause's cells -/
def mCl (σ : qx_S) (t c : Nat) (i : Bool × Nat × Nat × Nat) : Prop := qx_mi σ 201 (60 * t + 5 * c) = nI (cond i.1 0 1) ∧ qx_mi σ 201 (60 * t + 5 * c + 1) = nI i.2.1 ∧ qx_mi σ 201 (60 * t + 5 * c + 2) = nI i.2.2.1 ∧ qx_mi σ 201 (60 * t + 5 * c + 3) = (if i.2.2.1 = i.2.2.2 then -1 else nI i.2.2.1) ∧ qx_mi σ 201 (60 * t + 5 * c + 4) = nI i.2.2.2
abbrev lD : List (Nat × Option Nat) := [(197, some 8), (197, some 9), (197, some 10), (197, some 12), (199, none), (200, none), (197, some 13), (197, some 16), (204, none), (201, none), (202, none)]
/-- what a clause answers: where it stands then, what is below stays -/
def rD (σ s' : qx_S) (Z : Nat → Int32) (T : q_T) (t nc fr : Nat) (bar : Bool) (x1 : q_X) (x2 : q_P → q_X) (r : Option Value) : Prop := ql lD σ s' ∧ (∀ j, j < 60 * t + 5 * nc → qx_mi s' 201 j = qx_mi σ 201 j) ∧ (∀ j, j ≠ t → qx_mi s' 202 j = qx_mi σ 202 j) ∧ (match x1 with
  | .error f => r = some (.int (bI false)) ∧ qx_mi s' 197 9 = nI f ∧ ∀ j, j < 400 * t → qx_mi s' 199 j = Z j
  | .ok s1 => match x2 s1 with
    | .error f => r = some (.int (bI false)) ∧ qx_mi s' 197 9 = nI f ∧ ∀ j, j < 400 * t → qx_mi s' 199 j = Z j
    | .ok s2 => r = some (.int (bI true)) ∧ mP s' Z T t s2 ∧ qx_mi s' 202 t = nI (nc + 1) ∧ mCl s' t nc (bar, fr, s1.2.1, s2.2.1))
theorem q_V_st {T : q_T} {s s' : q_P} (h : q_V T s = .ok s') : s.2.1 < s'.2.1 := by
  rw [(q_V_g h).2.2.2.1]
  exact Nat.lt_succ_self _
theorem gQ.len {T : q_T} {s s' : q_P} (h : gQ T s s') : s.2.1 ≤ s'.2.1 := by
  rcases h with e | h
  · rw [e]; exact Nat.le_refl _
  · exact h.2.2.2.2.1
theorem q_sm_lt {T : q_T} {s s' : q_P} (h : q_sm T s = .ok s') : s.2.1 < s'.2.1 := by
  obtain ⟨s1, h1, h2⟩ := q_bd_ok h
  obtain ⟨s2, h3, h4⟩ := q_bd_ok h1
  exact Nat.lt_of_lt_of_le (q_V_st h3) (Nat.le_trans (q_TRc_g _ _ _ h4).len (q_SRc_g _ _ _ h2).len)
theorem q_cmq_lt {T : q_T} {s s' : q_P} (h : q_cmq T s = .ok s') : s.2.1 < s'.2.1 := by
  obtain ⟨s1, h1, h2⟩ := q_bd_ok h
  have a := q_sm_lt h1
  split at h2
  · cases h2
  · next c hc =>
    split at h2
    · cases h2
    · next hm =>
      obtain ⟨s2, h3, h4⟩ := q_bd_ok h2
      have e := (Except.ok.inj h4).symm
      rw [e]
      have b : s1.2.1 ≤ s2.2.1 := (q_sm_g h3).2.2.2.2.1
      show s.2.1 < s2.2.1 + 1
      omega
theorem q_ts_ltF {F : q_P → q_X} {T : q_T} (hF : gF T F) (hl : ∀ s s', F s = .ok s' → s.2.1 < s'.2.1) {s s' : q_P} (h : q_ts F T s = .ok s') : s.2.1 < s'.2.1 := by
  obtain ⟨s1, h1, h2⟩ := q_bd_ok h
  obtain ⟨s2, h3, h4⟩ := q_bd_ok h2
  exact Nat.lt_of_lt_of_le (hl _ _ h1) (Nat.le_trans (q_AR_g hF h3).len (q_ORc_g hF _ _ _ h4).len)
theorem q_FA_lt (T : q_T) : ∀ k s s', q_FA T k s = .ok s' → s.2.1 < s'.2.1
  | 0, s, s', h => by
    unfold q_FA at h
    split at h
    · cases h
    · exact q_cmq_lt h
  | k + 1, s, s', h => by
    unfold q_FA at h
    split at h
    · obtain ⟨s1, h1, h2⟩ := q_bd_ok h
      have a := q_ts_ltF (q_FA_g T k) (q_FA_lt T k) h1
      have a : s.2.1 < s1.2.1 := a
      unfold q_cls at h2
      split at h2
      · have e := (Except.ok.inj h2).symm
        rw [e]
        exact a
      · cases h2
    · split at h
      · obtain ⟨s1, h1, h2⟩ := q_bd_ok h
        have e := (Except.ok.inj h2).symm
        rw [e]
        have a := q_FA_lt T k _ _ h1
        have a : s.2.1 < s1.2.1 := a
        exact Nat.lt_succ_of_lt a
      · exact q_cmq_lt h
theorem q_ts_lt {T : q_T} {k : Nat} {s s' : q_P} (h : q_ts (q_FA T k) T s = .ok s') : s.2.1 < s'.2.1 := q_ts_ltF (q_FA_g T k) (q_FA_lt T k) h
theorem q_ts_len {T : q_T} {k : Nat} {s s' : q_P} (h : q_ts (q_FA T k) T s = .ok s') : s.2.1 ≤ s'.2.1 := (q_ts_g (q_FA_g T k) h).2.2.2.2.1
theorem m_isDoing_bar {G : qx_G} {σ : qx_S} {Z : Nat → Int32} {T : q_T} {t nc : Nat} {s : q_P} (h : mP σ Z T t s) (hn8 : qx_mi σ 197 8 = nI s.1) (hk : q_kd T s.1 = 315) (hb : s.2.1 ≤ s.1) (hc : qx_mi σ 202 t = nI nc) (hnc : nc < 12) : qx_M G qc_T 9 YX12_isDoingHere [.ref 197, .int (nI 0)] σ (fun r s' => rD σ s' Z T t nc s.2.1 true (q_dA T true (q_pas T s)) (q_dB T true) r) := by
  have t6 := h.2.2.2.1
  have hlt := q_kd_lt (T := T) (p := s.1) (by omega)
  have hnx := q_nx_gt hlt
  have hf : ql lD σ σ := qf.rf
  have hlow : ∀ j, j < 60 * t + 5 * nc → qx_mi σ 201 j = qx_mi σ 201 j := fun _ _ => rfl
  have ho : ∀ j, j ≠ t → qx_mi σ 202 j = qx_mi σ 202 j := fun _ _ => rfl
  have e1 : q_dA T true (q_pas T s) = .ok (q_pas T s) := rfl
  have e2 : q_dB T true (q_pas T s) = q_ts (q_FA T 10) T (q_pas T s) := rfl
  rw [e1]
  have mt : ∀ σ1, mP σ1 Z T t (q_pas T s) → qx_M G qc_T 8 YX12_tested [.ref 197] σ1 (fun r s' => rT σ1 s' Z T t (q_ts (q_FA T 10) T (q_pas T s)) r) := fun σ1 a => m_tested a (show s.2.1 ≤ q_nx T s.1 by omega)
  cases hv : q_ts (q_FA T 10) T (q_pas T s) with
  | error f =>
    rw [hv] at mt
    refine qx_M_mono (Φ := fun r s' => ql lD σ s' ∧ (∀ j, j < 60 * t + 5 * nc → qx_mi s' 201 j = qx_mi σ 201 j) ∧ (∀ j, j ≠ t → qx_mi s' 202 j = qx_mi σ 202 j) ∧ r = some (.int (bI false)) ∧ qx_mi s' 197 9 = nI f ∧ ∀ j, j < 400 * t → qx_mi s' 199 j = Z j) ?_ (fun r s' z => ⟨z.1, z.2.1, z.2.2.1, by show (match q_dB T true (q_pas T s) with | .error f => _ | .ok s2 => _); rw [e2, hv]; exact z.2.2.2⟩)
    · skip
      refine qx_M_in rfl (Nat.le_of_ble_eq_true rfl) ?_
      refine qy_wp_ok (c := CX12_isDoingHere) (cuts := []) vX12_isDoingHere wX12_isDoingHere 2000 0 _ _ _ ?_
      refine And.intro rfl (Exists.intro _ (And.intro (by decide) (qx_M_mono (m_passP h hn8 (by omega)) ?_)))
      rintro _ σ1 ⟨rfl, fσ1, aσ1⟩
      have hf_σ1 : ql lD σ σ1 := hf.tr (fσ1.mn (by decide))
      have hlow_σ1 : ∀ j, j < 60 * t + 5 * nc → qx_mi σ1 201 j = qx_mi σ 201 j := fun j hj => (fσ1.i 201 j rfl).trans (hlow j hj)
      have ho_σ1 : ∀ j, j ≠ t → qx_mi σ1 202 j = qx_mi σ 202 j := fun j hj => (fσ1.i 202 j rfl).trans (ho j hj)
      have hp_σ1 : mP σ1 Z T t (q_pas T s) := aσ1
      refine Exists.intro (nI 60) (And.intro rfl ?_)
      refine And.intro rfl (Exists.intro 11 (Exists.intro (nI t) (And.intro rfl (And.intro ((fσ1.i _ _ rfl).trans (h.2.2.1)) ?_))))
      refine Exists.intro (nI (60 * t)) (And.intro (pk_mul _ _) ?_)
      refine Exists.intro (nI 5) (And.intro rfl ?_)
      refine And.intro rfl (Exists.intro 202 (And.intro rfl ?_))
      refine And.intro rfl (Exists.intro 11 (Exists.intro (nI t) (And.intro rfl (And.intro ((fσ1.i _ _ rfl).trans (h.2.2.1)) ?_))))
      refine Exists.intro (t) (Exists.intro (nI nc) (And.intro rfl (And.intro ⟨6, rfl, by omega, by decide⟩ (And.intro ((fσ1.i _ _ rfl).trans (hc)) ?_))))
      refine Exists.intro (nI (5 * nc)) (And.intro (pk_mul _ _) ?_)
      refine Exists.intro (nI (60 * t + 5 * nc)) (And.intro (nI_add _ _) ?_)
      refine And.intro rfl (Exists.intro 201 (And.intro rfl ?_))
      obtain ⟨σ2, eσ2⟩ : ∃ zs, zs = (qx_wi σ1 201 (60 * t + 5 * nc) (nI 0)) := ⟨_, rfl⟩
      have fσ2 := qn_wi eσ2
      refine Exists.intro (60 * t + 5 * nc) (Exists.intro σ2 (And.intro rfl (And.intro ⟨360, rfl, by omega, by decide⟩ (And.intro eσ2.symm ?_))))
      have hf_σ2 : ql lD σ σ2 := hf_σ1.tr (fσ2.mn (by decide))
      have ho_σ2 : ∀ j, j ≠ t → qx_mi σ2 202 j = qx_mi σ 202 j := fun j hj => (fσ2.i 202 j rfl).trans (ho_σ1 j hj)
      have hp_σ2 : mP σ2 Z T t (q_pas T s) := hp_σ1.fr fσ2 (by decide)
      have hlow_σ2 : ∀ j, j < 60 * t + 5 * nc → qx_mi σ2 201 j = qx_mi σ 201 j := fun j hj => (qn_ne eσ2 (Or.inr (by omega))).trans (hlow_σ1 j hj)
      refine And.intro rfl (Exists.intro 201 (And.intro rfl ?_))
      refine Exists.intro (nI 1) (And.intro rfl ?_)
      refine Exists.intro (nI (60 * t + 5 * nc + 1)) (And.intro (nI_add _ _) ?_)
      refine And.intro rfl (Exists.intro 200 (And.intro rfl ?_))
      refine And.intro rfl (Exists.intro 11 (Exists.intro (nI t) (And.intro rfl (And.intro ((fσ2.i _ _ rfl).trans ((fσ1.i _ _ rfl).trans (h.2.2.1))) ?_))))
      refine Exists.intro (t) (Exists.intro (nI s.2.1) (And.intro rfl (And.intro ⟨7, rfl, by omega, by decide⟩ (And.intro ((fσ2.i _ _ rfl).trans ((fσ1.i _ _ rfl).trans (h.2.2.2.2.2.2.1))) ?_))))
      obtain ⟨σ3, eσ3⟩ : ∃ zs, zs = (qx_wi σ2 201 (60 * t + 5 * nc + 1) (nI s.2.1)) := ⟨_, rfl⟩
      have fσ3 := qn_wi eσ3
      refine Exists.intro (60 * t + 5 * nc + 1) (Exists.intro σ3 (And.intro rfl (And.intro ⟨360, rfl, by omega, by decide⟩ (And.intro eσ3.symm ?_))))
      have hf_σ3 : ql lD σ σ3 := hf_σ2.tr (fσ3.mn (by decide))
      have ho_σ3 : ∀ j, j ≠ t → qx_mi σ3 202 j = qx_mi σ 202 j := fun j hj => (fσ3.i 202 j rfl).trans (ho_σ2 j hj)
      have hp_σ3 : mP σ3 Z T t (q_pas T s) := hp_σ2.fr fσ3 (by decide)
      have hlow_σ3 : ∀ j, j < 60 * t + 5 * nc → qx_mi σ3 201 j = qx_mi σ 201 j := fun j hj => (qn_ne eσ3 (Or.inr (by omega))).trans (hlow_σ2 j hj)
      refine Exists.intro (nI 1) (And.intro rfl ?_)
      refine And.intro (fun h50 => ?_) (fun h50 => ?_)
      · skip
        refine And.intro rfl (Exists.intro 201 (And.intro rfl ?_))
        refine Exists.intro (nI 2) (And.intro rfl ?_)
        refine Exists.intro (nI (60 * t + 5 * nc + 2)) (And.intro (nI_add _ _) ?_)
        refine And.intro rfl (Exists.intro 200 (And.intro rfl ?_))
        refine And.intro rfl (Exists.intro 11 (Exists.intro (nI t) (And.intro rfl (And.intro ((fσ3.i _ _ rfl).trans ((fσ2.i _ _ rfl).trans ((fσ1.i _ _ rfl).trans (h.2.2.1)))) ?_))))
        refine Exists.intro (t) (Exists.intro (nI s.2.1) (And.intro rfl (And.intro ⟨7, rfl, by omega, by decide⟩ (And.intro ((fσ3.i _ _ rfl).trans ((fσ2.i _ _ rfl).trans ((fσ1.i _ _ rfl).trans (h.2.2.2.2.2.2.1)))) ?_))))
        obtain ⟨σ4, eσ4⟩ : ∃ zs, zs = (qx_wi σ3 201 (60 * t + 5 * nc + 2) (nI s.2.1)) := ⟨_, rfl⟩
        have fσ4 := qn_wi eσ4
        refine Exists.intro (60 * t + 5 * nc + 2) (Exists.intro σ4 (And.intro rfl (And.intro ⟨360, rfl, by omega, by decide⟩ (And.intro eσ4.symm ?_))))
        have hf_σ4 : ql lD σ σ4 := hf_σ3.tr (fσ4.mn (by decide))
        have ho_σ4 : ∀ j, j ≠ t → qx_mi σ4 202 j = qx_mi σ 202 j := fun j hj => (fσ4.i 202 j rfl).trans (ho_σ3 j hj)
        have hp_σ4 : mP σ4 Z T t (q_pas T s) := hp_σ3.fr fσ4 (by decide)
        have hlow_σ4 : ∀ j, j < 60 * t + 5 * nc → qx_mi σ4 201 j = qx_mi σ 201 j := fun j hj => (qn_ne eσ4 (Or.inr (by omega))).trans (hlow_σ3 j hj)
        refine And.intro rfl (Exists.intro 201 (And.intro rfl ?_))
        refine Exists.intro (nI 3) (And.intro rfl ?_)
        refine Exists.intro (nI (60 * t + 5 * nc + 3)) (And.intro (nI_add _ _) ?_)
        refine Exists.intro ((-1)) (And.intro (by decide) ?_)
        obtain ⟨σ5, eσ5⟩ : ∃ zs, zs = (qx_wi σ4 201 (60 * t + 5 * nc + 3) (-1)) := ⟨_, rfl⟩
        have fσ5 := qn_wi eσ5
        refine Exists.intro (60 * t + 5 * nc + 3) (Exists.intro σ5 (And.intro rfl (And.intro ⟨360, rfl, by omega, by decide⟩ (And.intro eσ5.symm ?_))))
        have hf_σ5 : ql lD σ σ5 := hf_σ4.tr (fσ5.mn (by decide))
        have ho_σ5 : ∀ j, j ≠ t → qx_mi σ5 202 j = qx_mi σ 202 j := fun j hj => (fσ5.i 202 j rfl).trans (ho_σ4 j hj)
        have hp_σ5 : mP σ5 Z T t (q_pas T s) := hp_σ4.fr fσ5 (by decide)
        have hlow_σ5 : ∀ j, j < 60 * t + 5 * nc → qx_mi σ5 201 j = qx_mi σ 201 j := fun j hj => (qn_ne eσ5 (Or.inr (by omega))).trans (hlow_σ4 j hj)
        refine And.intro (fun h89 => ?_) (fun h89 => ?_)
        · skip
          refine And.intro rfl (Exists.intro 201 (And.intro rfl ?_))
          refine Exists.intro (nI 3) (And.intro rfl ?_)
          refine Exists.intro (nI (60 * t + 5 * nc + 3)) (And.intro (nI_add _ _) ?_)
          refine And.intro rfl (Exists.intro 200 (And.intro rfl ?_))
          refine And.intro rfl (Exists.intro 11 (Exists.intro (nI t) (And.intro rfl (And.intro ((fσ5.i _ _ rfl).trans ((fσ4.i _ _ rfl).trans ((fσ3.i _ _ rfl).trans ((fσ2.i _ _ rfl).trans ((fσ1.i _ _ rfl).trans (h.2.2.1)))))) ?_))))
          refine Exists.intro (t) (Exists.intro (nI s.2.1) (And.intro rfl (And.intro ⟨7, rfl, by omega, by decide⟩ (And.intro ((fσ5.i _ _ rfl).trans ((fσ4.i _ _ rfl).trans ((fσ3.i _ _ rfl).trans ((fσ2.i _ _ rfl).trans ((fσ1.i _ _ rfl).trans (h.2.2.2.2.2.2.1)))))) ?_))))
          obtain ⟨σ6, eσ6⟩ : ∃ zs, zs = (qx_wi σ5 201 (60 * t + 5 * nc + 3) (nI s.2.1)) := ⟨_, rfl⟩
          have fσ6 := qn_wi eσ6
          refine Exists.intro (60 * t + 5 * nc + 3) (Exists.intro σ6 (And.intro rfl (And.intro ⟨360, rfl, by omega, by decide⟩ (And.intro eσ6.symm ?_))))
          have hf_σ6 : ql lD σ σ6 := hf_σ5.tr (fσ6.mn (by decide))
          have ho_σ6 : ∀ j, j ≠ t → qx_mi σ6 202 j = qx_mi σ 202 j := fun j hj => (fσ6.i 202 j rfl).trans (ho_σ5 j hj)
          have hp_σ6 : mP σ6 Z T t (q_pas T s) := hp_σ5.fr fσ6 (by decide)
          have hlow_σ6 : ∀ j, j < 60 * t + 5 * nc → qx_mi σ6 201 j = qx_mi σ 201 j := fun j hj => (qn_ne eσ6 (Or.inr (by omega))).trans (hlow_σ5 j hj)
          refine And.intro rfl (Exists.intro _ (And.intro (by decide) (qx_M_mono (mt _ hp_σ6) ?_)))
          rintro _ σ7 ⟨fσ7, rfl, gσ7, zσ7⟩
          have hf_σ7 : ql lD σ σ7 := hf_σ6.tr (fσ7.mn (by decide))
          have ho_σ7 : ∀ j, j ≠ t → qx_mi σ7 202 j = qx_mi σ 202 j := fun j hj => (fσ7.i 202 j rfl).trans (ho_σ6 j hj)
          have hlow_σ7 : ∀ j, j < 60 * t + 5 * nc → qx_mi σ7 201 j = qx_mi σ 201 j := fun j hj => (fσ7.i 201 j rfl).trans (hlow_σ6 j hj)
          refine And.intro (fun h123 => ?_) (fun h123 => ?_)
          · skip
            have h123 := bI_t h123
            exact absurd (h123.symm.trans (rfl)) (by decide)
          · skip
            have h123 := bI_f h123
            refine Exists.intro (nI 0) (And.intro rfl ?_)
            refine And.intro (Or.inl rfl) ?_
            exact ⟨hf_σ7, hlow_σ7, ho_σ7, rfl, gσ7, zσ7⟩
        · skip
          exact absurd (by decide) h89
      · skip
        exact absurd h50 (by decide)
  | ok s2 =>
    rw [hv] at mt
    have hg := q_ts_g (q_FA_g T 10) hv
    have hne : s.2.1 ≠ s2.2.1 := by
      have := q_ts_lt hv
      have : s.2.1 < s2.2.1 := this
      omega
    refine qx_M_mono (Φ := fun r s' => ql lD σ s' ∧ (∀ j, j < 60 * t + 5 * nc → qx_mi s' 201 j = qx_mi σ 201 j) ∧ (∀ j, j ≠ t → qx_mi s' 202 j = qx_mi σ 202 j) ∧ r = some (.int (bI true)) ∧ mP s' Z T t s2 ∧ qx_mi s' 202 t = nI (nc + 1) ∧ mCl s' t nc (true, s.2.1, s.2.1, s2.2.1)) ?_ (fun r s' z => ⟨z.1, z.2.1, z.2.2.1, by show (match q_dB T true (q_pas T s) with | .error f => _ | .ok s2 => _); rw [e2, hv]; exact z.2.2.2⟩)
    · skip
      refine qx_M_in rfl (Nat.le_of_ble_eq_true rfl) ?_
      refine qy_wp_ok (c := CX12_isDoingHere) (cuts := []) vX12_isDoingHere wX12_isDoingHere 2000 0 _ _ _ ?_
      refine And.intro rfl (Exists.intro _ (And.intro (by decide) (qx_M_mono (m_passP h hn8 (by omega)) ?_)))
      rintro _ σ1 ⟨rfl, fσ1, aσ1⟩
      have hf_σ1 : ql lD σ σ1 := hf.tr (fσ1.mn (by decide))
      have hlow_σ1 : ∀ j, j < 60 * t + 5 * nc → qx_mi σ1 201 j = qx_mi σ 201 j := fun j hj => (fσ1.i 201 j rfl).trans (hlow j hj)
      have ho_σ1 : ∀ j, j ≠ t → qx_mi σ1 202 j = qx_mi σ 202 j := fun j hj => (fσ1.i 202 j rfl).trans (ho j hj)
      have hp_σ1 : mP σ1 Z T t (q_pas T s) := aσ1
      refine Exists.intro (nI 60) (And.intro rfl ?_)
      refine And.intro rfl (Exists.intro 11 (Exists.intro (nI t) (And.intro rfl (And.intro ((fσ1.i _ _ rfl).trans (h.2.2.1)) ?_))))
      refine Exists.intro (nI (60 * t)) (And.intro (pk_mul _ _) ?_)
      refine Exists.intro (nI 5) (And.intro rfl ?_)
      refine And.intro rfl (Exists.intro 202 (And.intro rfl ?_))
      refine And.intro rfl (Exists.intro 11 (Exists.intro (nI t) (And.intro rfl (And.intro ((fσ1.i _ _ rfl).trans (h.2.2.1)) ?_))))
      refine Exists.intro (t) (Exists.intro (nI nc) (And.intro rfl (And.intro ⟨6, rfl, by omega, by decide⟩ (And.intro ((fσ1.i _ _ rfl).trans (hc)) ?_))))
      refine Exists.intro (nI (5 * nc)) (And.intro (pk_mul _ _) ?_)
      refine Exists.intro (nI (60 * t + 5 * nc)) (And.intro (nI_add _ _) ?_)
      refine And.intro rfl (Exists.intro 201 (And.intro rfl ?_))
      obtain ⟨σ2, eσ2⟩ : ∃ zs, zs = (qx_wi σ1 201 (60 * t + 5 * nc) (nI 0)) := ⟨_, rfl⟩
      have fσ2 := qn_wi eσ2
      refine Exists.intro (60 * t + 5 * nc) (Exists.intro σ2 (And.intro rfl (And.intro ⟨360, rfl, by omega, by decide⟩ (And.intro eσ2.symm ?_))))
      have hf_σ2 : ql lD σ σ2 := hf_σ1.tr (fσ2.mn (by decide))
      have ho_σ2 : ∀ j, j ≠ t → qx_mi σ2 202 j = qx_mi σ 202 j := fun j hj => (fσ2.i 202 j rfl).trans (ho_σ1 j hj)
      have hp_σ2 : mP σ2 Z T t (q_pas T s) := hp_σ1.fr fσ2 (by decide)
      have hlow_σ2 : ∀ j, j < 60 * t + 5 * nc → qx_mi σ2 201 j = qx_mi σ 201 j := fun j hj => (qn_ne eσ2 (Or.inr (by omega))).trans (hlow_σ1 j hj)
      refine And.intro rfl (Exists.intro 201 (And.intro rfl ?_))
      refine Exists.intro (nI 1) (And.intro rfl ?_)
      refine Exists.intro (nI (60 * t + 5 * nc + 1)) (And.intro (nI_add _ _) ?_)
      refine And.intro rfl (Exists.intro 200 (And.intro rfl ?_))
      refine And.intro rfl (Exists.intro 11 (Exists.intro (nI t) (And.intro rfl (And.intro ((fσ2.i _ _ rfl).trans ((fσ1.i _ _ rfl).trans (h.2.2.1))) ?_))))
      refine Exists.intro (t) (Exists.intro (nI s.2.1) (And.intro rfl (And.intro ⟨7, rfl, by omega, by decide⟩ (And.intro ((fσ2.i _ _ rfl).trans ((fσ1.i _ _ rfl).trans (h.2.2.2.2.2.2.1))) ?_))))
      obtain ⟨σ3, eσ3⟩ : ∃ zs, zs = (qx_wi σ2 201 (60 * t + 5 * nc + 1) (nI s.2.1)) := ⟨_, rfl⟩
      have fσ3 := qn_wi eσ3
      refine Exists.intro (60 * t + 5 * nc + 1) (Exists.intro σ3 (And.intro rfl (And.intro ⟨360, rfl, by omega, by decide⟩ (And.intro eσ3.symm ?_))))
      have hf_σ3 : ql lD σ σ3 := hf_σ2.tr (fσ3.mn (by decide))
      have ho_σ3 : ∀ j, j ≠ t → qx_mi σ3 202 j = qx_mi σ 202 j := fun j hj => (fσ3.i 202 j rfl).trans (ho_σ2 j hj)
      have hp_σ3 : mP σ3 Z T t (q_pas T s) := hp_σ2.fr fσ3 (by decide)
      have hlow_σ3 : ∀ j, j < 60 * t + 5 * nc → qx_mi σ3 201 j = qx_mi σ 201 j := fun j hj => (qn_ne eσ3 (Or.inr (by omega))).trans (hlow_σ2 j hj)
      refine Exists.intro (nI 1) (And.intro rfl ?_)
      refine And.intro (fun h50 => ?_) (fun h50 => ?_)
      · skip
        refine And.intro rfl (Exists.intro 201 (And.intro rfl ?_))
        refine Exists.intro (nI 2) (And.intro rfl ?_)
        refine Exists.intro (nI (60 * t + 5 * nc + 2)) (And.intro (nI_add _ _) ?_)
        refine And.intro rfl (Exists.intro 200 (And.intro rfl ?_))
        refine And.intro rfl (Exists.intro 11 (Exists.intro (nI t) (And.intro rfl (And.intro ((fσ3.i _ _ rfl).trans ((fσ2.i _ _ rfl).trans ((fσ1.i _ _ rfl).trans (h.2.2.1)))) ?_))))
        refine Exists.intro (t) (Exists.intro (nI s.2.1) (And.intro rfl (And.intro ⟨7, rfl, by omega, by decide⟩ (And.intro ((fσ3.i _ _ rfl).trans ((fσ2.i _ _ rfl).trans ((fσ1.i _ _ rfl).trans (h.2.2.2.2.2.2.1)))) ?_))))
        obtain ⟨σ4, eσ4⟩ : ∃ zs, zs = (qx_wi σ3 201 (60 * t + 5 * nc + 2) (nI s.2.1)) := ⟨_, rfl⟩
        have fσ4 := qn_wi eσ4
        refine Exists.intro (60 * t + 5 * nc + 2) (Exists.intro σ4 (And.intro rfl (And.intro ⟨360, rfl, by omega, by decide⟩ (And.intro eσ4.symm ?_))))
        have hf_σ4 : ql lD σ σ4 := hf_σ3.tr (fσ4.mn (by decide))
        have ho_σ4 : ∀ j, j ≠ t → qx_mi σ4 202 j = qx_mi σ 202 j := fun j hj => (fσ4.i 202 j rfl).trans (ho_σ3 j hj)
        have hp_σ4 : mP σ4 Z T t (q_pas T s) := hp_σ3.fr fσ4 (by decide)
        have hlow_σ4 : ∀ j, j < 60 * t + 5 * nc → qx_mi σ4 201 j = qx_mi σ 201 j := fun j hj => (qn_ne eσ4 (Or.inr (by omega))).trans (hlow_σ3 j hj)
        refine And.intro rfl (Exists.intro 201 (And.intro rfl ?_))
        refine Exists.intro (nI 3) (And.intro rfl ?_)
        refine Exists.intro (nI (60 * t + 5 * nc + 3)) (And.intro (nI_add _ _) ?_)
        refine Exists.intro ((-1)) (And.intro (by decide) ?_)
        obtain ⟨σ5, eσ5⟩ : ∃ zs, zs = (qx_wi σ4 201 (60 * t + 5 * nc + 3) (-1)) := ⟨_, rfl⟩
        have fσ5 := qn_wi eσ5
        refine Exists.intro (60 * t + 5 * nc + 3) (Exists.intro σ5 (And.intro rfl (And.intro ⟨360, rfl, by omega, by decide⟩ (And.intro eσ5.symm ?_))))
        have hf_σ5 : ql lD σ σ5 := hf_σ4.tr (fσ5.mn (by decide))
        have ho_σ5 : ∀ j, j ≠ t → qx_mi σ5 202 j = qx_mi σ 202 j := fun j hj => (fσ5.i 202 j rfl).trans (ho_σ4 j hj)
        have hp_σ5 : mP σ5 Z T t (q_pas T s) := hp_σ4.fr fσ5 (by decide)
        have hlow_σ5 : ∀ j, j < 60 * t + 5 * nc → qx_mi σ5 201 j = qx_mi σ 201 j := fun j hj => (qn_ne eσ5 (Or.inr (by omega))).trans (hlow_σ4 j hj)
        refine And.intro (fun h89 => ?_) (fun h89 => ?_)
        · skip
          refine And.intro rfl (Exists.intro 201 (And.intro rfl ?_))
          refine Exists.intro (nI 3) (And.intro rfl ?_)
          refine Exists.intro (nI (60 * t + 5 * nc + 3)) (And.intro (nI_add _ _) ?_)
          refine And.intro rfl (Exists.intro 200 (And.intro rfl ?_))
          refine And.intro rfl (Exists.intro 11 (Exists.intro (nI t) (And.intro rfl (And.intro ((fσ5.i _ _ rfl).trans ((fσ4.i _ _ rfl).trans ((fσ3.i _ _ rfl).trans ((fσ2.i _ _ rfl).trans ((fσ1.i _ _ rfl).trans (h.2.2.1)))))) ?_))))
          refine Exists.intro (t) (Exists.intro (nI s.2.1) (And.intro rfl (And.intro ⟨7, rfl, by omega, by decide⟩ (And.intro ((fσ5.i _ _ rfl).trans ((fσ4.i _ _ rfl).trans ((fσ3.i _ _ rfl).trans ((fσ2.i _ _ rfl).trans ((fσ1.i _ _ rfl).trans (h.2.2.2.2.2.2.1)))))) ?_))))
          obtain ⟨σ6, eσ6⟩ : ∃ zs, zs = (qx_wi σ5 201 (60 * t + 5 * nc + 3) (nI s.2.1)) := ⟨_, rfl⟩
          have fσ6 := qn_wi eσ6
          refine Exists.intro (60 * t + 5 * nc + 3) (Exists.intro σ6 (And.intro rfl (And.intro ⟨360, rfl, by omega, by decide⟩ (And.intro eσ6.symm ?_))))
          have hf_σ6 : ql lD σ σ6 := hf_σ5.tr (fσ6.mn (by decide))
          have ho_σ6 : ∀ j, j ≠ t → qx_mi σ6 202 j = qx_mi σ 202 j := fun j hj => (fσ6.i 202 j rfl).trans (ho_σ5 j hj)
          have hp_σ6 : mP σ6 Z T t (q_pas T s) := hp_σ5.fr fσ6 (by decide)
          have hlow_σ6 : ∀ j, j < 60 * t + 5 * nc → qx_mi σ6 201 j = qx_mi σ 201 j := fun j hj => (qn_ne eσ6 (Or.inr (by omega))).trans (hlow_σ5 j hj)
          refine And.intro rfl (Exists.intro _ (And.intro (by decide) (qx_M_mono (mt _ hp_σ6) ?_)))
          rintro _ σ7 ⟨fσ7, rfl, aσ7⟩
          have hf_σ7 : ql lD σ σ7 := hf_σ6.tr (fσ7.mn (by decide))
          have ho_σ7 : ∀ j, j ≠ t → qx_mi σ7 202 j = qx_mi σ 202 j := fun j hj => (fσ7.i 202 j rfl).trans (ho_σ6 j hj)
          have hlow_σ7 : ∀ j, j < 60 * t + 5 * nc → qx_mi σ7 201 j = qx_mi σ 201 j := fun j hj => (fσ7.i 201 j rfl).trans (hlow_σ6 j hj)
          refine And.intro (fun h123 => ?_) (fun h123 => ?_)
          · skip
            have h123 := bI_t h123
            refine And.intro rfl (Exists.intro 201 (And.intro rfl ?_))
            refine Exists.intro (nI 4) (And.intro rfl ?_)
            refine Exists.intro (nI (60 * t + 5 * nc + 4)) (And.intro (nI_add _ _) ?_)
            refine And.intro rfl (Exists.intro 200 (And.intro rfl ?_))
            refine And.intro rfl (Exists.intro 11 (Exists.intro (nI t) (And.intro rfl (And.intro ((fσ7.i _ _ rfl).trans ((fσ6.i _ _ rfl).trans ((fσ5.i _ _ rfl).trans ((fσ4.i _ _ rfl).trans ((fσ3.i _ _ rfl).trans ((fσ2.i _ _ rfl).trans ((fσ1.i _ _ rfl).trans (h.2.2.1)))))))) ?_))))
            refine Exists.intro (t) (Exists.intro (nI s2.2.1) (And.intro rfl (And.intro ⟨7, rfl, by omega, by decide⟩ (And.intro aσ7.2.2.2.2.2.2.1 ?_))))
            obtain ⟨σ8, eσ8⟩ : ∃ zs, zs = (qx_wi σ7 201 (60 * t + 5 * nc + 4) (nI s2.2.1)) := ⟨_, rfl⟩
            have fσ8 := qn_wi eσ8
            refine Exists.intro (60 * t + 5 * nc + 4) (Exists.intro σ8 (And.intro rfl (And.intro ⟨360, rfl, by omega, by decide⟩ (And.intro eσ8.symm ?_))))
            have hf_σ8 : ql lD σ σ8 := hf_σ7.tr (fσ8.mn (by decide))
            have ho_σ8 : ∀ j, j ≠ t → qx_mi σ8 202 j = qx_mi σ 202 j := fun j hj => (fσ8.i 202 j rfl).trans (ho_σ7 j hj)
            have hlow_σ8 : ∀ j, j < 60 * t + 5 * nc → qx_mi σ8 201 j = qx_mi σ 201 j := fun j hj => (qn_ne eσ8 (Or.inr (by omega))).trans (hlow_σ7 j hj)
            refine And.intro rfl (Exists.intro 202 (And.intro rfl ?_))
            refine And.intro rfl (Exists.intro 11 (Exists.intro (nI t) (And.intro rfl (And.intro ((fσ8.i _ _ rfl).trans ((fσ7.i _ _ rfl).trans ((fσ6.i _ _ rfl).trans ((fσ5.i _ _ rfl).trans ((fσ4.i _ _ rfl).trans ((fσ3.i _ _ rfl).trans ((fσ2.i _ _ rfl).trans ((fσ1.i _ _ rfl).trans (h.2.2.1))))))))) ?_))))
            refine Exists.intro (t) (Exists.intro (nI nc) (And.intro rfl (And.intro ⟨6, rfl, by omega, by decide⟩ (And.intro ((fσ8.i _ _ rfl).trans ((fσ7.i _ _ rfl).trans ((fσ6.i _ _ rfl).trans ((fσ5.i _ _ rfl).trans ((fσ4.i _ _ rfl).trans ((fσ3.i _ _ rfl).trans ((fσ2.i _ _ rfl).trans ((fσ1.i _ _ rfl).trans (hc))))))))) ?_))))
            refine Exists.intro (nI 1) (And.intro rfl ?_)
            refine Exists.intro (nI (nc + 1)) (And.intro (nI_add _ _) ?_)
            obtain ⟨σ9, eσ9⟩ : ∃ zs, zs = (qx_wi σ8 202 t (nI (nc + 1))) := ⟨_, rfl⟩
            have fσ9 := qn_wi eσ9
            refine Exists.intro (t) (Exists.intro σ9 (And.intro rfl (And.intro ⟨6, rfl, by omega, by decide⟩ (And.intro eσ9.symm ?_))))
            have hf_σ9 : ql lD σ σ9 := hf_σ8.tr (fσ9.mn (by decide))
            have hlow_σ9 : ∀ j, j < 60 * t + 5 * nc → qx_mi σ9 201 j = qx_mi σ 201 j := fun j hj => (fσ9.i 201 j rfl).trans (hlow_σ8 j hj)
            have ho_σ9 : ∀ j, j ≠ t → qx_mi σ9 202 j = qx_mi σ 202 j := fun j hj => (qn_ne eσ9 (Or.inr hj)).trans (ho_σ8 j hj)
            refine Exists.intro (nI 1) (And.intro rfl ?_)
            refine And.intro (Or.inr rfl) ?_
            exact ⟨hf_σ9, hlow_σ9, ho_σ9, rfl, (aσ7.fr fσ8 (by decide)).fr fσ9 (by decide), qn_eq eσ9, ((fσ9.i _ _ rfl).trans ((qn_ne eσ8 (Or.inr (by omega))).trans ((fσ7.i _ _ rfl).trans ((qn_ne eσ6 (Or.inr (by omega))).trans ((qn_ne eσ5 (Or.inr (by omega))).trans ((qn_ne eσ4 (Or.inr (by omega))).trans ((qn_ne eσ3 (Or.inr (by omega))).trans (qn_eq eσ2)))))))), ((fσ9.i _ _ rfl).trans ((qn_ne eσ8 (Or.inr (by omega))).trans ((fσ7.i _ _ rfl).trans ((qn_ne eσ6 (Or.inr (by omega))).trans ((qn_ne eσ5 (Or.inr (by omega))).trans ((qn_ne eσ4 (Or.inr (by omega))).trans (qn_eq eσ3))))))), ((fσ9.i _ _ rfl).trans ((qn_ne eσ8 (Or.inr (by omega))).trans ((fσ7.i _ _ rfl).trans ((qn_ne eσ6 (Or.inr (by omega))).trans ((qn_ne eσ5 (Or.inr (by omega))).trans (qn_eq eσ4)))))), (((fσ9.i _ _ rfl).trans ((qn_ne eσ8 (Or.inr (by omega))).trans ((fσ7.i _ _ rfl).trans (qn_eq eσ6))))).trans (if_neg hne).symm, ((fσ9.i _ _ rfl).trans (qn_eq eσ8))⟩
          · skip
            have h123 := bI_f h123
            exact absurd (h123.symm.trans (rfl)) (by decide)
        · skip
          exact absurd (by decide) h89
      · skip
        exact absurd h50 (by decide)
theorem m_isDoing_want {G : qx_G} {σ : qx_S} {Z : Nat → Int32} {T : q_T} {t nc : Nat} {s : q_P} (h : mP σ Z T t s) (hn8 : qx_mi σ 197 8 = nI s.1) (hk : q_kd T s.1 = 316) (hb : s.2.1 ≤ s.1) (hc : qx_mi σ 202 t = nI nc) (hnc : nc < 12) : qx_M G qc_T 9 YX12_isDoingHere [.ref 197, .int (nI 1)] σ (fun r s' => rD σ s' Z T t nc s.2.1 false (q_dA T false (q_pas T s)) (q_dB T false) r) := by
  have t6 := h.2.2.2.1
  have hlt := q_kd_lt (T := T) (p := s.1) (by omega)
  have hnx := q_nx_gt hlt
  have hf : ql lD σ σ := qf.rf
  have hlow : ∀ j, j < 60 * t + 5 * nc → qx_mi σ 201 j = qx_mi σ 201 j := fun _ _ => rfl
  have ho : ∀ j, j ≠ t → qx_mi σ 202 j = qx_mi σ 202 j := fun _ _ => rfl
  have e1 : q_dA T false (q_pas T s) = q_sm T (q_pas T s) := rfl
  rw [e1]
  have ms : ∀ σ1, mP σ1 Z T t (q_pas T s) → qx_M G qc_T 5 YX12_sum [.ref 197] σ1 (fun r s' => rP σ1 s' Z T t (q_sm T (q_pas T s)) r) := fun σ1 a => m_sum a (show s.2.1 ≤ q_nx T s.1 by omega)
  cases hu : q_sm T (q_pas T s) with
  | error f =>
    rw [hu] at ms
    refine qx_M_mono (Φ := fun r s' => ql lD σ s' ∧ (∀ j, j < 60 * t + 5 * nc → qx_mi s' 201 j = qx_mi σ 201 j) ∧ (∀ j, j ≠ t → qx_mi s' 202 j = qx_mi σ 202 j) ∧ r = some (.int (bI false)) ∧ qx_mi s' 197 9 = nI f ∧ ∀ j, j < 400 * t → qx_mi s' 199 j = Z j) ?_ (fun r s' z => z)
    · skip
      refine qx_M_in rfl (Nat.le_of_ble_eq_true rfl) ?_
      refine qy_wp_ok (c := CX12_isDoingHere) (cuts := []) vX12_isDoingHere wX12_isDoingHere 2000 0 _ _ _ ?_
      refine And.intro rfl (Exists.intro _ (And.intro (by decide) (qx_M_mono (m_passP h hn8 (by omega)) ?_)))
      rintro _ σ1 ⟨rfl, fσ1, aσ1⟩
      have hf_σ1 : ql lD σ σ1 := hf.tr (fσ1.mn (by decide))
      have hlow_σ1 : ∀ j, j < 60 * t + 5 * nc → qx_mi σ1 201 j = qx_mi σ 201 j := fun j hj => (fσ1.i 201 j rfl).trans (hlow j hj)
      have ho_σ1 : ∀ j, j ≠ t → qx_mi σ1 202 j = qx_mi σ 202 j := fun j hj => (fσ1.i 202 j rfl).trans (ho j hj)
      have hp_σ1 : mP σ1 Z T t (q_pas T s) := aσ1
      refine Exists.intro (nI 60) (And.intro rfl ?_)
      refine And.intro rfl (Exists.intro 11 (Exists.intro (nI t) (And.intro rfl (And.intro ((fσ1.i _ _ rfl).trans (h.2.2.1)) ?_))))
      refine Exists.intro (nI (60 * t)) (And.intro (pk_mul _ _) ?_)
      refine Exists.intro (nI 5) (And.intro rfl ?_)
      refine And.intro rfl (Exists.intro 202 (And.intro rfl ?_))
      refine And.intro rfl (Exists.intro 11 (Exists.intro (nI t) (And.intro rfl (And.intro ((fσ1.i _ _ rfl).trans (h.2.2.1)) ?_))))
      refine Exists.intro (t) (Exists.intro (nI nc) (And.intro rfl (And.intro ⟨6, rfl, by omega, by decide⟩ (And.intro ((fσ1.i _ _ rfl).trans (hc)) ?_))))
      refine Exists.intro (nI (5 * nc)) (And.intro (pk_mul _ _) ?_)
      refine Exists.intro (nI (60 * t + 5 * nc)) (And.intro (nI_add _ _) ?_)
      refine And.intro rfl (Exists.intro 201 (And.intro rfl ?_))
      obtain ⟨σ2, eσ2⟩ : ∃ zs, zs = (qx_wi σ1 201 (60 * t + 5 * nc) (nI 1)) := ⟨_, rfl⟩
      have fσ2 := qn_wi eσ2
      refine Exists.intro (60 * t + 5 * nc) (Exists.intro σ2 (And.intro rfl (And.intro ⟨360, rfl, by omega, by decide⟩ (And.intro eσ2.symm ?_))))
      have hf_σ2 : ql lD σ σ2 := hf_σ1.tr (fσ2.mn (by decide))
      have ho_σ2 : ∀ j, j ≠ t → qx_mi σ2 202 j = qx_mi σ 202 j := fun j hj => (fσ2.i 202 j rfl).trans (ho_σ1 j hj)
      have hp_σ2 : mP σ2 Z T t (q_pas T s) := hp_σ1.fr fσ2 (by decide)
      have hlow_σ2 : ∀ j, j < 60 * t + 5 * nc → qx_mi σ2 201 j = qx_mi σ 201 j := fun j hj => (qn_ne eσ2 (Or.inr (by omega))).trans (hlow_σ1 j hj)
      refine And.intro rfl (Exists.intro 201 (And.intro rfl ?_))
      refine Exists.intro (nI 1) (And.intro rfl ?_)
      refine Exists.intro (nI (60 * t + 5 * nc + 1)) (And.intro (nI_add _ _) ?_)
      refine And.intro rfl (Exists.intro 200 (And.intro rfl ?_))
      refine And.intro rfl (Exists.intro 11 (Exists.intro (nI t) (And.intro rfl (And.intro ((fσ2.i _ _ rfl).trans ((fσ1.i _ _ rfl).trans (h.2.2.1))) ?_))))
      refine Exists.intro (t) (Exists.intro (nI s.2.1) (And.intro rfl (And.intro ⟨7, rfl, by omega, by decide⟩ (And.intro ((fσ2.i _ _ rfl).trans ((fσ1.i _ _ rfl).trans (h.2.2.2.2.2.2.1))) ?_))))
      obtain ⟨σ3, eσ3⟩ : ∃ zs, zs = (qx_wi σ2 201 (60 * t + 5 * nc + 1) (nI s.2.1)) := ⟨_, rfl⟩
      have fσ3 := qn_wi eσ3
      refine Exists.intro (60 * t + 5 * nc + 1) (Exists.intro σ3 (And.intro rfl (And.intro ⟨360, rfl, by omega, by decide⟩ (And.intro eσ3.symm ?_))))
      have hf_σ3 : ql lD σ σ3 := hf_σ2.tr (fσ3.mn (by decide))
      have ho_σ3 : ∀ j, j ≠ t → qx_mi σ3 202 j = qx_mi σ 202 j := fun j hj => (fσ3.i 202 j rfl).trans (ho_σ2 j hj)
      have hp_σ3 : mP σ3 Z T t (q_pas T s) := hp_σ2.fr fσ3 (by decide)
      have hlow_σ3 : ∀ j, j < 60 * t + 5 * nc → qx_mi σ3 201 j = qx_mi σ 201 j := fun j hj => (qn_ne eσ3 (Or.inr (by omega))).trans (hlow_σ2 j hj)
      refine Exists.intro (nI 1) (And.intro rfl ?_)
      refine And.intro (fun h50 => ?_) (fun h50 => ?_)
      · skip
        exact absurd (by decide) h50
      · skip
        refine And.intro rfl (Exists.intro _ (And.intro (by decide) (qx_M_mono (ms _ hp_σ3) ?_)))
        rintro _ σ4 ⟨fσ4, rfl, gσ4, zσ4⟩
        have hf_σ4 : ql lD σ σ4 := hf_σ3.tr (fσ4.mn (by decide))
        have ho_σ4 : ∀ j, j ≠ t → qx_mi σ4 202 j = qx_mi σ 202 j := fun j hj => (fσ4.i 202 j rfl).trans (ho_σ3 j hj)
        have hlow_σ4 : ∀ j, j < 60 * t + 5 * nc → qx_mi σ4 201 j = qx_mi σ 201 j := fun j hj => (fσ4.i 201 j rfl).trans (hlow_σ3 j hj)
        refine And.intro (fun h57 => ?_) (fun h57 => ?_)
        · skip
          have h57 := bI_t h57
          exact absurd (h57.symm.trans (rfl)) (by decide)
        · skip
          have h57 := bI_f h57
          refine Exists.intro (nI 0) (And.intro rfl ?_)
          refine And.intro (Or.inl rfl) ?_
          exact ⟨hf_σ4, hlow_σ4, ho_σ4, rfl, gσ4, zσ4⟩
  | ok s1 =>
    rw [hu] at ms
    obtain ⟨g0, g1, g2, g3, g4, -⟩ := q_sm_g hu
    have g0 : q_nx T s.1 < s1.1 := g0
    have g3 : s1.2.1 + q_nx T s.1 ≤ s.2.1 + s1.1 := g3
    by_cases ki : q_kd T s1.1 = 317
    · have e2 : q_dB T false s1 = q_ts (q_FA T 10) T (q_pas T s1) := by
        unfold q_dB
        rw [if_neg (by decide), if_pos ki]
      have hlt1 := q_kd_lt (T := T) (p := s1.1) (by omega)
      have hnx1 := q_nx_gt hlt1
      have ei : decide (q_kd T s1.1 = 300 + 17) = true := decide_eq_true (by omega)
      have mw : ∀ σ1, mP σ1 Z T t s1 → qx_M G qc_T 2 YX12_takesWord [.ref 197, .long (lN 26982)] σ1 (fun r s' => r = some (.int (bI true)) ∧ ql [(197, some 8)] σ1 s' ∧ mP s' Z T t (q_pas T s1)) := by
        intro σ1 a
        have := m_takesP (G := G) a 17 (by decide)
        rw [if_pos (show q_kd T s1.1 = 300 + 17 by omega), ei] at this
        exact this
      have mt : ∀ σ1, mP σ1 Z T t (q_pas T s1) → qx_M G qc_T 8 YX12_tested [.ref 197] σ1 (fun r s' => rT σ1 s' Z T t (q_ts (q_FA T 10) T (q_pas T s1)) r) := fun σ1 a => m_tested a (show s1.2.1 ≤ q_nx T s1.1 by omega)
      cases hv : q_ts (q_FA T 10) T (q_pas T s1) with
      | error f =>
        rw [hv] at mt
        refine qx_M_mono (Φ := fun r s' => ql lD σ s' ∧ (∀ j, j < 60 * t + 5 * nc → qx_mi s' 201 j = qx_mi σ 201 j) ∧ (∀ j, j ≠ t → qx_mi s' 202 j = qx_mi σ 202 j) ∧ r = some (.int (bI false)) ∧ qx_mi s' 197 9 = nI f ∧ ∀ j, j < 400 * t → qx_mi s' 199 j = Z j) ?_ (fun r s' z => ⟨z.1, z.2.1, z.2.2.1, by show (match q_dB T false s1 with | .error f => _ | .ok s2 => _); rw [e2, hv]; exact z.2.2.2⟩)
        · skip
          refine qx_M_in rfl (Nat.le_of_ble_eq_true rfl) ?_
          refine qy_wp_ok (c := CX12_isDoingHere) (cuts := []) vX12_isDoingHere wX12_isDoingHere 2000 0 _ _ _ ?_
          refine And.intro rfl (Exists.intro _ (And.intro (by decide) (qx_M_mono (m_passP h hn8 (by omega)) ?_)))
          rintro _ σ1 ⟨rfl, fσ1, aσ1⟩
          have hf_σ1 : ql lD σ σ1 := hf.tr (fσ1.mn (by decide))
          have hlow_σ1 : ∀ j, j < 60 * t + 5 * nc → qx_mi σ1 201 j = qx_mi σ 201 j := fun j hj => (fσ1.i 201 j rfl).trans (hlow j hj)
          have ho_σ1 : ∀ j, j ≠ t → qx_mi σ1 202 j = qx_mi σ 202 j := fun j hj => (fσ1.i 202 j rfl).trans (ho j hj)
          have hp_σ1 : mP σ1 Z T t (q_pas T s) := aσ1
          refine Exists.intro (nI 60) (And.intro rfl ?_)
          refine And.intro rfl (Exists.intro 11 (Exists.intro (nI t) (And.intro rfl (And.intro ((fσ1.i _ _ rfl).trans (h.2.2.1)) ?_))))
          refine Exists.intro (nI (60 * t)) (And.intro (pk_mul _ _) ?_)
          refine Exists.intro (nI 5) (And.intro rfl ?_)
          refine And.intro rfl (Exists.intro 202 (And.intro rfl ?_))
          refine And.intro rfl (Exists.intro 11 (Exists.intro (nI t) (And.intro rfl (And.intro ((fσ1.i _ _ rfl).trans (h.2.2.1)) ?_))))
          refine Exists.intro (t) (Exists.intro (nI nc) (And.intro rfl (And.intro ⟨6, rfl, by omega, by decide⟩ (And.intro ((fσ1.i _ _ rfl).trans (hc)) ?_))))
          refine Exists.intro (nI (5 * nc)) (And.intro (pk_mul _ _) ?_)
          refine Exists.intro (nI (60 * t + 5 * nc)) (And.intro (nI_add _ _) ?_)
          refine And.intro rfl (Exists.intro 201 (And.intro rfl ?_))
          obtain ⟨σ2, eσ2⟩ : ∃ zs, zs = (qx_wi σ1 201 (60 * t + 5 * nc) (nI 1)) := ⟨_, rfl⟩
          have fσ2 := qn_wi eσ2
          refine Exists.intro (60 * t + 5 * nc) (Exists.intro σ2 (And.intro rfl (And.intro ⟨360, rfl, by omega, by decide⟩ (And.intro eσ2.symm ?_))))
          have hf_σ2 : ql lD σ σ2 := hf_σ1.tr (fσ2.mn (by decide))
          have ho_σ2 : ∀ j, j ≠ t → qx_mi σ2 202 j = qx_mi σ 202 j := fun j hj => (fσ2.i 202 j rfl).trans (ho_σ1 j hj)
          have hp_σ2 : mP σ2 Z T t (q_pas T s) := hp_σ1.fr fσ2 (by decide)
          have hlow_σ2 : ∀ j, j < 60 * t + 5 * nc → qx_mi σ2 201 j = qx_mi σ 201 j := fun j hj => (qn_ne eσ2 (Or.inr (by omega))).trans (hlow_σ1 j hj)
          refine And.intro rfl (Exists.intro 201 (And.intro rfl ?_))
          refine Exists.intro (nI 1) (And.intro rfl ?_)
          refine Exists.intro (nI (60 * t + 5 * nc + 1)) (And.intro (nI_add _ _) ?_)
          refine And.intro rfl (Exists.intro 200 (And.intro rfl ?_))
          refine And.intro rfl (Exists.intro 11 (Exists.intro (nI t) (And.intro rfl (And.intro ((fσ2.i _ _ rfl).trans ((fσ1.i _ _ rfl).trans (h.2.2.1))) ?_))))
          refine Exists.intro (t) (Exists.intro (nI s.2.1) (And.intro rfl (And.intro ⟨7, rfl, by omega, by decide⟩ (And.intro ((fσ2.i _ _ rfl).trans ((fσ1.i _ _ rfl).trans (h.2.2.2.2.2.2.1))) ?_))))
          obtain ⟨σ3, eσ3⟩ : ∃ zs, zs = (qx_wi σ2 201 (60 * t + 5 * nc + 1) (nI s.2.1)) := ⟨_, rfl⟩
          have fσ3 := qn_wi eσ3
          refine Exists.intro (60 * t + 5 * nc + 1) (Exists.intro σ3 (And.intro rfl (And.intro ⟨360, rfl, by omega, by decide⟩ (And.intro eσ3.symm ?_))))
          have hf_σ3 : ql lD σ σ3 := hf_σ2.tr (fσ3.mn (by decide))
          have ho_σ3 : ∀ j, j ≠ t → qx_mi σ3 202 j = qx_mi σ 202 j := fun j hj => (fσ3.i 202 j rfl).trans (ho_σ2 j hj)
          have hp_σ3 : mP σ3 Z T t (q_pas T s) := hp_σ2.fr fσ3 (by decide)
          have hlow_σ3 : ∀ j, j < 60 * t + 5 * nc → qx_mi σ3 201 j = qx_mi σ 201 j := fun j hj => (qn_ne eσ3 (Or.inr (by omega))).trans (hlow_σ2 j hj)
          refine Exists.intro (nI 1) (And.intro rfl ?_)
          refine And.intro (fun h50 => ?_) (fun h50 => ?_)
          · skip
            exact absurd (by decide) h50
          · skip
            refine And.intro rfl (Exists.intro _ (And.intro (by decide) (qx_M_mono (ms _ hp_σ3) ?_)))
            rintro _ σ4 ⟨fσ4, rfl, aσ4⟩
            have hf_σ4 : ql lD σ σ4 := hf_σ3.tr (fσ4.mn (by decide))
            have ho_σ4 : ∀ j, j ≠ t → qx_mi σ4 202 j = qx_mi σ 202 j := fun j hj => (fσ4.i 202 j rfl).trans (ho_σ3 j hj)
            have hlow_σ4 : ∀ j, j < 60 * t + 5 * nc → qx_mi σ4 201 j = qx_mi σ 201 j := fun j hj => (fσ4.i 201 j rfl).trans (hlow_σ3 j hj)
            refine And.intro (fun h57 => ?_) (fun h57 => ?_)
            · skip
              have h57 := bI_t h57
              refine And.intro rfl (Exists.intro 201 (And.intro rfl ?_))
              refine Exists.intro (nI 2) (And.intro rfl ?_)
              refine Exists.intro (nI (60 * t + 5 * nc + 2)) (And.intro (nI_add _ _) ?_)
              refine And.intro rfl (Exists.intro 200 (And.intro rfl ?_))
              refine And.intro rfl (Exists.intro 11 (Exists.intro (nI t) (And.intro rfl (And.intro ((fσ4.i _ _ rfl).trans ((fσ3.i _ _ rfl).trans ((fσ2.i _ _ rfl).trans ((fσ1.i _ _ rfl).trans (h.2.2.1))))) ?_))))
              refine Exists.intro (t) (Exists.intro (nI s1.2.1) (And.intro rfl (And.intro ⟨7, rfl, by omega, by decide⟩ (And.intro aσ4.2.2.2.2.2.2.1 ?_))))
              obtain ⟨σ5, eσ5⟩ : ∃ zs, zs = (qx_wi σ4 201 (60 * t + 5 * nc + 2) (nI s1.2.1)) := ⟨_, rfl⟩
              have fσ5 := qn_wi eσ5
              refine Exists.intro (60 * t + 5 * nc + 2) (Exists.intro σ5 (And.intro rfl (And.intro ⟨360, rfl, by omega, by decide⟩ (And.intro eσ5.symm ?_))))
              have hf_σ5 : ql lD σ σ5 := hf_σ4.tr (fσ5.mn (by decide))
              have ho_σ5 : ∀ j, j ≠ t → qx_mi σ5 202 j = qx_mi σ 202 j := fun j hj => (fσ5.i 202 j rfl).trans (ho_σ4 j hj)
              have hlow_σ5 : ∀ j, j < 60 * t + 5 * nc → qx_mi σ5 201 j = qx_mi σ 201 j := fun j hj => (qn_ne eσ5 (Or.inr (by omega))).trans (hlow_σ4 j hj)
              refine And.intro rfl (Exists.intro 201 (And.intro rfl ?_))
              refine Exists.intro (nI 3) (And.intro rfl ?_)
              refine Exists.intro (nI (60 * t + 5 * nc + 3)) (And.intro (nI_add _ _) ?_)
              refine Exists.intro ((-1)) (And.intro (by decide) ?_)
              obtain ⟨σ6, eσ6⟩ : ∃ zs, zs = (qx_wi σ5 201 (60 * t + 5 * nc + 3) (-1)) := ⟨_, rfl⟩
              have fσ6 := qn_wi eσ6
              refine Exists.intro (60 * t + 5 * nc + 3) (Exists.intro σ6 (And.intro rfl (And.intro ⟨360, rfl, by omega, by decide⟩ (And.intro eσ6.symm ?_))))
              have hf_σ6 : ql lD σ σ6 := hf_σ5.tr (fσ6.mn (by decide))
              have ho_σ6 : ∀ j, j ≠ t → qx_mi σ6 202 j = qx_mi σ 202 j := fun j hj => (fσ6.i 202 j rfl).trans (ho_σ5 j hj)
              have hlow_σ6 : ∀ j, j < 60 * t + 5 * nc → qx_mi σ6 201 j = qx_mi σ 201 j := fun j hj => (qn_ne eσ6 (Or.inr (by omega))).trans (hlow_σ5 j hj)
              refine And.intro (fun h89 => ?_) (fun h89 => ?_)
              · skip
                exact absurd h89 (by decide)
              · skip
                refine Exists.intro (lN 26982) (And.intro (by decide) ?_)
                refine And.intro rfl (Exists.intro _ (And.intro (by decide) (qx_M_mono (mw _ ((aσ4.fr fσ5 (by decide)).fr fσ6 (by decide))) ?_)))
                rintro _ σ7 ⟨rfl, fσ7, aσ7⟩
                have hf_σ7 : ql lD σ σ7 := hf_σ6.tr (fσ7.mn (by decide))
                have ho_σ7 : ∀ j, j ≠ t → qx_mi σ7 202 j = qx_mi σ 202 j := fun j hj => (fσ7.i 202 j rfl).trans (ho_σ6 j hj)
                have hlow_σ7 : ∀ j, j < 60 * t + 5 * nc → qx_mi σ7 201 j = qx_mi σ 201 j := fun j hj => (fσ7.i 201 j rfl).trans (hlow_σ6 j hj)
                refine And.intro (fun h99 => ?_) (fun h99 => ?_)
                · skip
                  have h99 := bI_f h99
                  exact absurd (h99.symm.trans (rfl)) (by decide)
                · skip
                  have h99 := bI_t h99
                  refine And.intro rfl (Exists.intro 201 (And.intro rfl ?_))
                  refine Exists.intro (nI 3) (And.intro rfl ?_)
                  refine Exists.intro (nI (60 * t + 5 * nc + 3)) (And.intro (nI_add _ _) ?_)
                  refine And.intro rfl (Exists.intro 200 (And.intro rfl ?_))
                  refine And.intro rfl (Exists.intro 11 (Exists.intro (nI t) (And.intro rfl (And.intro ((fσ7.i _ _ rfl).trans ((fσ6.i _ _ rfl).trans ((fσ5.i _ _ rfl).trans ((fσ4.i _ _ rfl).trans ((fσ3.i _ _ rfl).trans ((fσ2.i _ _ rfl).trans ((fσ1.i _ _ rfl).trans (h.2.2.1)))))))) ?_))))
                  refine Exists.intro (t) (Exists.intro (nI s1.2.1) (And.intro rfl (And.intro ⟨7, rfl, by omega, by decide⟩ (And.intro ((fσ7.i _ _ rfl).trans ((fσ6.i _ _ rfl).trans ((fσ5.i _ _ rfl).trans (aσ4.2.2.2.2.2.2.1)))) ?_))))
                  obtain ⟨σ8, eσ8⟩ : ∃ zs, zs = (qx_wi σ7 201 (60 * t + 5 * nc + 3) (nI s1.2.1)) := ⟨_, rfl⟩
                  have fσ8 := qn_wi eσ8
                  refine Exists.intro (60 * t + 5 * nc + 3) (Exists.intro σ8 (And.intro rfl (And.intro ⟨360, rfl, by omega, by decide⟩ (And.intro eσ8.symm ?_))))
                  have hf_σ8 : ql lD σ σ8 := hf_σ7.tr (fσ8.mn (by decide))
                  have ho_σ8 : ∀ j, j ≠ t → qx_mi σ8 202 j = qx_mi σ 202 j := fun j hj => (fσ8.i 202 j rfl).trans (ho_σ7 j hj)
                  have hlow_σ8 : ∀ j, j < 60 * t + 5 * nc → qx_mi σ8 201 j = qx_mi σ 201 j := fun j hj => (qn_ne eσ8 (Or.inr (by omega))).trans (hlow_σ7 j hj)
                  refine And.intro rfl (Exists.intro _ (And.intro (by decide) (qx_M_mono (mt _ (aσ7.fr fσ8 (by decide))) ?_)))
                  rintro _ σ9 ⟨fσ9, rfl, gσ9, zσ9⟩
                  have hf_σ9 : ql lD σ σ9 := hf_σ8.tr (fσ9.mn (by decide))
                  have ho_σ9 : ∀ j, j ≠ t → qx_mi σ9 202 j = qx_mi σ 202 j := fun j hj => (fσ9.i 202 j rfl).trans (ho_σ8 j hj)
                  have hlow_σ9 : ∀ j, j < 60 * t + 5 * nc → qx_mi σ9 201 j = qx_mi σ 201 j := fun j hj => (fσ9.i 201 j rfl).trans (hlow_σ8 j hj)
                  refine And.intro (fun h123 => ?_) (fun h123 => ?_)
                  · skip
                    have h123 := bI_t h123
                    exact absurd (h123.symm.trans (rfl)) (by decide)
                  · skip
                    have h123 := bI_f h123
                    refine Exists.intro (nI 0) (And.intro rfl ?_)
                    refine And.intro (Or.inl rfl) ?_
                    exact ⟨hf_σ9, hlow_σ9, ho_σ9, rfl, gσ9, zσ9⟩
            · skip
              have h57 := bI_f h57
              exact absurd (h57.symm.trans (rfl)) (by decide)
      | ok s2 =>
        rw [hv] at mt
        have hne : s1.2.1 ≠ s2.2.1 := by
          have := q_ts_lt hv
          have : s1.2.1 < s2.2.1 := this
          omega
        refine qx_M_mono (Φ := fun r s' => ql lD σ s' ∧ (∀ j, j < 60 * t + 5 * nc → qx_mi s' 201 j = qx_mi σ 201 j) ∧ (∀ j, j ≠ t → qx_mi s' 202 j = qx_mi σ 202 j) ∧ r = some (.int (bI true)) ∧ mP s' Z T t s2 ∧ qx_mi s' 202 t = nI (nc + 1) ∧ mCl s' t nc (false, s.2.1, s1.2.1, s2.2.1)) ?_ (fun r s' z => ⟨z.1, z.2.1, z.2.2.1, by show (match q_dB T false s1 with | .error f => _ | .ok s2 => _); rw [e2, hv]; exact z.2.2.2⟩)
        · skip
          refine qx_M_in rfl (Nat.le_of_ble_eq_true rfl) ?_
          refine qy_wp_ok (c := CX12_isDoingHere) (cuts := []) vX12_isDoingHere wX12_isDoingHere 2000 0 _ _ _ ?_
          refine And.intro rfl (Exists.intro _ (And.intro (by decide) (qx_M_mono (m_passP h hn8 (by omega)) ?_)))
          rintro _ σ1 ⟨rfl, fσ1, aσ1⟩
          have hf_σ1 : ql lD σ σ1 := hf.tr (fσ1.mn (by decide))
          have hlow_σ1 : ∀ j, j < 60 * t + 5 * nc → qx_mi σ1 201 j = qx_mi σ 201 j := fun j hj => (fσ1.i 201 j rfl).trans (hlow j hj)
          have ho_σ1 : ∀ j, j ≠ t → qx_mi σ1 202 j = qx_mi σ 202 j := fun j hj => (fσ1.i 202 j rfl).trans (ho j hj)
          have hp_σ1 : mP σ1 Z T t (q_pas T s) := aσ1
          refine Exists.intro (nI 60) (And.intro rfl ?_)
          refine And.intro rfl (Exists.intro 11 (Exists.intro (nI t) (And.intro rfl (And.intro ((fσ1.i _ _ rfl).trans (h.2.2.1)) ?_))))
          refine Exists.intro (nI (60 * t)) (And.intro (pk_mul _ _) ?_)
          refine Exists.intro (nI 5) (And.intro rfl ?_)
          refine And.intro rfl (Exists.intro 202 (And.intro rfl ?_))
          refine And.intro rfl (Exists.intro 11 (Exists.intro (nI t) (And.intro rfl (And.intro ((fσ1.i _ _ rfl).trans (h.2.2.1)) ?_))))
          refine Exists.intro (t) (Exists.intro (nI nc) (And.intro rfl (And.intro ⟨6, rfl, by omega, by decide⟩ (And.intro ((fσ1.i _ _ rfl).trans (hc)) ?_))))
          refine Exists.intro (nI (5 * nc)) (And.intro (pk_mul _ _) ?_)
          refine Exists.intro (nI (60 * t + 5 * nc)) (And.intro (nI_add _ _) ?_)
          refine And.intro rfl (Exists.intro 201 (And.intro rfl ?_))
          obtain ⟨σ2, eσ2⟩ : ∃ zs, zs = (qx_wi σ1 201 (60 * t + 5 * nc) (nI 1)) := ⟨_, rfl⟩
          have fσ2 := qn_wi eσ2
          refine Exists.intro (60 * t + 5 * nc) (Exists.intro σ2 (And.intro rfl (And.intro ⟨360, rfl, by omega, by decide⟩ (And.intro eσ2.symm ?_))))
          have hf_σ2 : ql lD σ σ2 := hf_σ1.tr (fσ2.mn (by decide))
          have ho_σ2 : ∀ j, j ≠ t → qx_mi σ2 202 j = qx_mi σ 202 j := fun j hj => (fσ2.i 202 j rfl).trans (ho_σ1 j hj)
          have hp_σ2 : mP σ2 Z T t (q_pas T s) := hp_σ1.fr fσ2 (by decide)
          have hlow_σ2 : ∀ j, j < 60 * t + 5 * nc → qx_mi σ2 201 j = qx_mi σ 201 j := fun j hj => (qn_ne eσ2 (Or.inr (by omega))).trans (hlow_σ1 j hj)
          refine And.intro rfl (Exists.intro 201 (And.intro rfl ?_))
          refine Exists.intro (nI 1) (And.intro rfl ?_)
          refine Exists.intro (nI (60 * t + 5 * nc + 1)) (And.intro (nI_add _ _) ?_)
          refine And.intro rfl (Exists.intro 200 (And.intro rfl ?_))
          refine And.intro rfl (Exists.intro 11 (Exists.intro (nI t) (And.intro rfl (And.intro ((fσ2.i _ _ rfl).trans ((fσ1.i _ _ rfl).trans (h.2.2.1))) ?_))))
          refine Exists.intro (t) (Exists.intro (nI s.2.1) (And.intro rfl (And.intro ⟨7, rfl, by omega, by decide⟩ (And.intro ((fσ2.i _ _ rfl).trans ((fσ1.i _ _ rfl).trans (h.2.2.2.2.2.2.1))) ?_))))
          obtain ⟨σ3, eσ3⟩ : ∃ zs, zs = (qx_wi σ2 201 (60 * t + 5 * nc + 1) (nI s.2.1)) := ⟨_, rfl⟩
          have fσ3 := qn_wi eσ3
          refine Exists.intro (60 * t + 5 * nc + 1) (Exists.intro σ3 (And.intro rfl (And.intro ⟨360, rfl, by omega, by decide⟩ (And.intro eσ3.symm ?_))))
          have hf_σ3 : ql lD σ σ3 := hf_σ2.tr (fσ3.mn (by decide))
          have ho_σ3 : ∀ j, j ≠ t → qx_mi σ3 202 j = qx_mi σ 202 j := fun j hj => (fσ3.i 202 j rfl).trans (ho_σ2 j hj)
          have hp_σ3 : mP σ3 Z T t (q_pas T s) := hp_σ2.fr fσ3 (by decide)
          have hlow_σ3 : ∀ j, j < 60 * t + 5 * nc → qx_mi σ3 201 j = qx_mi σ 201 j := fun j hj => (qn_ne eσ3 (Or.inr (by omega))).trans (hlow_σ2 j hj)
          refine Exists.intro (nI 1) (And.intro rfl ?_)
          refine And.intro (fun h50 => ?_) (fun h50 => ?_)
          · skip
            exact absurd (by decide) h50
          · skip
            refine And.intro rfl (Exists.intro _ (And.intro (by decide) (qx_M_mono (ms _ hp_σ3) ?_)))
            rintro _ σ4 ⟨fσ4, rfl, aσ4⟩
            have hf_σ4 : ql lD σ σ4 := hf_σ3.tr (fσ4.mn (by decide))
            have ho_σ4 : ∀ j, j ≠ t → qx_mi σ4 202 j = qx_mi σ 202 j := fun j hj => (fσ4.i 202 j rfl).trans (ho_σ3 j hj)
            have hlow_σ4 : ∀ j, j < 60 * t + 5 * nc → qx_mi σ4 201 j = qx_mi σ 201 j := fun j hj => (fσ4.i 201 j rfl).trans (hlow_σ3 j hj)
            refine And.intro (fun h57 => ?_) (fun h57 => ?_)
            · skip
              have h57 := bI_t h57
              refine And.intro rfl (Exists.intro 201 (And.intro rfl ?_))
              refine Exists.intro (nI 2) (And.intro rfl ?_)
              refine Exists.intro (nI (60 * t + 5 * nc + 2)) (And.intro (nI_add _ _) ?_)
              refine And.intro rfl (Exists.intro 200 (And.intro rfl ?_))
              refine And.intro rfl (Exists.intro 11 (Exists.intro (nI t) (And.intro rfl (And.intro ((fσ4.i _ _ rfl).trans ((fσ3.i _ _ rfl).trans ((fσ2.i _ _ rfl).trans ((fσ1.i _ _ rfl).trans (h.2.2.1))))) ?_))))
              refine Exists.intro (t) (Exists.intro (nI s1.2.1) (And.intro rfl (And.intro ⟨7, rfl, by omega, by decide⟩ (And.intro aσ4.2.2.2.2.2.2.1 ?_))))
              obtain ⟨σ5, eσ5⟩ : ∃ zs, zs = (qx_wi σ4 201 (60 * t + 5 * nc + 2) (nI s1.2.1)) := ⟨_, rfl⟩
              have fσ5 := qn_wi eσ5
              refine Exists.intro (60 * t + 5 * nc + 2) (Exists.intro σ5 (And.intro rfl (And.intro ⟨360, rfl, by omega, by decide⟩ (And.intro eσ5.symm ?_))))
              have hf_σ5 : ql lD σ σ5 := hf_σ4.tr (fσ5.mn (by decide))
              have ho_σ5 : ∀ j, j ≠ t → qx_mi σ5 202 j = qx_mi σ 202 j := fun j hj => (fσ5.i 202 j rfl).trans (ho_σ4 j hj)
              have hlow_σ5 : ∀ j, j < 60 * t + 5 * nc → qx_mi σ5 201 j = qx_mi σ 201 j := fun j hj => (qn_ne eσ5 (Or.inr (by omega))).trans (hlow_σ4 j hj)
              refine And.intro rfl (Exists.intro 201 (And.intro rfl ?_))
              refine Exists.intro (nI 3) (And.intro rfl ?_)
              refine Exists.intro (nI (60 * t + 5 * nc + 3)) (And.intro (nI_add _ _) ?_)
              refine Exists.intro ((-1)) (And.intro (by decide) ?_)
              obtain ⟨σ6, eσ6⟩ : ∃ zs, zs = (qx_wi σ5 201 (60 * t + 5 * nc + 3) (-1)) := ⟨_, rfl⟩
              have fσ6 := qn_wi eσ6
              refine Exists.intro (60 * t + 5 * nc + 3) (Exists.intro σ6 (And.intro rfl (And.intro ⟨360, rfl, by omega, by decide⟩ (And.intro eσ6.symm ?_))))
              have hf_σ6 : ql lD σ σ6 := hf_σ5.tr (fσ6.mn (by decide))
              have ho_σ6 : ∀ j, j ≠ t → qx_mi σ6 202 j = qx_mi σ 202 j := fun j hj => (fσ6.i 202 j rfl).trans (ho_σ5 j hj)
              have hlow_σ6 : ∀ j, j < 60 * t + 5 * nc → qx_mi σ6 201 j = qx_mi σ 201 j := fun j hj => (qn_ne eσ6 (Or.inr (by omega))).trans (hlow_σ5 j hj)
              refine And.intro (fun h89 => ?_) (fun h89 => ?_)
              · skip
                exact absurd h89 (by decide)
              · skip
                refine Exists.intro (lN 26982) (And.intro (by decide) ?_)
                refine And.intro rfl (Exists.intro _ (And.intro (by decide) (qx_M_mono (mw _ ((aσ4.fr fσ5 (by decide)).fr fσ6 (by decide))) ?_)))
                rintro _ σ7 ⟨rfl, fσ7, aσ7⟩
                have hf_σ7 : ql lD σ σ7 := hf_σ6.tr (fσ7.mn (by decide))
                have ho_σ7 : ∀ j, j ≠ t → qx_mi σ7 202 j = qx_mi σ 202 j := fun j hj => (fσ7.i 202 j rfl).trans (ho_σ6 j hj)
                have hlow_σ7 : ∀ j, j < 60 * t + 5 * nc → qx_mi σ7 201 j = qx_mi σ 201 j := fun j hj => (fσ7.i 201 j rfl).trans (hlow_σ6 j hj)
                refine And.intro (fun h99 => ?_) (fun h99 => ?_)
                · skip
                  have h99 := bI_f h99
                  exact absurd (h99.symm.trans (rfl)) (by decide)
                · skip
                  have h99 := bI_t h99
                  refine And.intro rfl (Exists.intro 201 (And.intro rfl ?_))
                  refine Exists.intro (nI 3) (And.intro rfl ?_)
                  refine Exists.intro (nI (60 * t + 5 * nc + 3)) (And.intro (nI_add _ _) ?_)
                  refine And.intro rfl (Exists.intro 200 (And.intro rfl ?_))
                  refine And.intro rfl (Exists.intro 11 (Exists.intro (nI t) (And.intro rfl (And.intro ((fσ7.i _ _ rfl).trans ((fσ6.i _ _ rfl).trans ((fσ5.i _ _ rfl).trans ((fσ4.i _ _ rfl).trans ((fσ3.i _ _ rfl).trans ((fσ2.i _ _ rfl).trans ((fσ1.i _ _ rfl).trans (h.2.2.1)))))))) ?_))))
                  refine Exists.intro (t) (Exists.intro (nI s1.2.1) (And.intro rfl (And.intro ⟨7, rfl, by omega, by decide⟩ (And.intro ((fσ7.i _ _ rfl).trans ((fσ6.i _ _ rfl).trans ((fσ5.i _ _ rfl).trans (aσ4.2.2.2.2.2.2.1)))) ?_))))
                  obtain ⟨σ8, eσ8⟩ : ∃ zs, zs = (qx_wi σ7 201 (60 * t + 5 * nc + 3) (nI s1.2.1)) := ⟨_, rfl⟩
                  have fσ8 := qn_wi eσ8
                  refine Exists.intro (60 * t + 5 * nc + 3) (Exists.intro σ8 (And.intro rfl (And.intro ⟨360, rfl, by omega, by decide⟩ (And.intro eσ8.symm ?_))))
                  have hf_σ8 : ql lD σ σ8 := hf_σ7.tr (fσ8.mn (by decide))
                  have ho_σ8 : ∀ j, j ≠ t → qx_mi σ8 202 j = qx_mi σ 202 j := fun j hj => (fσ8.i 202 j rfl).trans (ho_σ7 j hj)
                  have hlow_σ8 : ∀ j, j < 60 * t + 5 * nc → qx_mi σ8 201 j = qx_mi σ 201 j := fun j hj => (qn_ne eσ8 (Or.inr (by omega))).trans (hlow_σ7 j hj)
                  refine And.intro rfl (Exists.intro _ (And.intro (by decide) (qx_M_mono (mt _ (aσ7.fr fσ8 (by decide))) ?_)))
                  rintro _ σ9 ⟨fσ9, rfl, aσ9⟩
                  have hf_σ9 : ql lD σ σ9 := hf_σ8.tr (fσ9.mn (by decide))
                  have ho_σ9 : ∀ j, j ≠ t → qx_mi σ9 202 j = qx_mi σ 202 j := fun j hj => (fσ9.i 202 j rfl).trans (ho_σ8 j hj)
                  have hlow_σ9 : ∀ j, j < 60 * t + 5 * nc → qx_mi σ9 201 j = qx_mi σ 201 j := fun j hj => (fσ9.i 201 j rfl).trans (hlow_σ8 j hj)
                  refine And.intro (fun h123 => ?_) (fun h123 => ?_)
                  · skip
                    have h123 := bI_t h123
                    refine And.intro rfl (Exists.intro 201 (And.intro rfl ?_))
                    refine Exists.intro (nI 4) (And.intro rfl ?_)
                    refine Exists.intro (nI (60 * t + 5 * nc + 4)) (And.intro (nI_add _ _) ?_)
                    refine And.intro rfl (Exists.intro 200 (And.intro rfl ?_))
                    refine And.intro rfl (Exists.intro 11 (Exists.intro (nI t) (And.intro rfl (And.intro ((fσ9.i _ _ rfl).trans ((fσ8.i _ _ rfl).trans ((fσ7.i _ _ rfl).trans ((fσ6.i _ _ rfl).trans ((fσ5.i _ _ rfl).trans ((fσ4.i _ _ rfl).trans ((fσ3.i _ _ rfl).trans ((fσ2.i _ _ rfl).trans ((fσ1.i _ _ rfl).trans (h.2.2.1)))))))))) ?_))))
                    refine Exists.intro (t) (Exists.intro (nI s2.2.1) (And.intro rfl (And.intro ⟨7, rfl, by omega, by decide⟩ (And.intro aσ9.2.2.2.2.2.2.1 ?_))))
                    obtain ⟨σ10, eσ10⟩ : ∃ zs, zs = (qx_wi σ9 201 (60 * t + 5 * nc + 4) (nI s2.2.1)) := ⟨_, rfl⟩
                    have fσ10 := qn_wi eσ10
                    refine Exists.intro (60 * t + 5 * nc + 4) (Exists.intro σ10 (And.intro rfl (And.intro ⟨360, rfl, by omega, by decide⟩ (And.intro eσ10.symm ?_))))
                    have hf_σ10 : ql lD σ σ10 := hf_σ9.tr (fσ10.mn (by decide))
                    have ho_σ10 : ∀ j, j ≠ t → qx_mi σ10 202 j = qx_mi σ 202 j := fun j hj => (fσ10.i 202 j rfl).trans (ho_σ9 j hj)
                    have hlow_σ10 : ∀ j, j < 60 * t + 5 * nc → qx_mi σ10 201 j = qx_mi σ 201 j := fun j hj => (qn_ne eσ10 (Or.inr (by omega))).trans (hlow_σ9 j hj)
                    refine And.intro rfl (Exists.intro 202 (And.intro rfl ?_))
                    refine And.intro rfl (Exists.intro 11 (Exists.intro (nI t) (And.intro rfl (And.intro ((fσ10.i _ _ rfl).trans ((fσ9.i _ _ rfl).trans ((fσ8.i _ _ rfl).trans ((fσ7.i _ _ rfl).trans ((fσ6.i _ _ rfl).trans ((fσ5.i _ _ rfl).trans ((fσ4.i _ _ rfl).trans ((fσ3.i _ _ rfl).trans ((fσ2.i _ _ rfl).trans ((fσ1.i _ _ rfl).trans (h.2.2.1))))))))))) ?_))))
                    refine Exists.intro (t) (Exists.intro (nI nc) (And.intro rfl (And.intro ⟨6, rfl, by omega, by decide⟩ (And.intro ((fσ10.i _ _ rfl).trans ((fσ9.i _ _ rfl).trans ((fσ8.i _ _ rfl).trans ((fσ7.i _ _ rfl).trans ((fσ6.i _ _ rfl).trans ((fσ5.i _ _ rfl).trans ((fσ4.i _ _ rfl).trans ((fσ3.i _ _ rfl).trans ((fσ2.i _ _ rfl).trans ((fσ1.i _ _ rfl).trans (hc))))))))))) ?_))))
                    refine Exists.intro (nI 1) (And.intro rfl ?_)
                    refine Exists.intro (nI (nc + 1)) (And.intro (nI_add _ _) ?_)
                    obtain ⟨σ11, eσ11⟩ : ∃ zs, zs = (qx_wi σ10 202 t (nI (nc + 1))) := ⟨_, rfl⟩
                    have fσ11 := qn_wi eσ11
                    refine Exists.intro (t) (Exists.intro σ11 (And.intro rfl (And.intro ⟨6, rfl, by omega, by decide⟩ (And.intro eσ11.symm ?_))))
                    have hf_σ11 : ql lD σ σ11 := hf_σ10.tr (fσ11.mn (by decide))
                    have hlow_σ11 : ∀ j, j < 60 * t + 5 * nc → qx_mi σ11 201 j = qx_mi σ 201 j := fun j hj => (fσ11.i 201 j rfl).trans (hlow_σ10 j hj)
                    have ho_σ11 : ∀ j, j ≠ t → qx_mi σ11 202 j = qx_mi σ 202 j := fun j hj => (qn_ne eσ11 (Or.inr hj)).trans (ho_σ10 j hj)
                    refine Exists.intro (nI 1) (And.intro rfl ?_)
                    refine And.intro (Or.inr rfl) ?_
                    exact ⟨hf_σ11, hlow_σ11, ho_σ11, rfl, (aσ9.fr fσ10 (by decide)).fr fσ11 (by decide), qn_eq eσ11, ((fσ11.i _ _ rfl).trans ((qn_ne eσ10 (Or.inr (by omega))).trans ((fσ9.i _ _ rfl).trans ((qn_ne eσ8 (Or.inr (by omega))).trans ((fσ7.i _ _ rfl).trans ((qn_ne eσ6 (Or.inr (by omega))).trans ((qn_ne eσ5 (Or.inr (by omega))).trans ((fσ4.i _ _ rfl).trans ((qn_ne eσ3 (Or.inr (by omega))).trans (qn_eq eσ2)))))))))), ((fσ11.i _ _ rfl).trans ((qn_ne eσ10 (Or.inr (by omega))).trans ((fσ9.i _ _ rfl).trans ((qn_ne eσ8 (Or.inr (by omega))).trans ((fσ7.i _ _ rfl).trans ((qn_ne eσ6 (Or.inr (by omega))).trans ((qn_ne eσ5 (Or.inr (by omega))).trans ((fσ4.i _ _ rfl).trans (qn_eq eσ3))))))))), ((fσ11.i _ _ rfl).trans ((qn_ne eσ10 (Or.inr (by omega))).trans ((fσ9.i _ _ rfl).trans ((qn_ne eσ8 (Or.inr (by omega))).trans ((fσ7.i _ _ rfl).trans ((qn_ne eσ6 (Or.inr (by omega))).trans (qn_eq eσ5))))))), (((fσ11.i _ _ rfl).trans ((qn_ne eσ10 (Or.inr (by omega))).trans ((fσ9.i _ _ rfl).trans (qn_eq eσ8))))).trans (if_neg hne).symm, ((fσ11.i _ _ rfl).trans (qn_eq eσ10))⟩
                  · skip
                    have h123 := bI_f h123
                    exact absurd (h123.symm.trans (rfl)) (by decide)
            · skip
              have h57 := bI_f h57
              exact absurd (h57.symm.trans (rfl)) (by decide)
    · have e2 : q_dB T false s1 = .ok s1 := by
        unfold q_dB
        rw [if_neg (by decide), if_neg ki]
      have ei : decide (q_kd T s1.1 = 300 + 17) = false := decide_eq_false (by omega)
      have mw : ∀ σ1, mP σ1 Z T t s1 → qx_M G qc_T 2 YX12_takesWord [.ref 197, .long (lN 26982)] σ1 (fun r s' => r = some (.int (bI false)) ∧ ql [(197, some 8)] σ1 s' ∧ mP s' Z T t s1) := by
        intro σ1 a
        have := m_takesP (G := G) a 17 (by decide)
        rw [if_neg (show ¬ q_kd T s1.1 = 300 + 17 by omega), ei] at this
        exact this
      refine qx_M_mono (Φ := fun r s' => ql lD σ s' ∧ (∀ j, j < 60 * t + 5 * nc → qx_mi s' 201 j = qx_mi σ 201 j) ∧ (∀ j, j ≠ t → qx_mi s' 202 j = qx_mi σ 202 j) ∧ r = some (.int (bI true)) ∧ mP s' Z T t s1 ∧ qx_mi s' 202 t = nI (nc + 1) ∧ mCl s' t nc (false, s.2.1, s1.2.1, s1.2.1)) ?_ (fun r s' z => ⟨z.1, z.2.1, z.2.2.1, by show (match q_dB T false s1 with | .error f => _ | .ok s2 => _); rw [e2]; exact z.2.2.2⟩)
      · skip
        refine qx_M_in rfl (Nat.le_of_ble_eq_true rfl) ?_
        refine qy_wp_ok (c := CX12_isDoingHere) (cuts := []) vX12_isDoingHere wX12_isDoingHere 2000 0 _ _ _ ?_
        refine And.intro rfl (Exists.intro _ (And.intro (by decide) (qx_M_mono (m_passP h hn8 (by omega)) ?_)))
        rintro _ σ1 ⟨rfl, fσ1, aσ1⟩
        have hf_σ1 : ql lD σ σ1 := hf.tr (fσ1.mn (by decide))
        have hlow_σ1 : ∀ j, j < 60 * t + 5 * nc → qx_mi σ1 201 j = qx_mi σ 201 j := fun j hj => (fσ1.i 201 j rfl).trans (hlow j hj)
        have ho_σ1 : ∀ j, j ≠ t → qx_mi σ1 202 j = qx_mi σ 202 j := fun j hj => (fσ1.i 202 j rfl).trans (ho j hj)
        have hp_σ1 : mP σ1 Z T t (q_pas T s) := aσ1
        refine Exists.intro (nI 60) (And.intro rfl ?_)
        refine And.intro rfl (Exists.intro 11 (Exists.intro (nI t) (And.intro rfl (And.intro ((fσ1.i _ _ rfl).trans (h.2.2.1)) ?_))))
        refine Exists.intro (nI (60 * t)) (And.intro (pk_mul _ _) ?_)
        refine Exists.intro (nI 5) (And.intro rfl ?_)
        refine And.intro rfl (Exists.intro 202 (And.intro rfl ?_))
        refine And.intro rfl (Exists.intro 11 (Exists.intro (nI t) (And.intro rfl (And.intro ((fσ1.i _ _ rfl).trans (h.2.2.1)) ?_))))
        refine Exists.intro (t) (Exists.intro (nI nc) (And.intro rfl (And.intro ⟨6, rfl, by omega, by decide⟩ (And.intro ((fσ1.i _ _ rfl).trans (hc)) ?_))))
        refine Exists.intro (nI (5 * nc)) (And.intro (pk_mul _ _) ?_)
        refine Exists.intro (nI (60 * t + 5 * nc)) (And.intro (nI_add _ _) ?_)
        refine And.intro rfl (Exists.intro 201 (And.intro rfl ?_))
        obtain ⟨σ2, eσ2⟩ : ∃ zs, zs = (qx_wi σ1 201 (60 * t + 5 * nc) (nI 1)) := ⟨_, rfl⟩
        have fσ2 := qn_wi eσ2
        refine Exists.intro (60 * t + 5 * nc) (Exists.intro σ2 (And.intro rfl (And.intro ⟨360, rfl, by omega, by decide⟩ (And.intro eσ2.symm ?_))))
        have hf_σ2 : ql lD σ σ2 := hf_σ1.tr (fσ2.mn (by decide))
        have ho_σ2 : ∀ j, j ≠ t → qx_mi σ2 202 j = qx_mi σ 202 j := fun j hj => (fσ2.i 202 j rfl).trans (ho_σ1 j hj)
        have hp_σ2 : mP σ2 Z T t (q_pas T s) := hp_σ1.fr fσ2 (by decide)
        have hlow_σ2 : ∀ j, j < 60 * t + 5 * nc → qx_mi σ2 201 j = qx_mi σ 201 j := fun j hj => (qn_ne eσ2 (Or.inr (by omega))).trans (hlow_σ1 j hj)
        refine And.intro rfl (Exists.intro 201 (And.intro rfl ?_))
        refine Exists.intro (nI 1) (And.intro rfl ?_)
        refine Exists.intro (nI (60 * t + 5 * nc + 1)) (And.intro (nI_add _ _) ?_)
        refine And.intro rfl (Exists.intro 200 (And.intro rfl ?_))
        refine And.intro rfl (Exists.intro 11 (Exists.intro (nI t) (And.intro rfl (And.intro ((fσ2.i _ _ rfl).trans ((fσ1.i _ _ rfl).trans (h.2.2.1))) ?_))))
        refine Exists.intro (t) (Exists.intro (nI s.2.1) (And.intro rfl (And.intro ⟨7, rfl, by omega, by decide⟩ (And.intro ((fσ2.i _ _ rfl).trans ((fσ1.i _ _ rfl).trans (h.2.2.2.2.2.2.1))) ?_))))
        obtain ⟨σ3, eσ3⟩ : ∃ zs, zs = (qx_wi σ2 201 (60 * t + 5 * nc + 1) (nI s.2.1)) := ⟨_, rfl⟩
        have fσ3 := qn_wi eσ3
        refine Exists.intro (60 * t + 5 * nc + 1) (Exists.intro σ3 (And.intro rfl (And.intro ⟨360, rfl, by omega, by decide⟩ (And.intro eσ3.symm ?_))))
        have hf_σ3 : ql lD σ σ3 := hf_σ2.tr (fσ3.mn (by decide))
        have ho_σ3 : ∀ j, j ≠ t → qx_mi σ3 202 j = qx_mi σ 202 j := fun j hj => (fσ3.i 202 j rfl).trans (ho_σ2 j hj)
        have hp_σ3 : mP σ3 Z T t (q_pas T s) := hp_σ2.fr fσ3 (by decide)
        have hlow_σ3 : ∀ j, j < 60 * t + 5 * nc → qx_mi σ3 201 j = qx_mi σ 201 j := fun j hj => (qn_ne eσ3 (Or.inr (by omega))).trans (hlow_σ2 j hj)
        refine Exists.intro (nI 1) (And.intro rfl ?_)
        refine And.intro (fun h50 => ?_) (fun h50 => ?_)
        · skip
          exact absurd (by decide) h50
        · skip
          refine And.intro rfl (Exists.intro _ (And.intro (by decide) (qx_M_mono (ms _ hp_σ3) ?_)))
          rintro _ σ4 ⟨fσ4, rfl, aσ4⟩
          have hf_σ4 : ql lD σ σ4 := hf_σ3.tr (fσ4.mn (by decide))
          have ho_σ4 : ∀ j, j ≠ t → qx_mi σ4 202 j = qx_mi σ 202 j := fun j hj => (fσ4.i 202 j rfl).trans (ho_σ3 j hj)
          have hlow_σ4 : ∀ j, j < 60 * t + 5 * nc → qx_mi σ4 201 j = qx_mi σ 201 j := fun j hj => (fσ4.i 201 j rfl).trans (hlow_σ3 j hj)
          refine And.intro (fun h57 => ?_) (fun h57 => ?_)
          · skip
            have h57 := bI_t h57
            refine And.intro rfl (Exists.intro 201 (And.intro rfl ?_))
            refine Exists.intro (nI 2) (And.intro rfl ?_)
            refine Exists.intro (nI (60 * t + 5 * nc + 2)) (And.intro (nI_add _ _) ?_)
            refine And.intro rfl (Exists.intro 200 (And.intro rfl ?_))
            refine And.intro rfl (Exists.intro 11 (Exists.intro (nI t) (And.intro rfl (And.intro ((fσ4.i _ _ rfl).trans ((fσ3.i _ _ rfl).trans ((fσ2.i _ _ rfl).trans ((fσ1.i _ _ rfl).trans (h.2.2.1))))) ?_))))
            refine Exists.intro (t) (Exists.intro (nI s1.2.1) (And.intro rfl (And.intro ⟨7, rfl, by omega, by decide⟩ (And.intro aσ4.2.2.2.2.2.2.1 ?_))))
            obtain ⟨σ5, eσ5⟩ : ∃ zs, zs = (qx_wi σ4 201 (60 * t + 5 * nc + 2) (nI s1.2.1)) := ⟨_, rfl⟩
            have fσ5 := qn_wi eσ5
            refine Exists.intro (60 * t + 5 * nc + 2) (Exists.intro σ5 (And.intro rfl (And.intro ⟨360, rfl, by omega, by decide⟩ (And.intro eσ5.symm ?_))))
            have hf_σ5 : ql lD σ σ5 := hf_σ4.tr (fσ5.mn (by decide))
            have ho_σ5 : ∀ j, j ≠ t → qx_mi σ5 202 j = qx_mi σ 202 j := fun j hj => (fσ5.i 202 j rfl).trans (ho_σ4 j hj)
            have hlow_σ5 : ∀ j, j < 60 * t + 5 * nc → qx_mi σ5 201 j = qx_mi σ 201 j := fun j hj => (qn_ne eσ5 (Or.inr (by omega))).trans (hlow_σ4 j hj)
            refine And.intro rfl (Exists.intro 201 (And.intro rfl ?_))
            refine Exists.intro (nI 3) (And.intro rfl ?_)
            refine Exists.intro (nI (60 * t + 5 * nc + 3)) (And.intro (nI_add _ _) ?_)
            refine Exists.intro ((-1)) (And.intro (by decide) ?_)
            obtain ⟨σ6, eσ6⟩ : ∃ zs, zs = (qx_wi σ5 201 (60 * t + 5 * nc + 3) (-1)) := ⟨_, rfl⟩
            have fσ6 := qn_wi eσ6
            refine Exists.intro (60 * t + 5 * nc + 3) (Exists.intro σ6 (And.intro rfl (And.intro ⟨360, rfl, by omega, by decide⟩ (And.intro eσ6.symm ?_))))
            have hf_σ6 : ql lD σ σ6 := hf_σ5.tr (fσ6.mn (by decide))
            have ho_σ6 : ∀ j, j ≠ t → qx_mi σ6 202 j = qx_mi σ 202 j := fun j hj => (fσ6.i 202 j rfl).trans (ho_σ5 j hj)
            have hlow_σ6 : ∀ j, j < 60 * t + 5 * nc → qx_mi σ6 201 j = qx_mi σ 201 j := fun j hj => (qn_ne eσ6 (Or.inr (by omega))).trans (hlow_σ5 j hj)
            refine And.intro (fun h89 => ?_) (fun h89 => ?_)
            · skip
              exact absurd h89 (by decide)
            · skip
              refine Exists.intro (lN 26982) (And.intro (by decide) ?_)
              refine And.intro rfl (Exists.intro _ (And.intro (by decide) (qx_M_mono (mw _ ((aσ4.fr fσ5 (by decide)).fr fσ6 (by decide))) ?_)))
              rintro _ σ7 ⟨rfl, fσ7, aσ7⟩
              have hf_σ7 : ql lD σ σ7 := hf_σ6.tr (fσ7.mn (by decide))
              have ho_σ7 : ∀ j, j ≠ t → qx_mi σ7 202 j = qx_mi σ 202 j := fun j hj => (fσ7.i 202 j rfl).trans (ho_σ6 j hj)
              have hlow_σ7 : ∀ j, j < 60 * t + 5 * nc → qx_mi σ7 201 j = qx_mi σ 201 j := fun j hj => (fσ7.i 201 j rfl).trans (hlow_σ6 j hj)
              refine And.intro (fun h99 => ?_) (fun h99 => ?_)
              · skip
                have h99 := bI_f h99
                refine And.intro rfl (Exists.intro 201 (And.intro rfl ?_))
                refine Exists.intro (nI 4) (And.intro rfl ?_)
                refine Exists.intro (nI (60 * t + 5 * nc + 4)) (And.intro (nI_add _ _) ?_)
                refine And.intro rfl (Exists.intro 200 (And.intro rfl ?_))
                refine And.intro rfl (Exists.intro 11 (Exists.intro (nI t) (And.intro rfl (And.intro ((fσ7.i _ _ rfl).trans ((fσ6.i _ _ rfl).trans ((fσ5.i _ _ rfl).trans ((fσ4.i _ _ rfl).trans ((fσ3.i _ _ rfl).trans ((fσ2.i _ _ rfl).trans ((fσ1.i _ _ rfl).trans (h.2.2.1)))))))) ?_))))
                refine Exists.intro (t) (Exists.intro (nI s1.2.1) (And.intro rfl (And.intro ⟨7, rfl, by omega, by decide⟩ (And.intro ((fσ7.i _ _ rfl).trans ((fσ6.i _ _ rfl).trans ((fσ5.i _ _ rfl).trans (aσ4.2.2.2.2.2.2.1)))) ?_))))
                obtain ⟨σ8, eσ8⟩ : ∃ zs, zs = (qx_wi σ7 201 (60 * t + 5 * nc + 4) (nI s1.2.1)) := ⟨_, rfl⟩
                have fσ8 := qn_wi eσ8
                refine Exists.intro (60 * t + 5 * nc + 4) (Exists.intro σ8 (And.intro rfl (And.intro ⟨360, rfl, by omega, by decide⟩ (And.intro eσ8.symm ?_))))
                have hf_σ8 : ql lD σ σ8 := hf_σ7.tr (fσ8.mn (by decide))
                have ho_σ8 : ∀ j, j ≠ t → qx_mi σ8 202 j = qx_mi σ 202 j := fun j hj => (fσ8.i 202 j rfl).trans (ho_σ7 j hj)
                have hlow_σ8 : ∀ j, j < 60 * t + 5 * nc → qx_mi σ8 201 j = qx_mi σ 201 j := fun j hj => (qn_ne eσ8 (Or.inr (by omega))).trans (hlow_σ7 j hj)
                refine And.intro rfl (Exists.intro 202 (And.intro rfl ?_))
                refine And.intro rfl (Exists.intro 11 (Exists.intro (nI t) (And.intro rfl (And.intro ((fσ8.i _ _ rfl).trans ((fσ7.i _ _ rfl).trans ((fσ6.i _ _ rfl).trans ((fσ5.i _ _ rfl).trans ((fσ4.i _ _ rfl).trans ((fσ3.i _ _ rfl).trans ((fσ2.i _ _ rfl).trans ((fσ1.i _ _ rfl).trans (h.2.2.1))))))))) ?_))))
                refine Exists.intro (t) (Exists.intro (nI nc) (And.intro rfl (And.intro ⟨6, rfl, by omega, by decide⟩ (And.intro ((fσ8.i _ _ rfl).trans ((fσ7.i _ _ rfl).trans ((fσ6.i _ _ rfl).trans ((fσ5.i _ _ rfl).trans ((fσ4.i _ _ rfl).trans ((fσ3.i _ _ rfl).trans ((fσ2.i _ _ rfl).trans ((fσ1.i _ _ rfl).trans (hc))))))))) ?_))))
                refine Exists.intro (nI 1) (And.intro rfl ?_)
                refine Exists.intro (nI (nc + 1)) (And.intro (nI_add _ _) ?_)
                obtain ⟨σ9, eσ9⟩ : ∃ zs, zs = (qx_wi σ8 202 t (nI (nc + 1))) := ⟨_, rfl⟩
                have fσ9 := qn_wi eσ9
                refine Exists.intro (t) (Exists.intro σ9 (And.intro rfl (And.intro ⟨6, rfl, by omega, by decide⟩ (And.intro eσ9.symm ?_))))
                have hf_σ9 : ql lD σ σ9 := hf_σ8.tr (fσ9.mn (by decide))
                have hlow_σ9 : ∀ j, j < 60 * t + 5 * nc → qx_mi σ9 201 j = qx_mi σ 201 j := fun j hj => (fσ9.i 201 j rfl).trans (hlow_σ8 j hj)
                have ho_σ9 : ∀ j, j ≠ t → qx_mi σ9 202 j = qx_mi σ 202 j := fun j hj => (qn_ne eσ9 (Or.inr hj)).trans (ho_σ8 j hj)
                refine Exists.intro (nI 1) (And.intro rfl ?_)
                refine And.intro (Or.inr rfl) ?_
                exact ⟨hf_σ9, hlow_σ9, ho_σ9, rfl, (aσ7.fr fσ8 (by decide)).fr fσ9 (by decide), qn_eq eσ9, ((fσ9.i _ _ rfl).trans ((qn_ne eσ8 (Or.inr (by omega))).trans ((fσ7.i _ _ rfl).trans ((qn_ne eσ6 (Or.inr (by omega))).trans ((qn_ne eσ5 (Or.inr (by omega))).trans ((fσ4.i _ _ rfl).trans ((qn_ne eσ3 (Or.inr (by omega))).trans (qn_eq eσ2)))))))), ((fσ9.i _ _ rfl).trans ((qn_ne eσ8 (Or.inr (by omega))).trans ((fσ7.i _ _ rfl).trans ((qn_ne eσ6 (Or.inr (by omega))).trans ((qn_ne eσ5 (Or.inr (by omega))).trans ((fσ4.i _ _ rfl).trans (qn_eq eσ3))))))), ((fσ9.i _ _ rfl).trans ((qn_ne eσ8 (Or.inr (by omega))).trans ((fσ7.i _ _ rfl).trans ((qn_ne eσ6 (Or.inr (by omega))).trans (qn_eq eσ5))))), (((fσ9.i _ _ rfl).trans ((qn_ne eσ8 (Or.inr (by omega))).trans ((fσ7.i _ _ rfl).trans (qn_eq eσ6))))).trans (if_pos rfl).symm, ((fσ9.i _ _ rfl).trans (qn_eq eσ8))⟩
              · skip
                have h99 := bI_t h99
                exact absurd (h99.symm.trans (rfl)) (by decide)
          · skip
            have h57 := bI_f h57
            exact absurd (h57.symm.trans (rfl)) (by decide)

