/-! THE REFERENCE: rule -/
/-- one clause -/
def q_oc (T : q_T) (s : q_P) (nc : Nat) : Except Nat (q_P × Bool × Nat × Nat × Nat) := if q_kd T s.1 ≠ 315 ∧ q_kd T s.1 ≠ 316 then .error (1 + 8 * s.1 + 0) else if nc = 12 then .error (1 + 8 * s.1 + 4) else match q_dA T (decide (q_kd T s.1 = 315)) (q_pas T s) with
    | .error f => .error f
    | .ok s1 => match q_dB T (decide (q_kd T s.1 = 315)) s1 with
      | .error f => .error f
      | .ok s2 => .ok (s2, decide (q_kd T s.1 = 315), s.2.1, s1.2.1, s2.2.1)
/-- all clauses from one on: fault, or the rule -/
def q_ruc (T : q_T) : Nat → q_P → Nat → q_ci → Except Nat qR
  | 0, _, _, _ => .error 0
  | m + 1, s, nc, ci => match q_oc T s nc with
    | .error f => .error f
    | .ok y => if q_kd T y.1.1 = 59 then q_ruc T m (q_pas T y.1) (nc + 1) (va_up ci nc y.2) else if q_kd T y.1.1 = 999 then .ok (nc + 1, y.1.2.1, y.1.2.2.1, va_up ci nc y.2) else .error (1 + 8 * y.1.1 + 0)
def q_s0 (T : q_T) : q_P := (q_sk T 0, 0, fun _ => 0, 0)
def q_ru (T : q_T) : Except Nat qR := q_ruc T 13 (q_s0 T) 0 (fun _ => (false, 0, 0, 0))
/-- clauses so far in memory; what lies below -/
def mU (σ : qx_S) (Z : Nat → Int32) (T : q_T) (t : Nat) (s : q_P) (nc : Nat) (ci : q_ci) : Prop := mP σ Z T t s ∧ s.2.1 ≤ s.1 ∧ qx_mi σ 202 t = nI nc ∧ qx_mi σ 197 14 = nI nc ∧ nc ≤ 12 ∧ ∀ c, c < nc → mCl σ t c (ci c)
theorem mCl.fr {σ s' : qx_S} {t c nc : Nat} {i : Bool × Nat × Nat × Nat} (h : mCl σ t c i) (f : ∀ j, j < 60 * t + 5 * nc → qx_mi s' 201 j = qx_mi σ 201 j) (hc : c < nc) : mCl s' t c i :=
  ⟨(f _ (by omega)).trans h.1, (f _ (by omega)).trans h.2.1, (f _ (by omega)).trans h.2.2.1, (f _ (by omega)).trans h.2.2.2.1, (f _ (by omega)).trans h.2.2.2.2⟩
abbrev lE2 : List (Nat × Option Nat) := [(197, some 8), (197, some 9), (197, some 10), (197, some 12), (199, none), (200, none), (197, some 13), (197, some 16), (204, none), (201, none), (202, none), (197, some 14)]
/-- what a clause here answers -/
def rL (σ s' : qx_S) (Z : Nat → Int32) (T : q_T) (t nc : Nat) (ci : q_ci) (x : Except Nat (q_P × Bool × Nat × Nat × Nat)) (r : Option Value) : Prop := ql lE2 σ s' ∧ (∀ j, j < 60 * t → qx_mi s' 201 j = qx_mi σ 201 j) ∧ (∀ j, j ≠ t → qx_mi s' 202 j = qx_mi σ 202 j) ∧ (match x with
  | .error f => r = some (.int (bI false)) ∧ qx_mi s' 197 9 = nI f ∧ ∀ j, j < 400 * t → qx_mi s' 199 j = Z j
  | .ok y => r = some (.int (bI true)) ∧ mU s' Z T t y.1 (nc + 1) (va_up ci nc y.2))
theorem q_dA_g {T : q_T} {bar : Bool} {s s' : q_P} (h : q_dA T bar s = .ok s') : gQ T s s' := by
  unfold q_dA at h
  split at h
  · exact Or.inl (Except.ok.inj h).symm
  · exact Or.inr (q_sm_g h)
theorem q_dB_g {T : q_T} {bar : Bool} {s s' : q_P} (h : q_dB T bar s = .ok s') : gQ T s s' := by
  unfold q_dB at h
  split at h
  · exact Or.inr (q_ts_g (q_FA_g T 10) h)
  · split at h
    · next hk => exact Or.inr ((gP.pas (by omega)).tr (q_ts_g (q_FA_g T 10) h))
    · exact Or.inl (Except.ok.inj h).symm
theorem q_oc_g {T : q_T} {s : q_P} {nc : Nat} {y : q_P × Bool × Nat × Nat × Nat} (h : q_oc T s nc = .ok y) : gP T s y.1 := by
  unfold q_oc at h
  split at h
  · cases h
  · next hk =>
    split at h
    · cases h
    · split at h
      · cases h
      · next s1 h1 =>
        split at h
        · cases h
        · next s2 h2 =>
          have e := (Except.ok.inj h).symm
          rw [e]
          exact ((gP.pas (by omega)).q (q_dA_g h1)).q (q_dB_g h2)
theorem rD.rL {σ σ1 s' : qx_S} {Z : Nat → Int32} {T : q_T} {t nc : Nat} {ci : q_ci} {s : q_P} {bar : Bool} {r : Option Value} (hU : mU σ Z T t s nc ci) (f1 : ql [(197, some 8), (197, some 14)] σ σ1) (e14 : qx_mi σ1 197 14 = nI (nc + 1)) (hnc : nc < 12) (hk : q_kd T s.1 = (if bar = true then 315 else 316)) (h : rD σ1 s' Z T t nc s.2.1 bar (q_dA T bar (q_pas T s)) (q_dB T bar) r) : rL σ s' Z T t nc ci (q_oc T s nc) r := by
  obtain ⟨a, b, c, d⟩ := h
  obtain ⟨u1, u2, u3, u4, u5, u6⟩ := hU
  refine ⟨(f1.mn (by decide)).tr (a.mn (by decide)), fun j hj => (b j (by omega)).trans (f1.i _ _ rfl), fun j hj => (c j hj).trans (f1.i _ _ rfl), ?_⟩
  have hb : decide (q_kd T s.1 = 315) = bar := by
    cases bar with
    | true => exact decide_eq_true hk
    | false =>
      have hk : q_kd T s.1 = 316 := hk
      exact decide_eq_false (by omega)
  have hk2 : ¬ (q_kd T s.1 ≠ 315 ∧ q_kd T s.1 ≠ 316) := by
    split at hk <;> omega
  have eo : q_oc T s nc = match q_dA T bar (q_pas T s) with
    | .error f => .error f
    | .ok s1 => match q_dB T bar s1 with
      | .error f => .error f
      | .ok s2 => .ok (s2, bar, s.2.1, s1.2.1, s2.2.1) := by
    unfold q_oc
    rw [if_neg hk2, if_neg (by omega), hb]
  cases h1 : q_dA T bar (q_pas T s) with
  | error f =>
    rw [h1] at d eo
    rw [eo]
    exact d
  | ok s1 =>
    rw [h1] at d eo
    cases h2 : q_dB T bar s1 with
    | error f =>
      have d2 : (match q_dB T bar s1 with
        | .error f => r = some (.int (bI false)) ∧ qx_mi s' 197 9 = nI f ∧ ∀ j, j < 400 * t → qx_mi s' 199 j = Z j
        | .ok s2 => r = some (.int (bI true)) ∧ mP s' Z T t s2 ∧ qx_mi s' 202 t = nI (nc + 1) ∧ mCl s' t nc (bar, s.2.1, s1.2.1, s2.2.1)) := d
      have eo2 : q_oc T s nc = match q_dB T bar s1 with
        | .error f => .error f
        | .ok s2 => .ok (s2, bar, s.2.1, s1.2.1, s2.2.1) := eo
      rw [h2] at d2 eo2
      rw [eo2]
      exact d2
    | ok s2 =>
      have d2 : (match q_dB T bar s1 with
        | .error f => r = some (.int (bI false)) ∧ qx_mi s' 197 9 = nI f ∧ ∀ j, j < 400 * t → qx_mi s' 199 j = Z j
        | .ok s2 => r = some (.int (bI true)) ∧ mP s' Z T t s2 ∧ qx_mi s' 202 t = nI (nc + 1) ∧ mCl s' t nc (bar, s.2.1, s1.2.1, s2.2.1)) := d
      have eo2 : q_oc T s nc = match q_dB T bar s1 with
        | .error f => .error f
        | .ok s2 => .ok (s2, bar, s.2.1, s1.2.1, s2.2.1) := eo
      rw [h2] at d2 eo2
      have hg := q_oc_g eo2
      rw [eo2]
      obtain ⟨d1, d3, d4, d5⟩ := d2
      have g4 : s2.2.1 + s.1 ≤ s.2.1 + s2.1 := hg.2.2.2.1
      refine ⟨d1, d3, by show s2.2.1 ≤ s2.1; omega, d4, (a.i _ _ rfl).trans e14, hnc, fun c' hc' => ?_⟩
      by_cases z : c' = nc
      · rw [z, va_up_self]
        exact d5
      · rw [va_up_ne _ _ z]
        refine (u6 c' (by omega)).fr (nc := nc) (fun j hj => (b j hj).trans (f1.i _ _ rfl)) (by omega)
def xOk {α : Type} (x : Except Nat α) : Bool := match x with
  | .error _ => false
  | .ok _ => true
theorem rL_b {σ s' : qx_S} {Z : Nat → Int32} {T : q_T} {t nc : Nat} {ci : q_ci} {x : Except Nat (q_P × Bool × Nat × Nat × Nat)} {r : Option Value} (h : rL σ s' Z T t nc ci x r) : r = some (.int (bI (xOk x))) := by
  obtain ⟨-, -, -, d⟩ := h
  cases x with
  | error f => exact d.1
  | ok y => exact d.1
theorem m_clauseR {G : qx_G} {σ : qx_S} {Z : Nat → Int32} {T : q_T} {t nc : Nat} {ci : q_ci} {s : q_P} (hU : mU σ Z T t s nc ci) : qx_M G qc_T 10 YX12_clauseHere [.ref 197] σ (fun r s' => rL σ s' Z T t nc ci (q_oc T s nc) r) := by
  obtain ⟨h, hb, u3, u4, u5, u6⟩ := id hU
  obtain ⟨hsk, hle, h400, hby⟩ := h.sk
  have t6 := h.2.2.2.1
  have hf : ql [(197, some 8), (197, some 14)] σ σ := qf.rf
  have fin : ∀ σ1 s' f, q_oc T s nc = .error f → mP σ1 Z T t s → ql [(197, some 8), (197, some 14)] σ σ1 → ql [(197, some 9)] σ1 s' → qx_mi s' 197 9 = nI f → rL σ s' Z T t nc ci (q_oc T s nc) (some (.int (bI false))) := by
    intro σ1 s' f e a f1 f2 g
    rw [e]
    exact ⟨(f1.mn (by decide)).tr (f2.mn (by decide)), fun j hj => (f2.i _ _ rfl).trans (f1.i _ _ rfl), fun j hj => (f2.i _ _ rfl).trans (f1.i _ _ rfl), rfl, g, a.z f2 (fun _ => rfl)⟩
  by_cases kb : q_kd T s.1 = 315
  · have eb : decide (q_kd T s.1 = 300 + 15) = true := decide_eq_true (by omega)
    by_cases n12 : nc = 12
    · have eo : q_oc T s nc = .error (1 + 8 * s.1 + 4) := by
        unfold q_oc
        rw [if_neg (by omega), if_pos n12]
      refine qx_M_in rfl (Nat.le_of_ble_eq_true rfl) ?_
      refine qy_wp_ok (c := CX12_clauseHere) (cuts := [29, 91]) vX12_clauseHere wX12_clauseHere 2000 0 _ _ _ ?_
      refine And.intro rfl (Exists.intro _ (And.intro (by decide) (qx_M_mono (m_seeP h) ?_)))
      rintro _ σ1 ⟨rfl, fσ1, afσ1, gσ1⟩
      have hf_σ1 : ql [(197, some 8), (197, some 14)] σ σ1 := hf.tr (fσ1.mn (by decide))
      have hp_σ1 : mP σ1 Z T t s := afσ1
      refine And.intro rfl (Exists.intro 8 (Exists.intro (nI s.1) (And.intro rfl (And.intro gσ1 ?_))))
      refine And.intro rfl (Exists.intro 11 (Exists.intro (nI t) (And.intro rfl (And.intro ((fσ1.i _ _ rfl).trans (h.2.2.1)) ?_))))
      refine Exists.intro (nI 6) (And.intro rfl ?_)
      refine And.intro (fun h16 => ?_) (fun h16 => ?_)
      · skip
        have h16 := nI_neT (a := t) (b := 6) (by omega) (by decide) h16
        refine Exists.intro (nI 0) (And.intro rfl ?_)
        refine And.intro (fun h26 => ?_) (fun h26 => ?_)
        · skip
          refine Exists.intro (lN 6447474) (And.intro (by decide) ?_)
          refine And.intro rfl (Exists.intro _ (And.intro (by decide) (qx_M_mono (m_isWordP hp_σ1 15 (by decide)) ?_)))
          rintro _ σ2 ⟨rfl, fσ2, afσ2, gσ2⟩
          have hf_σ2 : ql [(197, some 8), (197, some 14)] σ σ2 := hf_σ1.tr (fσ2.mn (by decide))
          have hp_σ2 : mP σ2 Z T t s := afσ2
          refine And.intro (fun h46 => ?_) (fun h46 => ?_)
          · skip
            have h46 := bI_t h46
            refine And.intro rfl (Exists.intro 14 (Exists.intro (nI nc) (And.intro rfl (And.intro ((fσ2.i _ _ rfl).trans ((fσ1.i _ _ rfl).trans (u4))) ?_))))
            refine And.intro (fun h71 => ?_) (fun h71 => ?_)
            · skip
              refine Exists.intro (nI 12) (And.intro rfl ?_)
              refine And.intro (fun h81 => ?_) (fun h81 => ?_)
              · skip
                have h81 := nI_neT (a := nc) (b := 12) (by omega) (by decide) h81
                exact absurd n12 h81
              · skip
                have h81 := nI_eqT (a := nc) (b := 12) (by omega) (by decide) h81
                refine Exists.intro (nI 4) (And.intro rfl ?_)
                refine And.intro rfl (Exists.intro _ (And.intro (by decide) (qx_M_mono (m_fails hp_σ2.2.1) ?_)))
                rintro _ σ3 ⟨rfl, fσ3, gσ3⟩
                refine And.intro (bI_01 _) ?_
                exact fin _ _ _ eo hp_σ2 hf_σ2 fσ3 gσ3
            · skip
              exact absurd (by decide) h71
          · skip
            have h46 := bI_f h46
            exact absurd (h46.symm.trans (eb)) (by decide)
        · skip
          exact absurd (by decide) h26
      · skip
        have h16 := nI_eqT (a := t) (b := 6) (by omega) (by decide) h16
        exact absurd h16 (by omega)
    · have mi : ∀ σ1, ql [(197, some 8), (197, some 14)] σ σ1 → qx_mi σ1 197 14 = nI (nc + 1) → mP σ1 Z T t s → qx_mi σ1 197 8 = nI s.1 → qx_M G qc_T 9 YX12_isDoingHere [.ref 197, .int (nI 0)] σ1 (fun r s' => ∃ b, r = some (.int (bI b)) ∧ rL σ s' Z T t nc ci (q_oc T s nc) r) := by
        intro σ1 f1 e14 a g
        refine qx_M_mono (m_isDoing_bar a g kb hb ((f1.i _ _ rfl).trans u3) (by omega)) ?_
        intro r s' z
        have z := rD.rL hU f1 e14 (by omega) (bar := true) kb z
        refine ⟨_, rL_b z, z⟩
      refine qx_M_in rfl (Nat.le_of_ble_eq_true rfl) ?_
      refine qy_wp_ok (c := CX12_clauseHere) (cuts := [29, 84]) vX12_clauseHere wX12_clauseHere 2000 0 _ _ _ ?_
      refine And.intro rfl (Exists.intro _ (And.intro (by decide) (qx_M_mono (m_seeP h) ?_)))
      rintro _ σ1 ⟨rfl, fσ1, afσ1, gfσ1⟩
      have hf_σ1 : ql [(197, some 8), (197, some 14)] σ σ1 := hf.tr (fσ1.mn (by decide))
      have hp_σ1 : mP σ1 Z T t s := afσ1
      have e8_σ1 : qx_mi σ1 197 8 = nI s.1 := gfσ1
      refine And.intro rfl (Exists.intro 8 (Exists.intro (nI s.1) (And.intro rfl (And.intro gfσ1 ?_))))
      refine And.intro rfl (Exists.intro 11 (Exists.intro (nI t) (And.intro rfl (And.intro ((fσ1.i _ _ rfl).trans (h.2.2.1)) ?_))))
      refine Exists.intro (nI 6) (And.intro rfl ?_)
      refine And.intro (fun h16 => ?_) (fun h16 => ?_)
      · skip
        have h16 := nI_neT (a := t) (b := 6) (by omega) (by decide) h16
        refine Exists.intro (nI 0) (And.intro rfl ?_)
        refine And.intro (fun h26 => ?_) (fun h26 => ?_)
        · skip
          refine Exists.intro (lN 6447474) (And.intro (by decide) ?_)
          refine And.intro rfl (Exists.intro _ (And.intro (by decide) (qx_M_mono (m_isWordP hp_σ1 15 (by decide)) ?_)))
          rintro _ σ2 ⟨rfl, fσ2, afσ2, gfσ2⟩
          have hf_σ2 : ql [(197, some 8), (197, some 14)] σ σ2 := hf_σ1.tr (fσ2.mn (by decide))
          have hp_σ2 : mP σ2 Z T t s := afσ2
          have e8_σ2 : qx_mi σ2 197 8 = nI s.1 := gfσ2
          refine And.intro (fun h46 => ?_) (fun h46 => ?_)
          · skip
            have h46 := bI_t h46
            refine And.intro rfl (Exists.intro 14 (Exists.intro (nI nc) (And.intro rfl (And.intro ((fσ2.i _ _ rfl).trans ((fσ1.i _ _ rfl).trans (u4))) ?_))))
            refine And.intro (fun h71 => ?_) (fun h71 => ?_)
            · skip
              refine Exists.intro (nI 12) (And.intro rfl ?_)
              refine And.intro (fun h81 => ?_) (fun h81 => ?_)
              · skip
                have h81 := nI_neT (a := nc) (b := 12) (by omega) (by decide) h81
                refine And.intro rfl (Exists.intro 14 (Exists.intro (nI nc) (And.intro rfl (And.intro ((fσ2.i _ _ rfl).trans ((fσ1.i _ _ rfl).trans (u4))) ?_))))
                refine Exists.intro (nI 1) (And.intro rfl ?_)
                refine Exists.intro (nI (nc + 1)) (And.intro (nI_add _ _) ?_)
                obtain ⟨σ3, eσ3⟩ : ∃ zs, zs = (qx_wi σ2 197 14 (nI (nc + 1))) := ⟨_, rfl⟩
                have fσ3 := qn_wif eσ3
                refine And.intro rfl (Exists.intro 14 (Exists.intro σ3 (And.intro rfl (And.intro eσ3.symm ?_))))
                have hf_σ3 : ql [(197, some 8), (197, some 14)] σ σ3 := hf_σ2.tr (fσ3.mn (by decide))
                have hp_σ3 : mP σ3 Z T t s := hp_σ2.fr fσ3 (by decide)
                have e8_σ3 : qx_mi σ3 197 8 = nI s.1 := (fσ3.i _ _ rfl).trans e8_σ2
                refine And.intro (fun h102 => ?_) (fun h102 => ?_)
                · skip
                  refine Exists.intro (lN 6447474) (And.intro (by decide) ?_)
                  refine And.intro rfl (Exists.intro _ (And.intro (by decide) (qx_M_mono (m_isWordP hp_σ3 15 (by decide)) ?_)))
                  rintro _ σ4 ⟨rfl, fσ4, afσ4, gfσ4⟩
                  have hf_σ4 : ql [(197, some 8), (197, some 14)] σ σ4 := hf_σ3.tr (fσ4.mn (by decide))
                  have hp_σ4 : mP σ4 Z T t s := afσ4
                  have e8_σ4 : qx_mi σ4 197 8 = nI s.1 := gfσ4
                  refine And.intro (fun h121 => ?_) (fun h121 => ?_)
                  · skip
                    have h121 := bI_f h121
                    exact absurd (h121.symm.trans (eb)) (by decide)
                  · skip
                    have h121 := bI_t h121
                    refine Exists.intro (nI 0) (And.intro rfl ?_)
                    refine And.intro rfl (Exists.intro _ (And.intro (by decide) (qx_M_mono (mi _ hf_σ4 ((fσ4.i _ _ rfl).trans (qn_eq eσ3)) hp_σ4 e8_σ4) ?_)))
                    rintro _ σ5 ⟨bb, rfl, fσ5⟩
                    refine And.intro (bI_01 _) ?_
                    exact fσ5
                · skip
                  exact absurd (by decide) h102
              · skip
                have h81 := nI_eqT (a := nc) (b := 12) (by omega) (by decide) h81
                refine qx_K_le (ls := [.ref 197, .int (nI s.1), .retAddr 0]) ⟨Or.inr rfl, Or.inr rfl, Or.inl rfl, trivial⟩ ?_
                exact absurd h81 n12
            · skip
              exact absurd (by decide) h71
          · skip
            have h46 := bI_f h46
            exact absurd (h46.symm.trans (eb)) (by decide)
        · skip
          exact absurd (by decide) h26
      · skip
        have h16 := nI_eqT (a := t) (b := 6) (by omega) (by decide) h16
        exact absurd h16 (by omega)
  · have eb : decide (q_kd T s.1 = 300 + 15) = false := decide_eq_false (by omega)
    by_cases kw : q_kd T s.1 = 316
    · have ew : decide (q_kd T s.1 = 300 + 16) = true := decide_eq_true (by omega)
      by_cases n12 : nc = 12
      · have eo : q_oc T s nc = .error (1 + 8 * s.1 + 4) := by
          unfold q_oc
          rw [if_neg (by omega), if_pos n12]
        refine qx_M_in rfl (Nat.le_of_ble_eq_true rfl) ?_
        refine qy_wp_ok (c := CX12_clauseHere) (cuts := [29, 91]) vX12_clauseHere wX12_clauseHere 2000 0 _ _ _ ?_
        refine And.intro rfl (Exists.intro _ (And.intro (by decide) (qx_M_mono (m_seeP h) ?_)))
        rintro _ σ1 ⟨rfl, fσ1, afσ1, gσ1⟩
        have hf_σ1 : ql [(197, some 8), (197, some 14)] σ σ1 := hf.tr (fσ1.mn (by decide))
        have hp_σ1 : mP σ1 Z T t s := afσ1
        refine And.intro rfl (Exists.intro 8 (Exists.intro (nI s.1) (And.intro rfl (And.intro gσ1 ?_))))
        refine And.intro rfl (Exists.intro 11 (Exists.intro (nI t) (And.intro rfl (And.intro ((fσ1.i _ _ rfl).trans (h.2.2.1)) ?_))))
        refine Exists.intro (nI 6) (And.intro rfl ?_)
        refine And.intro (fun h16 => ?_) (fun h16 => ?_)
        · skip
          have h16 := nI_neT (a := t) (b := 6) (by omega) (by decide) h16
          refine Exists.intro (nI 0) (And.intro rfl ?_)
          refine And.intro (fun h26 => ?_) (fun h26 => ?_)
          · skip
            refine Exists.intro (lN 6447474) (And.intro (by decide) ?_)
            refine And.intro rfl (Exists.intro _ (And.intro (by decide) (qx_M_mono (m_isWordP hp_σ1 15 (by decide)) ?_)))
            rintro _ σ2 ⟨rfl, fσ2, afσ2, gσ2⟩
            have hf_σ2 : ql [(197, some 8), (197, some 14)] σ σ2 := hf_σ1.tr (fσ2.mn (by decide))
            have hp_σ2 : mP σ2 Z T t s := afσ2
            refine And.intro (fun h46 => ?_) (fun h46 => ?_)
            · skip
              have h46 := bI_t h46
              exact absurd (h46.symm.trans (eb)) (by decide)
            · skip
              have h46 := bI_f h46
              refine Exists.intro (lN 2002873972) (And.intro (by decide) ?_)
              refine And.intro rfl (Exists.intro _ (And.intro (by decide) (qx_M_mono (m_isWordP hp_σ2 16 (by decide)) ?_)))
              rintro _ σ3 ⟨rfl, fσ3, afσ3, gσ3⟩
              have hf_σ3 : ql [(197, some 8), (197, some 14)] σ σ3 := hf_σ2.tr (fσ3.mn (by decide))
              have hp_σ3 : mP σ3 Z T t s := afσ3
              refine And.intro (fun h56 => ?_) (fun h56 => ?_)
              · skip
                have h56 := bI_t h56
                refine And.intro rfl (Exists.intro 14 (Exists.intro (nI nc) (And.intro rfl (And.intro ((fσ3.i _ _ rfl).trans ((fσ2.i _ _ rfl).trans ((fσ1.i _ _ rfl).trans (u4)))) ?_))))
                refine And.intro (fun h71 => ?_) (fun h71 => ?_)
                · skip
                  refine Exists.intro (nI 12) (And.intro rfl ?_)
                  refine And.intro (fun h81 => ?_) (fun h81 => ?_)
                  · skip
                    have h81 := nI_neT (a := nc) (b := 12) (by omega) (by decide) h81
                    exact absurd n12 h81
                  · skip
                    have h81 := nI_eqT (a := nc) (b := 12) (by omega) (by decide) h81
                    refine Exists.intro (nI 4) (And.intro rfl ?_)
                    refine And.intro rfl (Exists.intro _ (And.intro (by decide) (qx_M_mono (m_fails hp_σ3.2.1) ?_)))
                    rintro _ σ4 ⟨rfl, fσ4, gσ4⟩
                    refine And.intro (bI_01 _) ?_
                    exact fin _ _ _ eo hp_σ3 hf_σ3 fσ4 gσ4
                · skip
                  exact absurd (by decide) h71
              · skip
                have h56 := bI_f h56
                exact absurd (h56.symm.trans (ew)) (by decide)
          · skip
            exact absurd (by decide) h26
        · skip
          have h16 := nI_eqT (a := t) (b := 6) (by omega) (by decide) h16
          exact absurd h16 (by omega)
      · have mi : ∀ σ1, ql [(197, some 8), (197, some 14)] σ σ1 → qx_mi σ1 197 14 = nI (nc + 1) → mP σ1 Z T t s → qx_mi σ1 197 8 = nI s.1 → qx_M G qc_T 9 YX12_isDoingHere [.ref 197, .int (nI 1)] σ1 (fun r s' => ∃ b, r = some (.int (bI b)) ∧ rL σ s' Z T t nc ci (q_oc T s nc) r) := by
          intro σ1 f1 e14 a g
          refine qx_M_mono (m_isDoing_want a g kw hb ((f1.i _ _ rfl).trans u3) (by omega)) ?_
          intro r s' z
          have z := rD.rL hU f1 e14 (by omega) (bar := false) kw z
          refine ⟨_, rL_b z, z⟩
        refine qx_M_in rfl (Nat.le_of_ble_eq_true rfl) ?_
        refine qy_wp_ok (c := CX12_clauseHere) (cuts := [29, 84]) vX12_clauseHere wX12_clauseHere 2000 0 _ _ _ ?_
        refine And.intro rfl (Exists.intro _ (And.intro (by decide) (qx_M_mono (m_seeP h) ?_)))
        rintro _ σ1 ⟨rfl, fσ1, afσ1, gfσ1⟩
        have hf_σ1 : ql [(197, some 8), (197, some 14)] σ σ1 := hf.tr (fσ1.mn (by decide))
        have hp_σ1 : mP σ1 Z T t s := afσ1
        have e8_σ1 : qx_mi σ1 197 8 = nI s.1 := gfσ1
        refine And.intro rfl (Exists.intro 8 (Exists.intro (nI s.1) (And.intro rfl (And.intro gfσ1 ?_))))
        refine And.intro rfl (Exists.intro 11 (Exists.intro (nI t) (And.intro rfl (And.intro ((fσ1.i _ _ rfl).trans (h.2.2.1)) ?_))))
        refine Exists.intro (nI 6) (And.intro rfl ?_)
        refine And.intro (fun h16 => ?_) (fun h16 => ?_)
        · skip
          have h16 := nI_neT (a := t) (b := 6) (by omega) (by decide) h16
          refine Exists.intro (nI 0) (And.intro rfl ?_)
          refine And.intro (fun h26 => ?_) (fun h26 => ?_)
          · skip
            refine Exists.intro (lN 6447474) (And.intro (by decide) ?_)
            refine And.intro rfl (Exists.intro _ (And.intro (by decide) (qx_M_mono (m_isWordP hp_σ1 15 (by decide)) ?_)))
            rintro _ σ2 ⟨rfl, fσ2, afσ2, gfσ2⟩
            have hf_σ2 : ql [(197, some 8), (197, some 14)] σ σ2 := hf_σ1.tr (fσ2.mn (by decide))
            have hp_σ2 : mP σ2 Z T t s := afσ2
            have e8_σ2 : qx_mi σ2 197 8 = nI s.1 := gfσ2
            refine And.intro (fun h46 => ?_) (fun h46 => ?_)
            · skip
              have h46 := bI_t h46
              exact absurd (h46.symm.trans (eb)) (by decide)
            · skip
              have h46 := bI_f h46
              refine Exists.intro (lN 2002873972) (And.intro (by decide) ?_)
              refine And.intro rfl (Exists.intro _ (And.intro (by decide) (qx_M_mono (m_isWordP hp_σ2 16 (by decide)) ?_)))
              rintro _ σ3 ⟨rfl, fσ3, afσ3, gfσ3⟩
              have hf_σ3 : ql [(197, some 8), (197, some 14)] σ σ3 := hf_σ2.tr (fσ3.mn (by decide))
              have hp_σ3 : mP σ3 Z T t s := afσ3
              have e8_σ3 : qx_mi σ3 197 8 = nI s.1 := gfσ3
              refine And.intro (fun h56 => ?_) (fun h56 => ?_)
              · skip
                have h56 := bI_t h56
                refine And.intro rfl (Exists.intro 14 (Exists.intro (nI nc) (And.intro rfl (And.intro ((fσ3.i _ _ rfl).trans ((fσ2.i _ _ rfl).trans ((fσ1.i _ _ rfl).trans (u4)))) ?_))))
                refine And.intro (fun h71 => ?_) (fun h71 => ?_)
                · skip
                  refine Exists.intro (nI 12) (And.intro rfl ?_)
                  refine And.intro (fun h81 => ?_) (fun h81 => ?_)
                  · skip
                    have h81 := nI_neT (a := nc) (b := 12) (by omega) (by decide) h81
                    refine And.intro rfl (Exists.intro 14 (Exists.intro (nI nc) (And.intro rfl (And.intro ((fσ3.i _ _ rfl).trans ((fσ2.i _ _ rfl).trans ((fσ1.i _ _ rfl).trans (u4)))) ?_))))
                    refine Exists.intro (nI 1) (And.intro rfl ?_)
                    refine Exists.intro (nI (nc + 1)) (And.intro (nI_add _ _) ?_)
                    obtain ⟨σ4, eσ4⟩ : ∃ zs, zs = (qx_wi σ3 197 14 (nI (nc + 1))) := ⟨_, rfl⟩
                    have fσ4 := qn_wif eσ4
                    refine And.intro rfl (Exists.intro 14 (Exists.intro σ4 (And.intro rfl (And.intro eσ4.symm ?_))))
                    have hf_σ4 : ql [(197, some 8), (197, some 14)] σ σ4 := hf_σ3.tr (fσ4.mn (by decide))
                    have hp_σ4 : mP σ4 Z T t s := hp_σ3.fr fσ4 (by decide)
                    have e8_σ4 : qx_mi σ4 197 8 = nI s.1 := (fσ4.i _ _ rfl).trans e8_σ3
                    refine And.intro (fun h102 => ?_) (fun h102 => ?_)
                    · skip
                      refine Exists.intro (lN 6447474) (And.intro (by decide) ?_)
                      refine And.intro rfl (Exists.intro _ (And.intro (by decide) (qx_M_mono (m_isWordP hp_σ4 15 (by decide)) ?_)))
                      rintro _ σ5 ⟨rfl, fσ5, afσ5, gfσ5⟩
                      have hf_σ5 : ql [(197, some 8), (197, some 14)] σ σ5 := hf_σ4.tr (fσ5.mn (by decide))
                      have hp_σ5 : mP σ5 Z T t s := afσ5
                      have e8_σ5 : qx_mi σ5 197 8 = nI s.1 := gfσ5
                      refine And.intro (fun h121 => ?_) (fun h121 => ?_)
                      · skip
                        have h121 := bI_f h121
                        refine Exists.intro (nI 1) (And.intro rfl ?_)
                        refine And.intro rfl (Exists.intro _ (And.intro (by decide) (qx_M_mono (mi _ hf_σ5 ((fσ5.i _ _ rfl).trans (qn_eq eσ4)) hp_σ5 e8_σ5) ?_)))
                        rintro _ σ6 ⟨bb, rfl, fσ6⟩
                        refine And.intro (bI_01 _) ?_
                        exact fσ6
                      · skip
                        have h121 := bI_t h121
                        exact absurd (h121.symm.trans (eb)) (by decide)
                    · skip
                      exact absurd (by decide) h102
                  · skip
                    have h81 := nI_eqT (a := nc) (b := 12) (by omega) (by decide) h81
                    refine qx_K_le (ls := [.ref 197, .int (nI s.1), .retAddr 0]) ⟨Or.inr rfl, Or.inr rfl, Or.inl rfl, trivial⟩ ?_
                    exact absurd h81 n12
                · skip
                  exact absurd (by decide) h71
              · skip
                have h56 := bI_f h56
                exact absurd (h56.symm.trans (ew)) (by decide)
          · skip
            exact absurd (by decide) h26
        · skip
          have h16 := nI_eqT (a := t) (b := 6) (by omega) (by decide) h16
          exact absurd h16 (by omega)
    · have ew : decide (q_kd T s.1 = 300 + 16) = false := decide_eq_false (by omega)
      have eo : q_oc T s nc = .error (1 + 8 * s.1 + 0) := by
        unfold q_oc
        rw [if_pos ⟨kb, kw⟩]
      refine qx_M_in rfl (Nat.le_of_ble_eq_true rfl) ?_
      refine qy_wp_ok (c := CX12_clauseHere) (cuts := [29]) vX12_clauseHere wX12_clauseHere 2000 0 _ _ _ ?_
      refine And.intro rfl (Exists.intro _ (And.intro (by decide) (qx_M_mono (m_seeP h) ?_)))
      rintro _ σ1 ⟨rfl, fσ1, afσ1, gσ1⟩
      have hf_σ1 : ql [(197, some 8), (197, some 14)] σ σ1 := hf.tr (fσ1.mn (by decide))
      have hp_σ1 : mP σ1 Z T t s := afσ1
      refine And.intro rfl (Exists.intro 8 (Exists.intro (nI s.1) (And.intro rfl (And.intro gσ1 ?_))))
      refine And.intro rfl (Exists.intro 11 (Exists.intro (nI t) (And.intro rfl (And.intro ((fσ1.i _ _ rfl).trans (h.2.2.1)) ?_))))
      refine Exists.intro (nI 6) (And.intro rfl ?_)
      refine And.intro (fun h16 => ?_) (fun h16 => ?_)
      · skip
        have h16 := nI_neT (a := t) (b := 6) (by omega) (by decide) h16
        refine Exists.intro (nI 0) (And.intro rfl ?_)
        refine And.intro (fun h26 => ?_) (fun h26 => ?_)
        · skip
          refine Exists.intro (lN 6447474) (And.intro (by decide) ?_)
          refine And.intro rfl (Exists.intro _ (And.intro (by decide) (qx_M_mono (m_isWordP hp_σ1 15 (by decide)) ?_)))
          rintro _ σ2 ⟨rfl, fσ2, afσ2, gσ2⟩
          have hf_σ2 : ql [(197, some 8), (197, some 14)] σ σ2 := hf_σ1.tr (fσ2.mn (by decide))
          have hp_σ2 : mP σ2 Z T t s := afσ2
          refine And.intro (fun h46 => ?_) (fun h46 => ?_)
          · skip
            have h46 := bI_t h46
            exact absurd (h46.symm.trans (eb)) (by decide)
          · skip
            have h46 := bI_f h46
            refine Exists.intro (lN 2002873972) (And.intro (by decide) ?_)
            refine And.intro rfl (Exists.intro _ (And.intro (by decide) (qx_M_mono (m_isWordP hp_σ2 16 (by decide)) ?_)))
            rintro _ σ3 ⟨rfl, fσ3, afσ3, gσ3⟩
            have hf_σ3 : ql [(197, some 8), (197, some 14)] σ σ3 := hf_σ2.tr (fσ3.mn (by decide))
            have hp_σ3 : mP σ3 Z T t s := afσ3
            refine And.intro (fun h56 => ?_) (fun h56 => ?_)
            · skip
              have h56 := bI_t h56
              exact absurd (h56.symm.trans (ew)) (by decide)
            · skip
              have h56 := bI_f h56
              refine Exists.intro (nI 0) (And.intro rfl ?_)
              refine And.intro rfl (Exists.intro _ (And.intro (by decide) (qx_M_mono (m_fails hp_σ3.2.1) ?_)))
              rintro _ σ4 ⟨rfl, fσ4, gσ4⟩
              refine And.intro (bI_01 _) ?_
              exact fin _ _ _ eo hp_σ3 hf_σ3 fσ4 gσ4
        · skip
          exact absurd (by decide) h26
      · skip
        have h16 := nI_eqT (a := t) (b := 6) (by omega) (by decide) h16
        exact absurd h16 (by omega)

