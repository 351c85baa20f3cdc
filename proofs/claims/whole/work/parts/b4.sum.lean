/-! THE CLASS: sums -/
def oI (o : Option Nat) : Int32 := match o with
  | none => -1
  | some c => nI c
def q_eo (o : Option Nat) (s : q_P) : q_P := match o with
  | none => s
  | some c => q_em c s
def q_ol (o : Option Nat) : Nat := match o with
  | none => 0
  | some _ => 1
def okO (o : Option Nat) : Prop := ∀ c, o = some c → 100012 ≤ c ∧ c < 100024
theorem q_eo_1 (o : Option Nat) (s : q_P) : (q_eo o s).1 = s.1 ∧ (q_eo o s).2.1 = s.2.1 + q_ol o := by
  cases o <;> exact ⟨rfl, rfl⟩
theorem c_stepO {G : qx_G} {σ : qx_S} {a : Nat} {T : q_T} {s : q_P} {o : Option Nat} (h : uP σ a T s) (hs : shR σ a) (ho : okO o) (hl : s.2.1 + q_ol o ≤ 400) : qx_M G qc_T 0 YX5_step [.ref a, .int (oI o)] σ (fun r s' => r = none ∧ fA a σ s' ∧ uP s' a T (q_eo o s)) := by
  cases o with
  | none => exact qx_M_mono c_step_no (fun r s' z => ⟨z.1, z.2 ▸ qf.rf, z.2 ▸ h⟩)
  | some c =>
    have := ho c rfl
    have hl : s.2.1 + 1 ≤ 400 := hl
    exact c_step h hs (by omega) (by omega) (by omega)
/-- the rest of a sum: what was begun -/
def q_sl (T : q_T) (ad tm : Option Nat) (s : q_P) : q_X := q_bd (q_V T s) (fun s1 => q_bd (q_TR T (q_eo tm s1)) (fun s2 => q_SR T (q_eo ad s2)))
def q_sl2 (T : q_T) (ad : Option Nat) (s : q_P) : q_X := q_bd (q_TR T s) (fun s2 => q_SR T (q_eo ad s2))
theorem q_sl2_t {T : q_T} {ad : Option Nat} {s : q_P} {k c : Nat} (hk : (k = 42 ∧ c = 100014) ∨ (k = 47 ∧ c = 100015)) (h : q_kd T s.1 = k) : q_sl2 T ad s = q_sl T ad (some c) (q_pas T s) := by
  unfold q_sl2 q_sl
  rw [q_TR_s hk h, q_bd_as]
  rfl
theorem q_sl2_e {T : q_T} {ad : Option Nat} {s : q_P} (h1 : q_kd T s.1 ≠ 42) (h2 : q_kd T s.1 ≠ 47) : q_sl2 T ad s = q_SR T (q_eo ad s) := by
  unfold q_sl2
  rw [q_TR_e h1 h2]
  rfl
theorem q_SR_t {T : q_T} {s : q_P} {k c : Nat} (hk : (k = 43 ∧ c = 100012) ∨ (k = 45 ∧ c = 100013)) (h : q_kd T s.1 = k) : q_SR T s = q_sl T (some c) none (q_pas T s) := by
  rw [q_SR_s hk h]
  unfold q_term q_sl
  rw [q_bd_as]
  rfl
theorem q_sm_sl (T : q_T) (s : q_P) : q_sm T s = q_sl T none none s := by
  unfold q_sm q_term q_sl
  rw [q_bd_as]
  rfl
theorem l_suB {G : qx_G} {σ0 σ : qx_S} {a : Nat} {T : q_T} {s : q_P} {ad : Option Nat} {i : Nat} (h : uP σ a T s) (hs : shR σ a) (ho : okO ad) (hl : s.2.1 + q_ol ad ≤ s.1) (hi : 2 * i + 1 ≤ s.1) (hf : fA a σ0 σ)
    (ih : ∀ (σ1 : qx_S) (s1 : q_P) (ad tm : Option Nat), s.1 < s1.1 → uP σ1 a T s1 → shR σ1 a → okO ad → okO tm → s1.2.1 + q_ol ad + q_ol tm ≤ s1.1 → 2 * (i + 1) ≤ s1.1 → fA a σ0 σ1 → qx_K G qc_T 2 RX5 YX5_readSum 7 [.ref a, .ref 4, .int (oI ad), .int (oI tm), .int (nI (i + 1))] [] σ1 (fun r s' => rU σ0 s' a T (q_sl T ad tm s1) r)) :
    qx_K G qc_T 2 RX5 YX5_readSum 30 [.ref a, .ref 4, .int (oI ad), .retAddr 0, .int (nI i)] [] σ (fun r s' => rU σ0 s' a T (q_sl2 T ad s) r) := by
  have ha := hs.1
  obtain ⟨hle, h400, hb⟩ := h.1.le
  by_cases k42 : q_kd T s.1 = 42
  · rw [q_sl2_t (c := 100014) (by decide) k42]
    have hp := q_nx_gt (q_kd_lt (T := T) (p := s.1) (by omega))
    refine qy_wp_ok (c := CX5_readSum) (cuts := [7]) vX5_readSum wX5_readSum 2000 30 _ _ _ ?_
    refine Exists.intro (nI 42) (And.intro rfl ?_)
    refine And.intro rfl (Exists.intro _ (And.intro (by decide) (qx_M_mono (c_take_t h.1 k42 (by decide)) ?_)))
    rintro _ σ1 ⟨rfl, fσ1, aσ1⟩
    refine And.intro (fun h36 => ?_) (fun h36 => ?_)
    · skip
      have h36 := bI_f h36
      exact absurd (h36.symm.trans (rfl)) (by decide)
    · skip
      have h36 := bI_t h36
      refine Exists.intro (nI 100014) (And.intro rfl ?_)
      refine Exists.intro (nI (i + 1)) (And.intro (nI_add _ _) ?_)
      exact ih _ (q_pas T s) ad (some 100014) hp.1 (h.to ha fσ1 aσ1) (hs.fr fσ1) ho (fun c e => by cases e; decide) (show s.2.1 + q_ol ad + 1 ≤ q_nx T s.1 by omega) (show 2 * (i + 1) ≤ q_nx T s.1 by omega) (hf.tr (fA.of fσ1 (by simp)))
  by_cases k47 : q_kd T s.1 = 47
  · rw [q_sl2_t (c := 100015) (by decide) k47]
    have hp := q_nx_gt (q_kd_lt (T := T) (p := s.1) (by omega))
    refine qy_wp_ok (c := CX5_readSum) (cuts := [7]) vX5_readSum wX5_readSum 2000 30 _ _ _ ?_
    refine Exists.intro (nI 42) (And.intro rfl ?_)
    refine And.intro rfl (Exists.intro _ (And.intro (by decide) (qx_M_mono (c_take_f h.1 k42 (by decide)) ?_)))
    rintro _ _ ⟨rfl, rfl⟩
    refine And.intro (fun h36 => ?_) (fun h36 => ?_)
    · skip
      have h36 := bI_f h36
      refine Exists.intro (nI 47) (And.intro rfl ?_)
      refine And.intro rfl (Exists.intro _ (And.intro (by decide) (qx_M_mono (c_take_t h.1 k47 (by decide)) ?_)))
      rintro _ σ1 ⟨rfl, fσ1, aσ1⟩
      refine And.intro (fun h51 => ?_) (fun h51 => ?_)
      · skip
        have h51 := bI_f h51
        exact absurd (h51.symm.trans (rfl)) (by decide)
      · skip
        have h51 := bI_t h51
        refine Exists.intro (nI 100015) (And.intro rfl ?_)
        refine Exists.intro (nI (i + 1)) (And.intro (nI_add _ _) ?_)
        exact ih _ (q_pas T s) ad (some 100015) hp.1 (h.to ha fσ1 aσ1) (hs.fr fσ1) ho (fun c e => by cases e; decide) (show s.2.1 + q_ol ad + 1 ≤ q_nx T s.1 by omega) (show 2 * (i + 1) ≤ q_nx T s.1 by omega) (hf.tr (fA.of fσ1 (by simp)))
    · skip
      have h36 := bI_t h36
      exact absurd (h36.symm.trans (rfl)) (by decide)
  rw [q_sl2_e k42 k47]
  obtain ⟨y1, y2⟩ := q_eo_1 ad s
  have ms := c_stepO (G := G) h hs ho (by omega)
  have k60 : ∀ σ1, uP σ1 a T (q_eo ad s) → shR σ1 a → fA a σ0 σ1 → qx_K G qc_T 2 RX5 YX5_readSum 65 [.ref a, .ref 4, .retAddr 0, .retAddr 0, .int (nI i)] [] σ1 (fun r s' => rU σ0 s' a T (q_SR T (q_eo ad s)) r) := by
    intro σ1 h1 hs1 hf1
    obtain ⟨s1, es1⟩ : ∃ s1, s1 = q_eo ad s := ⟨_, rfl⟩
    rw [← es1] at h1 y1 y2 ⊢
    by_cases k43 : q_kd T s1.1 = 43
    · rw [q_SR_t (c := 100012) (by decide) k43]
      have hp := q_nx_gt (q_kd_lt (T := T) (p := s1.1) (by omega))
      refine qy_wp_ok (c := CX5_readSum) (cuts := [7]) vX5_readSum wX5_readSum 2000 65 _ _ _ ?_
      refine Exists.intro ((-1)) (And.intro (by decide) ?_)
      refine Exists.intro (nI 43) (And.intro rfl ?_)
      refine And.intro rfl (Exists.intro _ (And.intro (by decide) (qx_M_mono (c_take_t h1.1 k43 (by decide)) ?_)))
      rintro _ m1 ⟨rfl, f1, a1⟩
      refine And.intro (fun h73 => ?_) (fun h73 => ?_)
      · skip
        have h73 := bI_f h73
        exact absurd (h73.symm.trans (rfl)) (by decide)
      · skip
        have h73 := bI_t h73
        refine Exists.intro (nI 100012) (And.intro rfl ?_)
        refine Exists.intro ((-1)) (And.intro (by decide) ?_)
        refine And.intro (fun h99 => ?_) (fun h99 => ?_)
        · skip
          refine Exists.intro (nI (i + 1)) (And.intro (nI_add _ _) ?_)
          exact ih _ (q_pas T s1) (some 100012) none (show s.1 < q_nx T s1.1 by omega) (h1.to ha f1 a1) (hs1.fr f1) (fun c e => by cases e; decide) (fun c e => by cases e) (show s1.2.1 + 1 + 0 ≤ q_nx T s1.1 by omega) (show 2 * (i + 1) ≤ q_nx T s1.1 by omega) (hf1.tr (fA.of f1 (by simp)))
        · skip
          exact absurd h99 (by decide)
    by_cases k45 : q_kd T s1.1 = 45
    · rw [q_SR_t (c := 100013) (by decide) k45]
      have hp := q_nx_gt (q_kd_lt (T := T) (p := s1.1) (by omega))
      refine qy_wp_ok (c := CX5_readSum) (cuts := [7]) vX5_readSum wX5_readSum 2000 65 _ _ _ ?_
      refine Exists.intro ((-1)) (And.intro (by decide) ?_)
      refine Exists.intro (nI 43) (And.intro rfl ?_)
      refine And.intro rfl (Exists.intro _ (And.intro (by decide) (qx_M_mono (c_take_f h1.1 k43 (by decide)) ?_)))
      rintro _ _ ⟨rfl, rfl⟩
      refine And.intro (fun h73 => ?_) (fun h73 => ?_)
      · skip
        have h73 := bI_f h73
        refine Exists.intro (nI 45) (And.intro rfl ?_)
        refine And.intro rfl (Exists.intro _ (And.intro (by decide) (qx_M_mono (c_take_t h1.1 k45 (by decide)) ?_)))
        rintro _ m1 ⟨rfl, f1, a1⟩
        refine And.intro (fun h87 => ?_) (fun h87 => ?_)
        · skip
          have h87 := bI_f h87
          exact absurd (h87.symm.trans (rfl)) (by decide)
        · skip
          have h87 := bI_t h87
          refine Exists.intro (nI 100013) (And.intro rfl ?_)
          refine Exists.intro ((-1)) (And.intro (by decide) ?_)
          refine And.intro (fun h99 => ?_) (fun h99 => ?_)
          · skip
            refine Exists.intro (nI (i + 1)) (And.intro (nI_add _ _) ?_)
            exact ih _ (q_pas T s1) (some 100013) none (show s.1 < q_nx T s1.1 by omega) (h1.to ha f1 a1) (hs1.fr f1) (fun c e => by cases e; decide) (fun c e => by cases e) (show s1.2.1 + 1 + 0 ≤ q_nx T s1.1 by omega) (show 2 * (i + 1) ≤ q_nx T s1.1 by omega) (hf1.tr (fA.of f1 (by simp)))
          · skip
            exact absurd h99 (by decide)
      · skip
        have h73 := bI_t h73
        exact absurd (h73.symm.trans (rfl)) (by decide)
    · rw [q_SR_e k43 k45]
      refine qy_wp_ok (c := CX5_readSum) (cuts := []) vX5_readSum wX5_readSum 2000 65 _ _ _ ?_
      refine Exists.intro ((-1)) (And.intro (by decide) ?_)
      refine Exists.intro (nI 43) (And.intro rfl ?_)
      refine And.intro rfl (Exists.intro _ (And.intro (by decide) (qx_M_mono (c_take_f h1.1 k43 (by decide)) ?_)))
      rintro _ _ ⟨rfl, rfl⟩
      refine And.intro (fun h73 => ?_) (fun h73 => ?_)
      · skip
        have h73 := bI_f h73
        refine Exists.intro (nI 45) (And.intro rfl ?_)
        refine And.intro rfl (Exists.intro _ (And.intro (by decide) (qx_M_mono (c_take_f h1.1 k45 (by decide)) ?_)))
        rintro _ _ ⟨rfl, rfl⟩
        refine And.intro (fun h87 => ?_) (fun h87 => ?_)
        · skip
          have h87 := bI_f h87
          refine Exists.intro ((-1)) (And.intro (by decide) ?_)
          refine Exists.intro ((-1)) (And.intro (by decide) ?_)
          refine And.intro (fun h99 => ?_) (fun h99 => ?_)
          · skip
            exact absurd (by decide) h99
          · skip
            refine Exists.intro (nI 1) (And.intro rfl ?_)
            refine And.intro (Or.inr rfl) ?_
            exact ⟨hf1, rfl, h1⟩
        · skip
          have h87 := bI_t h87
          exact absurd (h87.symm.trans (rfl)) (by decide)
      · skip
        have h73 := bI_t h73
        exact absurd (h73.symm.trans (rfl)) (by decide)
  refine qy_wp_ok (c := CX5_readSum) (cuts := [65]) vX5_readSum wX5_readSum 2000 30 _ _ _ ?_
  refine Exists.intro (nI 42) (And.intro rfl ?_)
  refine And.intro rfl (Exists.intro _ (And.intro (by decide) (qx_M_mono (c_take_f h.1 k42 (by decide)) ?_)))
  rintro _ _ ⟨rfl, rfl⟩
  refine And.intro (fun h36 => ?_) (fun h36 => ?_)
  · skip
    have h36 := bI_f h36
    refine Exists.intro (nI 47) (And.intro rfl ?_)
    refine And.intro rfl (Exists.intro _ (And.intro (by decide) (qx_M_mono (c_take_f h.1 k47 (by decide)) ?_)))
    rintro _ _ ⟨rfl, rfl⟩
    refine And.intro (fun h51 => ?_) (fun h51 => ?_)
    · skip
      have h51 := bI_f h51
      refine And.intro ((congrArg Prod.fst (hs.2.1)).trans rfl) (Exists.intro _ (And.intro (by decide) (qx_M_mono (ms) ?_)))
      rintro _ σ1 ⟨rfl, fσ1, aσ1⟩
      refine qx_K_le (ls := [.ref a, .ref 4, .retAddr 0, .retAddr 0, .int (nI i)]) ⟨Or.inr rfl, Or.inr rfl, Or.inl rfl, Or.inr rfl, Or.inr rfl, trivial⟩ ?_
      exact k60 _ aσ1 (hs.fr fσ1) (hf.tr fσ1)
    · skip
      have h51 := bI_t h51
      exact absurd (h51.symm.trans (rfl)) (by decide)
  · skip
    have h36 := bI_t h36
    exact absurd (h36.symm.trans (rfl)) (by decide)
theorem l_su {G : qx_G} {σ0 : qx_S} {a : Nat} {T : q_T} : ∀ (m : Nat) (s : q_P) (ad tm : Option Nat) (i : Nat) (σ : qx_S), m = T.1 - s.1 → uP σ a T s → shR σ a → okO ad → okO tm → s.2.1 + q_ol ad + q_ol tm ≤ s.1 → 2 * i ≤ s.1 → fA a σ0 σ →
    qx_K G qc_T 2 RX5 YX5_readSum 7 [.ref a, .ref 4, .int (oI ad), .int (oI tm), .int (nI i)] [] σ (fun r s' => rU σ0 s' a T (q_sl T ad tm s) r) := by
  intro m
  induction m using Nat.strongRecOn with
  | _ m ih =>
    intro s ad tm i σ hm h hs hao hto hl hi hf
    obtain ⟨hle, h400, hb⟩ := h.1.le
    have mv := c_readValue (G := G) h hs (by omega)
    cases hv : q_V T s with
    | error f =>
      rw [hv] at mv
      rw [show q_sl T ad tm s = .error f by unfold q_sl; rw [hv]; rfl]
      refine qy_wp_ok (c := CX5_readSum) (cuts := []) vX5_readSum wX5_readSum 2000 7 _ _ _ ?_
      refine Exists.intro (nI 400) (And.intro rfl ?_)
      refine And.intro (fun h12 => ?_) (fun h12 => ?_)
      · skip
        have h12 := nI_leT (a := 400) (b := i) (by decide) (by omega) h12
        exact absurd h12 (by omega)
      · skip
        have h12 := nI_leF (a := 400) (b := i) (by decide) (by omega) h12
        refine And.intro ((congrArg Prod.fst (hs.2.1)).trans rfl) (Exists.intro _ (And.intro (by decide) (qx_M_mono (mv) ?_)))
        rintro _ σ1 ⟨fσ1, rfl, gσ1⟩
        refine And.intro (fun h20 => ?_) (fun h20 => ?_)
        · skip
          have h20 := bI_t h20
          exact absurd (h20.symm.trans (rfl)) (by decide)
        · skip
          have h20 := bI_f h20
          refine Exists.intro (nI 0) (And.intro rfl ?_)
          refine And.intro (Or.inl rfl) ?_
          exact ⟨hf.tr fσ1, rfl, gσ1⟩
    | ok s1 =>
      rw [hv] at mv
      obtain ⟨g0, g1, g2, g3, g4, -⟩ := (q_V_g hv).1
      obtain ⟨y1, y2⟩ := q_eo_1 tm s1
      rw [show q_sl T ad tm s = q_sl2 T ad (q_eo tm s1) by unfold q_sl q_sl2; rw [hv]; rfl]
      refine qy_wp_ok (c := CX5_readSum) (cuts := [30]) vX5_readSum wX5_readSum 2000 7 _ _ _ ?_
      refine Exists.intro (nI 400) (And.intro rfl ?_)
      refine And.intro (fun h12 => ?_) (fun h12 => ?_)
      · skip
        have h12 := nI_leT (a := 400) (b := i) (by decide) (by omega) h12
        exact absurd h12 (by omega)
      · skip
        have h12 := nI_leF (a := 400) (b := i) (by decide) (by omega) h12
        refine And.intro ((congrArg Prod.fst (hs.2.1)).trans rfl) (Exists.intro _ (And.intro (by decide) (qx_M_mono (mv) ?_)))
        rintro _ σ1 ⟨fσ1, rfl, aσ1⟩
        refine And.intro (fun h20 => ?_) (fun h20 => ?_)
        · skip
          have h20 := bI_t h20
          refine And.intro ((congrArg Prod.fst ((fσ1.s _).trans (hs.2.1))).trans rfl) (Exists.intro _ (And.intro (by decide) (qx_M_mono (c_stepO aσ1 (hs.fr fσ1) hto (by omega)) ?_)))
          rintro _ σ2 ⟨rfl, fσ2, aσ2⟩
          refine qx_K_le (ls := [.ref a, .ref 4, .int (oI ad), .retAddr 0, .int (nI i)]) ⟨Or.inr rfl, Or.inr rfl, Or.inr rfl, Or.inl rfl, Or.inr rfl, trivial⟩ ?_
          refine l_suB aσ2 ((hs.fr fσ1).fr fσ2) hao (by omega) (by omega) (hf.tr (fσ1.tr fσ2)) (fun σ1 s2 ad tm z1 z2 z3 z4 z5 z6 z7 z8 => ?_)
          exact ih (T.1 - s2.1) (by have := z2.1.le.1; omega) s2 ad tm (i + 1) σ1 rfl z2 z3 z4 z5 z6 z7 z8
        · skip
          have h20 := bI_f h20
          exact absurd (h20.symm.trans (rfl)) (by decide)
theorem c_readSum {G : qx_G} {σ : qx_S} {a : Nat} {T : q_T} {s : q_P} (h : uP σ a T s) (hs : shR σ a) (hl : s.2.1 ≤ s.1) : qx_M G qc_T 2 YX5_readSum [.ref a, .ref 4] σ (fun r s' => rU σ s' a T (q_sm T s) r) := by
  rw [q_sm_sl]
  refine qx_M_in rfl (Nat.le_of_ble_eq_true rfl) ?_
  refine qy_wp_ok (c := CX5_readSum) (cuts := [7]) vX5_readSum wX5_readSum 2000 0 _ _ _ ?_
  refine Exists.intro ((-1)) (And.intro (by decide) ?_)
  refine Exists.intro ((-1)) (And.intro (by decide) ?_)
  refine Exists.intro (nI 0) (And.intro rfl ?_)
  exact l_su _ s none none 0 σ rfl h hs (fun c e => by cases e) (fun c e => by cases e) (show s.2.1 + 0 + 0 ≤ s.1 by omega) (by omega) qf.rf

