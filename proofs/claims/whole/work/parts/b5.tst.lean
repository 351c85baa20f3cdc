/-! THE CLASS: tests -/
def cpI (k : Nat) : Int32 := match q_cp1 k with
  | none => -1
  | some c => nI c
theorem c_comparison {G : qx_G} {σ : qx_S} {k : Nat} (hk : k ≤ 999) : qx_M G qc_T 0 YX5_comparison [.int (kI k)] σ (qr (cpI k) σ) := by
  by_cases k60 : k = 60
  · subst k60
    refine qx_M_in rfl (Nat.le_of_ble_eq_true rfl) ?_
    refine qy_wp_ok (c := CX5_comparison) (cuts := []) vX5_comparison wX5_comparison 2000 0 _ _ _ ?_
    refine And.intro (fun _ => ?_) (fun h => absurd rfl h)
    refine Exists.intro (nI 100016) (And.intro rfl ?_)
    exact ⟨rfl, rfl⟩
  by_cases k61 : k = 61
  · subst k61
    refine qx_M_in rfl (Nat.le_of_ble_eq_true rfl) ?_
    refine qy_wp_ok (c := CX5_comparison) (cuts := []) vX5_comparison wX5_comparison 2000 0 _ _ _ ?_
    refine And.intro (fun h => absurd h (by decide)) (fun _ => ?_)
    refine And.intro (fun _ => ?_) (fun h => absurd rfl h)
    refine Exists.intro (nI 100018) (And.intro rfl ?_)
    exact ⟨rfl, rfl⟩
  by_cases k62 : k = 62
  · subst k62
    refine qx_M_in rfl (Nat.le_of_ble_eq_true rfl) ?_
    refine qy_wp_ok (c := CX5_comparison) (cuts := []) vX5_comparison wX5_comparison 2000 0 _ _ _ ?_
    refine And.intro (fun h => absurd h (by decide)) (fun _ => ?_)
    refine And.intro (fun h => absurd h (by decide)) (fun _ => ?_)
    refine And.intro (fun _ => ?_) (fun h => absurd rfl h)
    refine Exists.intro (nI 100020) (And.intro rfl ?_)
    exact ⟨rfl, rfl⟩
  by_cases k258 : k = 258
  · subst k258
    refine qx_M_in rfl (Nat.le_of_ble_eq_true rfl) ?_
    refine qy_wp_ok (c := CX5_comparison) (cuts := []) vX5_comparison wX5_comparison 2000 0 _ _ _ ?_
    refine And.intro (fun h => absurd h (by decide)) (fun _ => ?_)
    refine And.intro (fun h => absurd h (by decide)) (fun _ => ?_)
    refine And.intro (fun h => absurd h (by decide)) (fun _ => ?_)
    refine And.intro (fun _ => ?_) (fun h => absurd rfl h)
    refine Exists.intro (nI 100017) (And.intro rfl ?_)
    exact ⟨rfl, rfl⟩
  by_cases k259 : k = 259
  · subst k259
    refine qx_M_in rfl (Nat.le_of_ble_eq_true rfl) ?_
    refine qy_wp_ok (c := CX5_comparison) (cuts := []) vX5_comparison wX5_comparison 2000 0 _ _ _ ?_
    refine And.intro (fun h => absurd h (by decide)) (fun _ => ?_)
    refine And.intro (fun h => absurd h (by decide)) (fun _ => ?_)
    refine And.intro (fun h => absurd h (by decide)) (fun _ => ?_)
    refine And.intro (fun h => absurd h (by decide)) (fun _ => ?_)
    refine And.intro (fun _ => ?_) (fun h => absurd rfl h)
    refine Exists.intro (nI 100019) (And.intro rfl ?_)
    exact ⟨rfl, rfl⟩
  have e : cpI k = -1 := by
    unfold cpI q_cp1
    rw [if_neg k60, if_neg k258, if_neg k61, if_neg k259, if_neg k62]
  rw [e]
  refine qx_M_in rfl (Nat.le_of_ble_eq_true rfl) ?_
  refine qy_wp_ok (c := CX5_comparison) (cuts := []) vX5_comparison wX5_comparison 2000 0 _ _ _ ?_
  refine And.intro (fun h1 => ?_) (fun h1_60 => ?_)
  · skip
    have h1 : kI k = nI 60 := h1
    exact absurd h1 (kI_ne hk (by decide) k60)
  have h1_60 : ¬ kI k = nI 60 := h1_60
  refine And.intro (fun h1 => ?_) (fun h1_61 => ?_)
  · skip
    have h1 : kI k = nI 61 := h1
    exact absurd h1 (kI_ne hk (by decide) k61)
  have h1_61 : ¬ kI k = nI 61 := h1_61
  refine And.intro (fun h1 => ?_) (fun h1_62 => ?_)
  · skip
    have h1 : kI k = nI 62 := h1
    exact absurd h1 (kI_ne hk (by decide) k62)
  have h1_62 : ¬ kI k = nI 62 := h1_62
  refine And.intro (fun h1 => ?_) (fun h1_258 => ?_)
  · skip
    have h1 : kI k = nI 258 := h1
    exact absurd h1 (kI_ne hk (by decide) k258)
  have h1_258 : ¬ kI k = nI 258 := h1_258
  refine And.intro (fun h1 => ?_) (fun h1_259 => ?_)
  · skip
    have h1 : kI k = nI 259 := h1
    exact absurd h1 (kI_ne hk (by decide) k259)
  have h1_259 : ¬ kI k = nI 259 := h1_259
  refine Exists.intro ((-1)) (And.intro (by decide) ?_)
  exact ⟨rfl, rfl⟩
/-- contracts of a fact, of a test, at a depth -/
def FactC (G : qx_G) (T : q_T) (a k : Nat) : Prop := ∀ (σ : qx_S) (s : q_P), uP σ a T s → shR σ a → s.2.1 ≤ s.1 → qx_M G qc_T (3 + 3 * k) YX5_readFact [.ref a, .ref 4, .int (nI (10 - k))] σ (fun r s' => rU σ s' a T (q_FA T k s) r)
def TestC (G : qx_G) (T : q_T) (a k : Nat) : Prop := ∀ (σ : qx_S) (s : q_P), uP σ a T s → shR σ a → s.2.1 ≤ s.1 → qx_M G qc_T (4 + 3 * k) YX5_readTest [.ref a, .ref 4, .int (nI (10 - k))] σ (fun r s' => rU σ s' a T (q_ts (q_FA T k) T s) r)
/-- the rest of a test: what was begun -/
def q_tl (T : q_T) (F : q_P → q_X) (oo oa : Option Nat) (s : q_P) : q_X := q_bd (F s) (fun s1 => q_bd (q_AR F T (q_eo oa s1)) (fun s2 => q_OR F T (q_eo oo s2)))
def q_tl2 (T : q_T) (F : q_P → q_X) (oo : Option Nat) (s : q_P) : q_X := q_bd (q_AR F T s) (fun s2 => q_OR F T (q_eo oo s2))
theorem q_tl2_a {T : q_T} {F : q_P → q_X} (hF : gF T F) {oo : Option Nat} {s : q_P} (h : q_kd T s.1 = 319) : q_tl2 T F oo s = q_tl T F oo (some 100022) (q_pas T s) := by
  unfold q_tl2 q_tl
  rw [q_AR_s hF h, q_bd_as]
  rfl
theorem q_tl2_e {T : q_T} {F : q_P → q_X} {oo : Option Nat} {s : q_P} (h : q_kd T s.1 ≠ 319) : q_tl2 T F oo s = q_OR F T (q_eo oo s) := by
  unfold q_tl2
  rw [q_AR_e h]
  rfl
theorem q_OR_t {T : q_T} {F : q_P → q_X} (hF : gF T F) {s : q_P} (h : q_kd T s.1 = 318) : q_OR F T s = q_tl T F (some 100023) none (q_pas T s) := by
  rw [q_OR_s hF h]
  rfl
theorem l_teB {G : qx_G} {σ0 σ : qx_S} {a k : Nat} {T : q_T} {s : q_P} {oo : Option Nat} {i : Nat} (h : uP σ a T s) (hs : shR σ a) (ho : okO oo) (hl : s.2.1 + q_ol oo ≤ s.1) (hi : 2 * i + 1 ≤ s.1) (hf : fA a σ0 σ)
    (ih : ∀ (σ1 : qx_S) (s1 : q_P) (oo oa : Option Nat), s.1 < s1.1 → uP σ1 a T s1 → shR σ1 a → okO oo → okO oa → s1.2.1 + q_ol oo + q_ol oa ≤ s1.1 → 2 * (i + 1) ≤ s1.1 → fA a σ0 σ1 → qx_K G qc_T (4 + 3 * k) RX5 YX5_readTest 8 [.ref a, .ref 4, .int (nI (10 - k)), .int (oI oo), .int (oI oa), .int (nI (i + 1))] [] σ1 (fun r s' => rU σ0 s' a T (q_tl T (q_FA T k) oo oa s1) r)) :
    qx_K G qc_T (4 + 3 * k) RX5 YX5_readTest 33 [.ref a, .ref 4, .int (nI (10 - k)), .int (oI oo), .retAddr 0, .int (nI i)] [] σ (fun r s' => rU σ0 s' a T (q_tl2 T (q_FA T k) oo s) r) := by
  have ha := hs.1
  obtain ⟨hle, h400, hb⟩ := h.1.le
  have hF := q_FA_g T k
  by_cases ka : q_kd T s.1 = 319
  · rw [q_tl2_a hF ka]
    have hp := q_nx_gt (q_kd_lt (T := T) (p := s.1) (by omega))
    refine qy_wp_ok (c := CX5_readTest) (cuts := [8]) vX5_readTest wX5_readTest 2000 33 _ _ _ ?_
    refine Exists.intro (nI 319) (And.intro rfl ?_)
    refine And.intro rfl (Exists.intro _ (And.intro (by omega) (qx_M_mono (c_take_t h.1 ka (by decide)) ?_)))
    rintro _ σ1 ⟨rfl, fσ1, aσ1⟩
    refine And.intro (fun h40 => ?_) (fun h40 => ?_)
    · skip
      have h40 := bI_f h40
      exact absurd (h40.symm.trans (rfl)) (by decide)
    · skip
      have h40 := bI_t h40
      refine Exists.intro (nI 100022) (And.intro rfl ?_)
      refine Exists.intro (nI (i + 1)) (And.intro (nI_add _ _) ?_)
      exact ih _ (q_pas T s) oo (some 100022) hp.1 (h.to ha fσ1 aσ1) (hs.fr fσ1) ho (fun c e => by cases e; decide) (show s.2.1 + q_ol oo + 1 ≤ q_nx T s.1 by omega) (show 2 * (i + 1) ≤ q_nx T s.1 by omega) (hf.tr (fA.of fσ1 (by simp)))
  rw [q_tl2_e ka]
  obtain ⟨y1, y2⟩ := q_eo_1 oo s
  have ms := c_stepO (G := G) h hs ho (by omega)
  have k55 : ∀ σ1, uP σ1 a T (q_eo oo s) → shR σ1 a → fA a σ0 σ1 → qx_K G qc_T (4 + 3 * k) RX5 YX5_readTest 55 [.ref a, .ref 4, .int (nI (10 - k)), .retAddr 0, .retAddr 0, .int (nI i)] [] σ1 (fun r s' => rU σ0 s' a T (q_OR (q_FA T k) T (q_eo oo s)) r) := by
    intro σ1 h1 hs1 hf1
    obtain ⟨s1, es1⟩ : ∃ s1, s1 = q_eo oo s := ⟨_, rfl⟩
    rw [← es1] at h1 y1 y2 ⊢
    by_cases ko : q_kd T s1.1 = 318
    · rw [q_OR_t hF ko]
      have hp := q_nx_gt (q_kd_lt (T := T) (p := s1.1) (by omega))
      refine qy_wp_ok (c := CX5_readTest) (cuts := [8]) vX5_readTest wX5_readTest 2000 55 _ _ _ ?_
      refine Exists.intro (nI 318) (And.intro rfl ?_)
      refine And.intro rfl (Exists.intro _ (And.intro (by omega) (qx_M_mono (c_take_t h1.1 ko (by decide)) ?_)))
      rintro _ m1 ⟨rfl, f1, a1⟩
      refine And.intro (fun h62 => ?_) (fun h62 => ?_)
      · skip
        have h62 := bI_t h62
        refine Exists.intro ((-1)) (And.intro (by decide) ?_)
        refine Exists.intro (nI 100023) (And.intro rfl ?_)
        refine Exists.intro (nI (i + 1)) (And.intro (nI_add _ _) ?_)
        exact ih _ (q_pas T s1) (some 100023) none (show s.1 < q_nx T s1.1 by omega) (h1.to ha f1 a1) (hs1.fr f1) (fun c e => by cases e; decide) (fun c e => by cases e) (show s1.2.1 + 1 + 0 ≤ q_nx T s1.1 by omega) (show 2 * (i + 1) ≤ q_nx T s1.1 by omega) (hf1.tr (fA.of f1 (by simp)))
      · skip
        have h62 := bI_f h62
        exact absurd (h62.symm.trans (rfl)) (by decide)
    · rw [q_OR_e ko]
      refine qy_wp_ok (c := CX5_readTest) (cuts := []) vX5_readTest wX5_readTest 2000 55 _ _ _ ?_
      refine Exists.intro (nI 318) (And.intro rfl ?_)
      refine And.intro rfl (Exists.intro _ (And.intro (by omega) (qx_M_mono (c_take_f h1.1 ko (by decide)) ?_)))
      rintro _ _ ⟨rfl, rfl⟩
      refine And.intro (fun h62 => ?_) (fun h62 => ?_)
      · skip
        have h62 := bI_t h62
        exact absurd (h62.symm.trans (rfl)) (by decide)
      · skip
        have h62 := bI_f h62
        refine Exists.intro (nI 1) (And.intro rfl ?_)
        refine And.intro (Or.inr rfl) ?_
        exact ⟨hf1, rfl, h1⟩
  refine qy_wp_ok (c := CX5_readTest) (cuts := [55]) vX5_readTest wX5_readTest 2000 33 _ _ _ ?_
  refine Exists.intro (nI 319) (And.intro rfl ?_)
  refine And.intro rfl (Exists.intro _ (And.intro (by omega) (qx_M_mono (c_take_f h.1 ka (by decide)) ?_)))
  rintro _ _ ⟨rfl, rfl⟩
  refine And.intro (fun h40 => ?_) (fun h40 => ?_)
  · skip
    have h40 := bI_f h40
    refine And.intro ((congrArg Prod.fst (hs.2.1)).trans rfl) (Exists.intro _ (And.intro (by omega) (qx_M_mono (ms) ?_)))
    rintro _ σ1 ⟨rfl, fσ1, aσ1⟩
    refine qx_K_le (ls := [.ref a, .ref 4, .int (nI (10 - k)), .retAddr 0, .retAddr 0, .int (nI i)]) ⟨Or.inr rfl, Or.inr rfl, Or.inr rfl, Or.inl rfl, Or.inr rfl, Or.inr rfl, trivial⟩ ?_
    exact k55 _ aσ1 (hs.fr fσ1) (hf.tr fσ1)
  · skip
    have h40 := bI_t h40
    exact absurd (h40.symm.trans (rfl)) (by decide)
theorem l_te {G : qx_G} {σ0 : qx_S} {a k : Nat} {T : q_T} (hFc : FactC G T a k) : ∀ (m : Nat) (s : q_P) (oo oa : Option Nat) (i : Nat) (σ : qx_S), m = T.1 - s.1 → uP σ a T s → shR σ a → okO oo → okO oa → s.2.1 + q_ol oo + q_ol oa ≤ s.1 → 2 * i ≤ s.1 → fA a σ0 σ →
    qx_K G qc_T (4 + 3 * k) RX5 YX5_readTest 8 [.ref a, .ref 4, .int (nI (10 - k)), .int (oI oo), .int (oI oa), .int (nI i)] [] σ (fun r s' => rU σ0 s' a T (q_tl T (q_FA T k) oo oa s) r) := by
  intro m
  induction m using Nat.strongRecOn with
  | _ m ih =>
    intro s oo oa i σ hm h hs hao hto hl hi hf
    obtain ⟨hle, h400, hb⟩ := h.1.le
    have mv := hFc σ s h hs (by omega)
    cases hv : q_FA T k s with
    | error f =>
      rw [hv] at mv
      rw [show q_tl T (q_FA T k) oo oa s = .error f by unfold q_tl; rw [hv]; rfl]
      refine qy_wp_ok (c := CX5_readTest) (cuts := []) vX5_readTest wX5_readTest 2000 8 _ _ _ ?_
      refine Exists.intro (nI 400) (And.intro rfl ?_)
      refine And.intro (fun h13 => ?_) (fun h13 => ?_)
      · skip
        have h13 := nI_leT (a := 400) (b := i) (by decide) (by omega) h13
        exact absurd h13 (by omega)
      · skip
        have h13 := nI_leF (a := 400) (b := i) (by decide) (by omega) h13
        refine And.intro ((congrArg Prod.fst (hs.2.1)).trans rfl) (Exists.intro _ (And.intro (by omega) (qx_M_mono (mv) ?_)))
        rintro _ σ1 ⟨fσ1, rfl, gσ1⟩
        refine And.intro (fun h22 => ?_) (fun h22 => ?_)
        · skip
          have h22 := bI_t h22
          exact absurd (h22.symm.trans (rfl)) (by decide)
        · skip
          have h22 := bI_f h22
          refine Exists.intro (nI 0) (And.intro rfl ?_)
          refine And.intro (Or.inl rfl) ?_
          exact ⟨hf.tr fσ1, rfl, gσ1⟩
    | ok s1 =>
      rw [hv] at mv
      obtain ⟨g0, g1, g2, g3, g4, -⟩ := q_FA_g T k _ _ hv
      obtain ⟨y1, y2⟩ := q_eo_1 oa s1
      rw [show q_tl T (q_FA T k) oo oa s = q_tl2 T (q_FA T k) oo (q_eo oa s1) by unfold q_tl q_tl2; rw [hv]; rfl]
      refine qy_wp_ok (c := CX5_readTest) (cuts := [33]) vX5_readTest wX5_readTest 2000 8 _ _ _ ?_
      refine Exists.intro (nI 400) (And.intro rfl ?_)
      refine And.intro (fun h13 => ?_) (fun h13 => ?_)
      · skip
        have h13 := nI_leT (a := 400) (b := i) (by decide) (by omega) h13
        exact absurd h13 (by omega)
      · skip
        have h13 := nI_leF (a := 400) (b := i) (by decide) (by omega) h13
        refine And.intro ((congrArg Prod.fst (hs.2.1)).trans rfl) (Exists.intro _ (And.intro (by omega) (qx_M_mono (mv) ?_)))
        rintro _ σ1 ⟨fσ1, rfl, aσ1⟩
        refine And.intro (fun h22 => ?_) (fun h22 => ?_)
        · skip
          have h22 := bI_t h22
          refine And.intro ((congrArg Prod.fst ((fσ1.s _).trans (hs.2.1))).trans rfl) (Exists.intro _ (And.intro (by omega) (qx_M_mono (c_stepO aσ1 (hs.fr fσ1) hto (by omega)) ?_)))
          rintro _ σ2 ⟨rfl, fσ2, aσ2⟩
          refine qx_K_le (ls := [.ref a, .ref 4, .int (nI (10 - k)), .int (oI oo), .retAddr 0, .int (nI i)]) ⟨Or.inr rfl, Or.inr rfl, Or.inr rfl, Or.inr rfl, Or.inl rfl, Or.inr rfl, trivial⟩ ?_
          refine l_teB aσ2 ((hs.fr fσ1).fr fσ2) hao (by omega) (by omega) (hf.tr (fσ1.tr fσ2)) (fun σ1 s2 oo oa z1 z2 z3 z4 z5 z6 z7 z8 => ?_)
          exact ih (T.1 - s2.1) (by have := z2.1.le.1; omega) s2 oo oa (i + 1) σ1 rfl z2 z3 z4 z5 z6 z7 z8
        · skip
          have h22 := bI_f h22
          exact absurd (h22.symm.trans (rfl)) (by decide)
theorem c_testOf {G : qx_G} {a k : Nat} {T : q_T} (hFc : FactC G T a k) : TestC G T a k := by
  intro σ s h hs hl
  have key := l_te (σ0 := σ) hFc _ s none none 0 σ rfl h hs (fun c e => by cases e) (fun c e => by cases e) (show s.2.1 + 0 + 0 ≤ s.1 by omega) (by omega) qf.rf
  refine qx_M_in rfl (Nat.le_of_ble_eq_true rfl) ?_
  refine qy_wp_ok (c := CX5_readTest) (cuts := [8]) vX5_readTest wX5_readTest 2000 0 _ _ _ ?_
  refine Exists.intro ((-1)) (And.intro (by decide) ?_)
  refine Exists.intro ((-1)) (And.intro (by decide) ?_)
  refine Exists.intro (nI 0) (And.intro rfl ?_)
  exact key
theorem c_bracketOf {G : qx_G} {a k : Nat} {T : q_T} (hTc : TestC G T a k) {σ : qx_S} {s : q_P} (h : uP σ a T s) (hs : shR σ a) (hl : s.2.1 ≤ s.1) : qx_M G qc_T (5 + 3 * k) YX5_readBracket [.ref a, .ref 4, .int (nI (10 - k))] σ (fun r s' => rU σ s' a T (q_bd (q_ts (q_FA T k) T s) (q_cls T .ok)) r) := by
  have ha := hs.1
  have mt := hTc σ s h hs hl
  cases hv : q_ts (q_FA T k) T s with
  | error f =>
    rw [hv] at mt
    show qx_M G qc_T (5 + 3 * k) YX5_readBracket [.ref a, .ref 4, .int (nI (10 - k))] σ (fun r s' => rU σ s' a T (.error f) r)
    refine qx_M_in rfl (Nat.le_of_ble_eq_true rfl) ?_
    refine qy_wp_ok (c := CX5_readBracket) (cuts := []) vX5_readBracket wX5_readBracket 2000 0 _ _ _ ?_
    refine And.intro ((congrArg Prod.fst (hs.2.1)).trans rfl) (Exists.intro _ (And.intro (by omega) (qx_M_mono (mt) ?_)))
    rintro _ σ1 ⟨fσ1, rfl, gσ1⟩
    refine And.intro (fun h6 => ?_) (fun h6 => ?_)
    · skip
      have h6 := bI_f h6
      refine Exists.intro (nI 0) (And.intro rfl ?_)
      refine And.intro (Or.inl rfl) ?_
      exact ⟨fσ1, rfl, gσ1⟩
    · skip
      have h6 := bI_t h6
      exact absurd (h6.symm.trans (rfl)) (by decide)
  | ok s1 =>
    rw [hv] at mt
    show qx_M G qc_T (5 + 3 * k) YX5_readBracket [.ref a, .ref 4, .int (nI (10 - k))] σ (fun r s' => rU σ s' a T (q_cls T .ok s1) r)
    unfold q_cls
    by_cases k3 : q_kd T s1.1 = 93
    · rw [if_pos k3]
      refine qx_M_in rfl (Nat.le_of_ble_eq_true rfl) ?_
      refine qy_wp_ok (c := CX5_readBracket) (cuts := []) vX5_readBracket wX5_readBracket 2000 0 _ _ _ ?_
      refine And.intro ((congrArg Prod.fst (hs.2.1)).trans rfl) (Exists.intro _ (And.intro (by omega) (qx_M_mono (mt) ?_)))
      rintro _ σ1 ⟨fσ1, rfl, aσ1⟩
      refine And.intro (fun h6 => ?_) (fun h6 => ?_)
      · skip
        have h6 := bI_f h6
        exact absurd (h6.symm.trans (rfl)) (by decide)
      · skip
        have h6 := bI_t h6
        refine Exists.intro (nI 93) (And.intro rfl ?_)
        refine And.intro rfl (Exists.intro _ (And.intro (by omega) (qx_M_mono (c_take_t aσ1.1 k3 (by decide)) ?_)))
        rintro _ σ2 ⟨rfl, fσ2, aσ2⟩
        refine And.intro (fun h15 => ?_) (fun h15 => ?_)
        · skip
          have h15 := bI_t h15
          refine Exists.intro (nI 1) (And.intro rfl ?_)
          refine And.intro (Or.inr rfl) ?_
          exact ⟨fσ1.tr (fA.of fσ2 (by simp)), rfl, aσ1.to ha fσ2 aσ2⟩
        · skip
          have h15 := bI_f h15
          exact absurd (h15.symm.trans (rfl)) (by decide)
    · rw [if_neg k3]
      refine qx_M_in rfl (Nat.le_of_ble_eq_true rfl) ?_
      refine qy_wp_ok (c := CX5_readBracket) (cuts := []) vX5_readBracket wX5_readBracket 2000 0 _ _ _ ?_
      refine And.intro ((congrArg Prod.fst (hs.2.1)).trans rfl) (Exists.intro _ (And.intro (by omega) (qx_M_mono (mt) ?_)))
      rintro _ σ1 ⟨fσ1, rfl, aσ1⟩
      refine And.intro (fun h6 => ?_) (fun h6 => ?_)
      · skip
        have h6 := bI_f h6
        exact absurd (h6.symm.trans (rfl)) (by decide)
      · skip
        have h6 := bI_t h6
        refine Exists.intro (nI 93) (And.intro rfl ?_)
        refine And.intro rfl (Exists.intro _ (And.intro (by omega) (qx_M_mono (c_take_f aσ1.1 k3 (by decide)) ?_)))
        rintro _ _ ⟨rfl, rfl⟩
        refine And.intro (fun h15 => ?_) (fun h15 => ?_)
        · skip
          have h15 := bI_t h15
          exact absurd (h15.symm.trans (rfl)) (by decide)
        · skip
          have h15 := bI_f h15
          refine Exists.intro (nI 0) (And.intro rfl ?_)
          refine And.intro rfl (Exists.intro _ (And.intro (by omega) (qx_M_mono (c_fail aσ1.1) ?_)))
          rintro _ σ2 ⟨rfl, fσ2, gσ2⟩
          refine And.intro (fun h23 => ?_) (fun h23 => ?_)
          · skip
            have h23 := bI_f h23
            refine Exists.intro (nI 0) (And.intro rfl ?_)
            refine And.intro (Or.inl rfl) ?_
            exact ⟨fσ1.tr (fA.of fσ2 (by simp)), rfl, gσ2⟩
          · skip
            have h23 := bI_t h23
            exact absurd (h23.symm.trans (rfl)) (by decide)
theorem c_notOf {G : qx_G} {a k : Nat} {T : q_T} (hFc : FactC G T a k) {σ : qx_S} {s : q_P} (h : uP σ a T s) (hs : shR σ a) (hl : s.2.1 + 1 ≤ s.1) : qx_M G qc_T (5 + 3 * k) YX5_readNot [.ref a, .ref 4, .int (nI (10 - k))] σ (fun r s' => rU σ s' a T (q_bd (q_FA T k s) (fun s' => .ok (q_em 100021 s'))) r) := by
  have ha := hs.1
  have h400 := h.1.le.2.1
  have mt := hFc σ s h hs (by omega)
  cases hv : q_FA T k s with
  | error f =>
    rw [hv] at mt
    show qx_M G qc_T (5 + 3 * k) YX5_readNot [.ref a, .ref 4, .int (nI (10 - k))] σ (fun r s' => rU σ s' a T (.error f) r)
    refine qx_M_in rfl (Nat.le_of_ble_eq_true rfl) ?_
    refine qy_wp_ok (c := CX5_readNot) (cuts := []) vX5_readNot wX5_readNot 2000 0 _ _ _ ?_
    refine And.intro ((congrArg Prod.fst (hs.2.1)).trans rfl) (Exists.intro _ (And.intro (by omega) (qx_M_mono (mt) ?_)))
    rintro _ σ1 ⟨fσ1, rfl, gσ1⟩
    refine And.intro (fun h6 => ?_) (fun h6 => ?_)
    · skip
      have h6 := bI_t h6
      exact absurd (h6.symm.trans (rfl)) (by decide)
    · skip
      have h6 := bI_f h6
      refine Exists.intro (nI 0) (And.intro rfl ?_)
      refine And.intro (Or.inl rfl) ?_
      exact ⟨fσ1, rfl, gσ1⟩
  | ok s1 =>
    rw [hv] at mt
    obtain ⟨g0, g1, g2, g3, g4, -⟩ := q_FA_g T k _ _ hv
    show qx_M G qc_T (5 + 3 * k) YX5_readNot [.ref a, .ref 4, .int (nI (10 - k))] σ (fun r s' => rU σ s' a T (.ok (q_em 100021 s1)) r)
    refine qx_M_in rfl (Nat.le_of_ble_eq_true rfl) ?_
    refine qy_wp_ok (c := CX5_readNot) (cuts := []) vX5_readNot wX5_readNot 2000 0 _ _ _ ?_
    refine And.intro ((congrArg Prod.fst (hs.2.1)).trans rfl) (Exists.intro _ (And.intro (by omega) (qx_M_mono (mt) ?_)))
    rintro _ σ1 ⟨fσ1, rfl, aσ1⟩
    refine And.intro (fun h6 => ?_) (fun h6 => ?_)
    · skip
      have h6 := bI_t h6
      refine Exists.intro (nI 100021) (And.intro rfl ?_)
      refine And.intro ((congrArg Prod.fst ((fσ1.s _).trans (hs.2.1))).trans rfl) (Exists.intro _ (And.intro (by omega) (qx_M_mono (c_step aσ1 (hs.fr fσ1) (by omega) (by decide) (by decide)) ?_)))
      rintro _ σ2 ⟨rfl, fσ2, aσ2⟩
      refine Exists.intro (nI 1) (And.intro rfl ?_)
      refine And.intro (Or.inr rfl) ?_
      exact ⟨fσ1.tr fσ2, rfl, aσ2⟩
    · skip
      have h6 := bI_f h6
      exact absurd (h6.symm.trans (rfl)) (by decide)
/-- a comparison -/
theorem l_factC {G : qx_G} {D a : Nat} {d : Int32} {T : q_T} (hD : 3 ≤ D) {σ : qx_S} {s : q_P} (h : uP σ a T s) (hs : shR σ a) (hl : s.2.1 ≤ s.1) : qx_K G qc_T D RX5 YX5_readFact 69 [.ref a, .ref 4, .retAddr 0, .retAddr 0, .retAddr 0] [] σ (fun r s' => rU σ s' a T (q_cmq T s) r) := by
  have ha := hs.1
  have ms := c_readSum (G := G) h hs hl
  cases hv : q_sm T s with
  | error f =>
    rw [hv] at ms
    rw [show q_cmq T s = .error f by show q_bd (q_sm T s) _ = _; rw [hv]; rfl]
    refine qy_wp_ok (c := CX5_readFact) (cuts := []) vX5_readFact wX5_readFact 2000 69 _ _ _ ?_
    refine And.intro ((congrArg Prod.fst (hs.2.1)).trans rfl) (Exists.intro _ (And.intro (by omega) (qx_M_mono (ms) ?_)))
    rintro _ σ1 ⟨fσ1, rfl, gσ1⟩
    refine And.intro (fun h74 => ?_) (fun h74 => ?_)
    · skip
      have h74 := bI_t h74
      exact absurd (h74.symm.trans (rfl)) (by decide)
    · skip
      have h74 := bI_f h74
      refine Exists.intro (nI 0) (And.intro rfl ?_)
      refine And.intro (Or.inl rfl) ?_
      exact ⟨fσ1, rfl, gσ1⟩
  | ok s1 =>
    rw [hv] at ms
    obtain ⟨g0, g1, g2, g3, g4, -⟩ := q_sm_g hv
    rw [show q_cmq T s = q_cmr T s1 by show q_bd (q_sm T s) _ = _; rw [hv]; rfl]
    have key : ∀ σ1, uP σ1 a T s1 → fA a σ σ1 → qx_K G qc_T D RX5 YX5_readFact 79 [.ref a, .ref 4, .retAddr 0, .retAddr 0, .retAddr 0] [] σ1 (fun r s' => rU σ s' a T (q_cmr T s1) r) := by
      intro σ1 h1 f1
      have hs1 := hs.fr f1
      obtain ⟨hle1, h400, hb1⟩ := h1.1.le
      have hkl := q_kd_le hb1 s1.1
      have mcp := c_comparison (G := G) (σ := σ1) hkl
      cases hc : q_cp1 (q_kd T s1.1) with
      | none =>
        rw [q_cmr_n hc]
        rw [show cpI (q_kd T s1.1) = -1 by unfold cpI; rw [hc]] at mcp
        refine qy_wp_ok (c := CX5_readFact) (cuts := []) vX5_readFact wX5_readFact 2000 79 _ _ _ ?_
        refine And.intro rfl (Exists.intro _ (And.intro (by omega) (qx_M_mono (c_kind h1.1) ?_)))
        rintro _ _ ⟨rfl, rfl⟩
        refine Exists.intro _ (And.intro (by omega) (qx_M_mono (mcp) ?_))
        rintro _ _ ⟨rfl, rfl⟩
        refine Exists.intro ((-1)) (And.intro (by decide) ?_)
        refine And.intro (fun h91 => ?_) (fun h91 => ?_)
        · skip
          exact absurd (by decide) h91
        · skip
          refine Exists.intro (nI 0) (And.intro rfl ?_)
          refine And.intro rfl (Exists.intro _ (And.intro (by omega) (qx_M_mono (c_fail h1.1) ?_)))
          rintro _ ρ ⟨rfl, fρ, gρ⟩
          refine And.intro (bI_01 _) ?_
          exact ⟨f1.tr (fA.of fρ (by simp)), rfl, gρ⟩
      | some c =>
        have hcr := q_cp1_r hc
        have hk9 := q_cp1_k hc
        have hp := q_nx_gt (q_kd_lt hk9)
        rw [show cpI (q_kd T s1.1) = nI c by unfold cpI; rw [hc]] at mcp
        have hne : ¬ nI c = (-1 : Int32) := fun z => by
          have h2 := congrArg Int32.toInt z
          rw [nI_toInt (by omega)] at h2
          exact absurd h2 (by rw [show (-1 : Int32).toInt = -1 from rfl]; omega)
        have b7 := h1.2.2.1
        have l60 := h1.2.2.2.1
        by_cases m6 : s1.2.2.2 = 60
        · rw [q_cmr_f rfl hc m6]
          refine qy_wp_ok (c := CX5_readFact) (cuts := [115, 94]) vX5_readFact wX5_readFact 2000 79 _ _ _ ?_
          refine And.intro rfl (Exists.intro _ (And.intro (by omega) (qx_M_mono (c_kind h1.1) ?_)))
          rintro _ _ ⟨rfl, rfl⟩
          refine Exists.intro _ (And.intro (by omega) (qx_M_mono (mcp) ?_))
          rintro _ _ ⟨rfl, rfl⟩
          refine Exists.intro ((-1)) (And.intro (by decide) ?_)
          refine And.intro (fun h91 => ?_) (fun h91 => ?_)
          · skip
            refine And.intro (by rw [show qx_sh qc_T _ a = _ from hs1.2.1]; rfl) (Exists.intro 7 (Exists.intro (nI s1.2.2.2) (And.intro rfl (And.intro b7 ?_))))
            refine Exists.intro (nI 60) (And.intro rfl ?_)
            refine And.intro (fun h106 => ?_) (fun h106 => ?_)
            · skip
              have h106 := nI_ltT (a := s1.2.2.2) (b := 60) (by omega) (by decide) h106
              exact absurd h106 (by omega)
            · skip
              have h106 := nI_ltF (a := s1.2.2.2) (b := 60) (by omega) (by decide) h106
              refine Exists.intro (nI 3) (And.intro rfl ?_)
              refine And.intro rfl (Exists.intro _ (And.intro (by omega) (qx_M_mono (c_fail h1.1) ?_)))
              rintro _ ρ ⟨rfl, fρ, gρ⟩
              refine And.intro (bI_01 _) ?_
              exact ⟨f1.tr (fA.of fρ (by simp)), rfl, gρ⟩
          · skip
            refine qx_K_le (ls := [.retAddr 0, .ref 4, .retAddr 0, .retAddr 0, .retAddr 0]) ⟨Or.inl rfl, Or.inr rfl, Or.inr rfl, Or.inr rfl, Or.inl rfl, trivial⟩ ?_
            exact absurd h91 hne
        · rw [q_cmr_o rfl hc m6]
          have k129 : ∀ σ2, uP σ2 a T (q_mk T s1) → fA a σ σ2 → qx_K G qc_T D RX5 YX5_readFact 129 [.ref a, .ref 4, .retAddr 0, .retAddr 0, .int (nI c)] [] σ2 (fun r s' => rU σ s' a T (q_bd (q_sm T (q_mk T s1)) (fun s2 => .ok (q_em c s2))) r) := by
            intro σ2 h2 f2
            have hs2 := hs.fr f2
            have ms2 := c_readSum (G := G) h2 hs2 (show s1.2.1 ≤ q_nx T s1.1 by omega)
            cases hv2 : q_sm T (q_mk T s1) with
            | error f =>
              rw [hv2] at ms2
              show qx_K G qc_T D RX5 YX5_readFact 129 [.ref a, .ref 4, .retAddr 0, .retAddr 0, .int (nI c)] [] σ2 (fun r s' => rU σ s' a T (.error f) r)
              refine qy_wp_ok (c := CX5_readFact) (cuts := []) vX5_readFact wX5_readFact 2000 129 _ _ _ ?_
              refine And.intro ((congrArg Prod.fst (hs2.2.1)).trans rfl) (Exists.intro _ (And.intro (by omega) (qx_M_mono (ms2) ?_)))
              rintro _ ρ ⟨fρ, rfl, gρ⟩
              refine And.intro (fun h134 => ?_) (fun h134 => ?_)
              · skip
                have h134 := bI_t h134
                exact absurd (h134.symm.trans (rfl)) (by decide)
              · skip
                have h134 := bI_f h134
                refine Exists.intro (nI 0) (And.intro rfl ?_)
                refine And.intro (Or.inl rfl) ?_
                exact ⟨f2.tr fρ, rfl, gρ⟩
            | ok s2 =>
              rw [hv2] at ms2
              obtain ⟨k0, k1, k2, k3, k4, -⟩ := q_sm_g hv2
              have k3 : s2.2.1 + q_nx T s1.1 ≤ s1.2.1 + s2.1 := k3
              show qx_K G qc_T D RX5 YX5_readFact 129 [.ref a, .ref 4, .retAddr 0, .retAddr 0, .int (nI c)] [] σ2 (fun r s' => rU σ s' a T (.ok (q_em c s2)) r)
              refine qy_wp_ok (c := CX5_readFact) (cuts := []) vX5_readFact wX5_readFact 2000 129 _ _ _ ?_
              refine And.intro ((congrArg Prod.fst (hs2.2.1)).trans rfl) (Exists.intro _ (And.intro (by omega) (qx_M_mono (ms2) ?_)))
              rintro _ ρ ⟨fρ, rfl, aρ⟩
              refine And.intro (fun h134 => ?_) (fun h134 => ?_)
              · skip
                have h134 := bI_t h134
                refine And.intro ((congrArg Prod.fst ((hs2.fr fρ).2.1)).trans rfl) (Exists.intro _ (And.intro (by omega) (qx_M_mono (c_step aρ (hs2.fr fρ) (by omega) (by omega) (by omega)) ?_)))
                rintro _ τ ⟨rfl, fτ, aτ⟩
                refine Exists.intro (nI 1) (And.intro rfl ?_)
                refine And.intro (Or.inr rfl) ?_
                exact ⟨f2.tr (fρ.tr fτ), rfl, aτ⟩
              · skip
                have h134 := bI_f h134
                exact absurd (h134.symm.trans (rfl)) (by decide)
          obtain ⟨σ2, e2⟩ : ∃ zs, zs = qx_wi σ1 a 7 (nI (s1.2.2.2 + 1)) := ⟨_, rfl⟩
          have fw := qn_wif e2
          have h2 : uP σ2 a T (s1.1, s1.2.1, s1.2.2.1, s1.2.2.2 + 1) := by
            obtain ⟨c0, c1, c2, c3, c4, c5⟩ := h1
            exact ⟨c0.fr fw (by simp; omega), (qn_ne e2 (Or.inr (by decide))).trans c1, qn_eq e2, by show s1.2.2.2 + 1 ≤ 60; omega, fun i hi => (qn_ne e2 (Or.inl (by omega))).trans (c4 i hi), (qn_ne e2 (Or.inr (by decide))).trans c5⟩
          refine qy_wp_ok (c := CX5_readFact) (cuts := [129, 94]) vX5_readFact wX5_readFact 2000 79 _ _ _ ?_
          refine And.intro rfl (Exists.intro _ (And.intro (by omega) (qx_M_mono (c_kind h1.1) ?_)))
          rintro _ _ ⟨rfl, rfl⟩
          refine Exists.intro _ (And.intro (by omega) (qx_M_mono (mcp) ?_))
          rintro _ _ ⟨rfl, rfl⟩
          refine Exists.intro ((-1)) (And.intro (by decide) ?_)
          refine And.intro (fun h91 => ?_) (fun h91 => ?_)
          · skip
            refine And.intro (by rw [show qx_sh qc_T _ a = _ from hs1.2.1]; rfl) (Exists.intro 7 (Exists.intro (nI s1.2.2.2) (And.intro rfl (And.intro b7 ?_))))
            refine Exists.intro (nI 60) (And.intro rfl ?_)
            refine And.intro (fun h106 => ?_) (fun h106 => ?_)
            · skip
              have h106 := nI_ltT (a := s1.2.2.2) (b := 60) (by omega) (by decide) h106
              refine And.intro (by rw [show qx_sh qc_T _ a = _ from hs1.2.1]; rfl) (Exists.intro 7 (Exists.intro (nI s1.2.2.2) (And.intro rfl (And.intro b7 ?_))))
              refine Exists.intro (nI 1) (And.intro rfl ?_)
              refine Exists.intro (nI (s1.2.2.2 + 1)) (And.intro (nI_add _ _) ?_)
              refine And.intro (by rw [show qx_sh qc_T _ a = _ from hs1.2.1]; rfl) (Exists.intro 7 (Exists.intro σ2 (And.intro rfl (And.intro e2.symm ?_))))
              refine And.intro rfl (Exists.intro _ (And.intro (by omega) (qx_M_mono (c_pass h2.1 hk9) ?_)))
              rintro _ ρ ⟨rfl, fρ, aρ⟩
              exact k129 _ (h2.to ha fρ aρ) (f1.tr ((fA.of fw (by simp)).tr (fA.of fρ (by simp))))
            · skip
              have h106 := nI_ltF (a := s1.2.2.2) (b := 60) (by omega) (by decide) h106
              exact absurd h106 (by omega)
          · skip
            exact absurd h91 hne
    refine qy_wp_ok (c := CX5_readFact) (cuts := [79]) vX5_readFact wX5_readFact 2000 69 _ _ _ ?_
    refine And.intro ((congrArg Prod.fst (hs.2.1)).trans rfl) (Exists.intro _ (And.intro (by omega) (qx_M_mono (ms) ?_)))
    rintro _ σ1 ⟨fσ1, rfl, aσ1⟩
    refine And.intro (fun h74 => ?_) (fun h74 => ?_)
    · skip
      have h74 := bI_t h74
      exact key _ aσ1 fσ1
    · skip
      have h74 := bI_f h74
      exact absurd (h74.symm.trans (rfl)) (by decide)
theorem rU_b {σ s' : qx_S} {a : Nat} {T : q_T} {x : q_X} {r : Option Value} (h : rU σ s' a T x r) : r = some (.int (bI (xOk x))) := by
  obtain ⟨-, d⟩ := h
  cases x with
  | error f => exact d.1
  | ok y => exact d.1
theorem c_fact0 {G : qx_G} {a : Nat} {T : q_T} : FactC G T a 0 := by
  intro σ s h hs hl
  have hb := h.1.le.2.2
  have hkl := q_kd_le hb s.1
  show qx_M G qc_T 3 YX5_readFact [.ref a, .ref 4, .int (nI 10)] σ (fun r s' => rU σ s' a T (if q_kd T s.1 = 91 ∨ q_kd T s.1 = 320 then .error (1 + 8 * s.1 + 2) else q_cmq T s) r)
  by_cases kb : q_kd T s.1 = 91
  · rw [if_pos (Or.inl kb)]
    have mk := c_kind_n (G := G) h.1 (by omega)
    rw [kb] at mk
    refine qx_M_in rfl (Nat.le_of_ble_eq_true rfl) ?_
    refine qy_wp_ok (c := CX5_readFact) (cuts := []) vX5_readFact wX5_readFact 2000 0 _ _ _ ?_
    refine And.intro rfl (Exists.intro _ (And.intro (by decide) (qx_M_mono (mk) ?_)))
    rintro _ _ ⟨rfl, rfl⟩
    refine Exists.intro (nI 91) (And.intro rfl ?_)
    refine And.intro (fun h6 => ?_) (fun h6 => ?_)
    · skip
      exact absurd (by decide) h6
    · skip
      refine Exists.intro (nI 1) (And.intro rfl ?_)
      refine And.intro (fun h16 => ?_) (fun h16 => ?_)
      · skip
        refine Exists.intro (nI 10) (And.intro rfl ?_)
        refine And.intro (fun h32 => ?_) (fun h32 => ?_)
        · skip
          exact absurd h32 (by decide)
        · skip
          refine Exists.intro (nI 2) (And.intro rfl ?_)
          refine And.intro rfl (Exists.intro _ (And.intro (by decide) (qx_M_mono (c_fail h.1) ?_)))
          rintro _ σ1 ⟨rfl, fσ1, gσ1⟩
          refine And.intro (bI_01 _) ?_
          exact ⟨fA.of fσ1 (by simp), rfl, gσ1⟩
      · skip
        exact absurd h16 (by decide)
  · have n91 := kI_ne hkl (show 91 < 999 by decide) kb
    by_cases kn : q_kd T s.1 = 320
    · rw [if_pos (Or.inr kn)]
      have mk := c_kind_n (G := G) h.1 (by omega)
      rw [kn] at mk
      refine qx_M_in rfl (Nat.le_of_ble_eq_true rfl) ?_
      refine qy_wp_ok (c := CX5_readFact) (cuts := []) vX5_readFact wX5_readFact 2000 0 _ _ _ ?_
      refine And.intro rfl (Exists.intro _ (And.intro (by decide) (qx_M_mono (mk) ?_)))
      rintro _ _ ⟨rfl, rfl⟩
      refine Exists.intro (nI 91) (And.intro rfl ?_)
      refine And.intro (fun h6 => ?_) (fun h6 => ?_)
      · skip
        refine Exists.intro (nI 0) (And.intro rfl ?_)
        refine And.intro (fun h16 => ?_) (fun h16 => ?_)
        · skip
          exact absurd (by decide) h16
        · skip
          refine And.intro rfl (Exists.intro _ (And.intro (by decide) (qx_M_mono (mk) ?_)))
          rintro _ _ ⟨rfl, rfl⟩
          refine Exists.intro (nI 320) (And.intro rfl ?_)
          refine And.intro (fun h26 => ?_) (fun h26 => ?_)
          · skip
            exact absurd (by decide) h26
          · skip
            refine Exists.intro (nI 10) (And.intro rfl ?_)
            refine And.intro (fun h32 => ?_) (fun h32 => ?_)
            · skip
              exact absurd h32 (by decide)
            · skip
              refine Exists.intro (nI 2) (And.intro rfl ?_)
              refine And.intro rfl (Exists.intro _ (And.intro (by decide) (qx_M_mono (c_fail h.1) ?_)))
              rintro _ σ1 ⟨rfl, fσ1, gσ1⟩
              refine And.intro (bI_01 _) ?_
              exact ⟨fA.of fσ1 (by simp), rfl, gσ1⟩
      · skip
        exact absurd h6 (by decide)
    · have n320 := kI_ne hkl (show 320 < 999 by decide) kn
      rw [if_neg (by omega)]
      refine qx_M_in rfl (Nat.le_of_ble_eq_true rfl) ?_
      refine qy_wp_ok (c := CX5_readFact) (cuts := [69]) vX5_readFact wX5_readFact 2000 0 _ _ _ ?_
      refine And.intro rfl (Exists.intro _ (And.intro (by decide) (qx_M_mono (c_kind h.1) ?_)))
      rintro _ _ ⟨rfl, rfl⟩
      refine Exists.intro (nI 91) (And.intro rfl ?_)
      refine And.intro (fun h6 => ?_) (fun h6 => ?_)
      · skip
        refine Exists.intro (nI 0) (And.intro rfl ?_)
        refine And.intro (fun h16 => ?_) (fun h16 => ?_)
        · skip
          exact absurd (by decide) h16
        · skip
          refine And.intro rfl (Exists.intro _ (And.intro (by decide) (qx_M_mono (c_kind h.1) ?_)))
          rintro _ _ ⟨rfl, rfl⟩
          refine Exists.intro (nI 320) (And.intro rfl ?_)
          refine And.intro (fun h26 => ?_) (fun h26 => ?_)
          · skip
            refine qx_K_le (ls := [.ref a, .ref 4, .retAddr 0, .retAddr 0, .retAddr 0]) ⟨Or.inr rfl, Or.inr rfl, Or.inl rfl, Or.inl rfl, Or.inr rfl, trivial⟩ ?_
            exact l_factC (d := 0) (by decide) h hs hl
          · skip
            exact absurd h26 n320
      · skip
        exact absurd h6 n91
theorem c_factS {G : qx_G} {a k : Nat} {T : q_T} (hk : k < 10) (hF : FactC G T a k) : FactC G T a (k + 1) := by
  intro σ s h hs hl
  have ha := hs.1
  have hb := h.1.le.2.2
  have hkl := q_kd_le hb s.1
  have hT := c_testOf hF
  show qx_M G qc_T (3 + 3 * (k + 1)) YX5_readFact [.ref a, .ref 4, .int (nI (10 - (k + 1)))] σ (fun r s' => rU σ s' a T (if q_kd T s.1 = 91 then q_bd (q_ts (q_FA T k) T (q_pas T s)) (q_cls T .ok) else if q_kd T s.1 = 320 then q_bd (q_FA T k (q_pas T s)) (fun s' => .ok (q_em 100021 s')) else q_cmq T s) r)
  have ex : ∀ {σ1 : qx_S} {y : qx_Y} {as : List Value} {d : Nat} {x : q_X}, qx_M G qc_T d y as σ1 (fun r s' => rU σ1 s' a T x r) → qx_M G qc_T d y as σ1 (fun r s' => ∃ b, r = some (.int (bI b)) ∧ rU σ1 s' a T x r) := fun m => qx_M_mono m (fun r s' z => ⟨_, rU_b z, z⟩)
  by_cases kb : q_kd T s.1 = 91
  · rw [if_pos kb]
    have mk := c_kind_n (G := G) h.1 (by omega)
    rw [kb] at mk
    have hp := q_nx_gt (q_kd_lt (T := T) (p := s.1) (by omega))
    refine qx_M_in rfl (Nat.le_of_ble_eq_true rfl) ?_
    refine qy_wp_ok (c := CX5_readFact) (cuts := []) vX5_readFact wX5_readFact 2000 0 _ _ _ ?_
    refine And.intro rfl (Exists.intro _ (And.intro (by omega) (qx_M_mono (mk) ?_)))
    rintro _ _ ⟨rfl, rfl⟩
    refine Exists.intro (nI 91) (And.intro rfl ?_)
    refine And.intro (fun h6 => ?_) (fun h6 => ?_)
    · skip
      exact absurd (by decide) h6
    · skip
      refine Exists.intro (nI 1) (And.intro rfl ?_)
      refine And.intro (fun h16 => ?_) (fun h16 => ?_)
      · skip
        refine Exists.intro (nI 10) (And.intro rfl ?_)
        refine And.intro (fun h32 => ?_) (fun h32 => ?_)
        · skip
          have h32 := nI_ltT (a := 10 - (k + 1)) (b := 10) (by omega) (by decide) h32
          refine And.intro rfl (Exists.intro _ (And.intro (by omega) (qx_M_mono (c_pass h.1 (by omega)) ?_)))
          rintro _ σ1 ⟨rfl, fσ1, aσ1⟩
          refine And.intro (fun h46 => ?_) (fun h46 => ?_)
          · skip
            exact absurd h46 (by decide)
          · skip
            refine Exists.intro (nI 1) (And.intro rfl ?_)
            refine Exists.intro (nI (10 - k)) (And.intro ((nI_add _ _).trans (congrArg nI (by omega))) ?_)
            refine And.intro ((congrArg Prod.fst ((fσ1.s _).trans (hs.2.1))).trans rfl) (Exists.intro _ (And.intro (by omega) (qx_M_mono (ex (c_bracketOf hT (h.to ha fσ1 aσ1) (hs.fr fσ1) (show s.2.1 ≤ q_nx T s.1 by omega))) ?_)))
            rintro _ σ2 ⟨bb, rfl, gσ2⟩
            refine And.intro (bI_01 _) ?_
            exact ⟨(fA.of fσ1 (by simp)).tr gσ2.1, gσ2.2⟩
        · skip
          have h32 := nI_ltF (a := 10 - (k + 1)) (b := 10) (by omega) (by decide) h32
          exact absurd h32 (by omega)
      · skip
        exact absurd h16 (by decide)
  · rw [if_neg kb]
    have n91 := kI_ne hkl (show 91 < 999 by decide) kb
    by_cases kn : q_kd T s.1 = 320
    · rw [if_pos kn]
      have mk := c_kind_n (G := G) h.1 (by omega)
      rw [kn] at mk
      have hp := q_nx_gt (q_kd_lt (T := T) (p := s.1) (by omega))
      refine qx_M_in rfl (Nat.le_of_ble_eq_true rfl) ?_
      refine qy_wp_ok (c := CX5_readFact) (cuts := []) vX5_readFact wX5_readFact 2000 0 _ _ _ ?_
      refine And.intro rfl (Exists.intro _ (And.intro (by omega) (qx_M_mono (mk) ?_)))
      rintro _ _ ⟨rfl, rfl⟩
      refine Exists.intro (nI 91) (And.intro rfl ?_)
      refine And.intro (fun h6 => ?_) (fun h6 => ?_)
      · skip
        refine Exists.intro (nI 0) (And.intro rfl ?_)
        refine And.intro (fun h16 => ?_) (fun h16 => ?_)
        · skip
          exact absurd (by decide) h16
        · skip
          refine And.intro rfl (Exists.intro _ (And.intro (by omega) (qx_M_mono (mk) ?_)))
          rintro _ _ ⟨rfl, rfl⟩
          refine Exists.intro (nI 320) (And.intro rfl ?_)
          refine And.intro (fun h26 => ?_) (fun h26 => ?_)
          · skip
            exact absurd (by decide) h26
          · skip
            refine Exists.intro (nI 10) (And.intro rfl ?_)
            refine And.intro (fun h32 => ?_) (fun h32 => ?_)
            · skip
              have h32 := nI_ltT (a := 10 - (k + 1)) (b := 10) (by omega) (by decide) h32
              refine And.intro rfl (Exists.intro _ (And.intro (by omega) (qx_M_mono (c_pass h.1 (by omega)) ?_)))
              rintro _ σ1 ⟨rfl, fσ1, aσ1⟩
              refine And.intro (fun h46 => ?_) (fun h46 => ?_)
              · skip
                refine Exists.intro (nI 1) (And.intro rfl ?_)
                refine Exists.intro (nI (10 - k)) (And.intro ((nI_add _ _).trans (congrArg nI (by omega))) ?_)
                refine And.intro ((congrArg Prod.fst ((fσ1.s _).trans (hs.2.1))).trans rfl) (Exists.intro _ (And.intro (by omega) (qx_M_mono (ex (c_notOf hF (h.to ha fσ1 aσ1) (hs.fr fσ1) (show s.2.1 + 1 ≤ q_nx T s.1 by omega))) ?_)))
                rintro _ σ2 ⟨bb, rfl, gσ2⟩
                refine And.intro (bI_01 _) ?_
                exact ⟨(fA.of fσ1 (by simp)).tr gσ2.1, gσ2.2⟩
              · skip
                exact absurd (by decide) h46
            · skip
              have h32 := nI_ltF (a := 10 - (k + 1)) (b := 10) (by omega) (by decide) h32
              exact absurd h32 (by omega)
      · skip
        exact absurd h6 (by decide)
    · have n320 := kI_ne hkl (show 320 < 999 by decide) kn
      rw [if_neg kn]
      refine qx_M_in rfl (Nat.le_of_ble_eq_true rfl) ?_
      refine qy_wp_ok (c := CX5_readFact) (cuts := [69]) vX5_readFact wX5_readFact 2000 0 _ _ _ ?_
      refine And.intro rfl (Exists.intro _ (And.intro (by omega) (qx_M_mono (c_kind h.1) ?_)))
      rintro _ _ ⟨rfl, rfl⟩
      refine Exists.intro (nI 91) (And.intro rfl ?_)
      refine And.intro (fun h6 => ?_) (fun h6 => ?_)
      · skip
        refine Exists.intro (nI 0) (And.intro rfl ?_)
        refine And.intro (fun h16 => ?_) (fun h16 => ?_)
        · skip
          exact absurd (by decide) h16
        · skip
          refine And.intro rfl (Exists.intro _ (And.intro (by omega) (qx_M_mono (c_kind h.1) ?_)))
          rintro _ _ ⟨rfl, rfl⟩
          refine Exists.intro (nI 320) (And.intro rfl ?_)
          refine And.intro (fun h26 => ?_) (fun h26 => ?_)
          · skip
            refine qx_K_le (ls := [.ref a, .ref 4, .retAddr 0, .retAddr 0, .retAddr 0]) ⟨Or.inr rfl, Or.inr rfl, Or.inl rfl, Or.inl rfl, Or.inr rfl, trivial⟩ ?_
            exact l_factC (d := 0) (by omega) h hs hl
          · skip
            exact absurd h26 n320
      · skip
        exact absurd h6 n91
theorem c_fact {G : qx_G} {a : Nat} {T : q_T} : ∀ k, k ≤ 10 → FactC G T a k
  | 0, _ => c_fact0
  | k + 1, h => c_factS (by omega) (c_fact k (by omega))
/-- a whole test -/
theorem c_readTest {G : qx_G} {a : Nat} {T : q_T} : TestC G T a 10 := c_testOf (c_fact 10 (Nat.le_refl _))

