/-! THE CLASS: clauses of a rule -/
theorem pL_ne {l : List (Nat × Option Nat)} {x j : Nat} (h : ∀ q, q ∈ l → q.1 ≠ x ∨ ∃ k, q.2 = some k ∧ k ≠ j) : pL l x j = false := by
  cases hl : pL l x j with
  | false => rfl
  | true =>
    exfalso
    obtain ⟨⟨q1, q2⟩, hq, h1⟩ := List.any_eq_true.mp hl
    simp only [Bool.and_eq_true] at h1
    have e1 : q1 = x := Nat.eq_of_beq_eq_true h1.1
    rcases h _ hq with y | ⟨k, y1, y2⟩
    · exact y e1
    · have y1 : q2 = some k := y1
      subst y1
      exact y2 (Nat.eq_of_beq_eq_true h1.2)
/-- what may change while a rule's clause is read: the rule, but for its count -/
def pB (a x j : Nat) : Bool := decide (a ≤ x ∧ x ≤ a + 5 ∧ ¬ (x = a ∧ j = 6)) || pL [(4, some 6), (4, some 7)] x j
abbrev fB (a : Nat) (σ σ' : qx_S) : Prop := qf (pB a) σ σ'
theorem fB.a {a : Nat} {σ σ' : qx_S} (f : fA a σ σ') : fB a σ σ' := by
  refine qf.mono f (fun x j hx => ?_)
  unfold pB at hx
  unfold pA
  rw [Bool.or_eq_false_iff] at hx ⊢
  have x1 := of_decide_eq_false hx.1
  refine ⟨?_, hx.2⟩
  rw [Bool.or_eq_false_iff]
  exact ⟨decide_eq_false (by omega), decide_eq_false (by omega)⟩
theorem fB.of {a k : Nat} {σ σ' : qx_S} (f : ql [(a + k, none)] σ σ') (h : 1 ≤ k ∧ k ≤ 5) : fB a σ σ' := by
  refine qf.mono f (fun x j hx => ?_)
  unfold pB at hx
  rw [Bool.or_eq_false_iff] at hx
  have x1 := of_decide_eq_false hx.1
  refine pL_ne (fun q hq => ?_)
  rw [List.mem_singleton] at hq
  rw [hq]
  left
  show a + k ≠ x
  omega
theorem pA_6 {a : Nat} (ha : 9 ≤ a) : pA a a 6 = false := by
  unfold pA
  rw [decide_eq_false (show ¬ a = a + 1 by omega), decide_eq_false (show ¬ (a = a ∧ 6 ≠ 6) by omega), pL_ne (by simp; omega)]
  rfl
theorem pA_k {a k j : Nat} (ha : 9 ≤ a) (hk : 2 ≤ k ∧ k ≤ 5) : pA a (a + k) j = false := by
  unfold pA
  rw [decide_eq_false (show ¬ a + k = a + 1 by omega), decide_eq_false (show ¬ (a + k = a ∧ j ≠ 6) by omega), pL_ne (by simp; omega)]
  rfl
theorem uP.frB {σ s' : qx_S} {a k : Nat} {T : q_T} {s : q_P} (h : uP σ a T s) (f : ql [(a + k, none)] σ s') (hk : 2 ≤ k) (ha : 9 ≤ a) : uP s' a T s := by
  obtain ⟨b0, b1, b2, b3, b4, b5⟩ := h
  have n0 : ∀ j, pL [(a + k, none)] a j = false := fun j => pL_ne (fun q hq => by rw [List.mem_singleton] at hq; rw [hq]; left; show a + k ≠ a; omega)
  have n1 : ∀ j, pL [(a + k, none)] (a + 1) j = false := fun j => pL_ne (fun q hq => by rw [List.mem_singleton] at hq; rw [hq]; left; show a + k ≠ a + 1; omega)
  exact ⟨b0.fr f (by simp; omega), (f.i _ _ (n0 _)).trans b1, (f.i _ _ (n0 _)).trans b2, b3, fun i hi => (f.i _ _ (n1 _)).trans (b4 i hi), (f.i _ _ (n0 _)).trans b5⟩
theorem fk_6 {σ s' : qx_S} {a k : Nat} (f : ql [(a + k, none)] σ s') (hk : 1 ≤ k) (j : Nat) : qx_mi s' a j = qx_mi σ a j := f.i _ _ (pL_ne (fun q hq => by rw [List.mem_singleton] at hq; rw [hq]; left; show a + k ≠ a; omega))
theorem fk_k {σ s' : qx_S} {a k k' : Nat} (f : ql [(a + k, none)] σ s') (hk : k ≠ k') (j : Nat) : qx_mi s' (a + k') j = qx_mi σ (a + k') j := f.i _ _ (pL_ne (fun q hq => by rw [List.mem_singleton] at hq; rw [hq]; left; show a + k ≠ a + k'; omega))
/-- a clause's cells -/
def uCl (σ : qx_S) (a c : Nat) (i : Bool × Nat × Nat × Nat) : Prop := qx_mi σ (a + 2) c = bI i.1 ∧ qx_mi σ (a + 3) c = nI i.2.1 ∧ qx_mi σ (a + 4) c = nI i.2.2.1 ∧ qx_mi σ (a + 5) c = nI i.2.2.2
/-- what a clause answers -/
def rK (σ s' : qx_S) (a : Nat) (T : q_T) (nc fr : Nat) (bar : Bool) (x1 : q_X) (x2 : q_P → q_X) (r : Option Value) : Prop := fB a σ s' ∧ (∀ c, c < nc → ∀ k, 2 ≤ k → k ≤ 5 → qx_mi s' (a + k) c = qx_mi σ (a + k) c) ∧ (match x1 with
  | .error f => r = some (.int (bI false)) ∧ qx_mi s' 4 7 = nI f
  | .ok s1 => match x2 s1 with
    | .error f => r = some (.int (bI false)) ∧ qx_mi s' 4 7 = nI f
    | .ok s2 => r = some (.int (bI true)) ∧ uP s' a T s2 ∧ uCl s' a nc (bar, fr, s1.2.1, s2.2.1))
theorem c_clause_bar {G : qx_G} {σ : qx_S} {a nc : Nat} {T : q_T} {s : q_P} (h : uP σ a T s) (hs : shR σ a) (hl : s.2.1 ≤ s.1) (hc : qx_mi σ a 6 = nI nc) (hnc : nc < 12) : qx_M G qc_T 35 YX5_readClause [.ref a, .ref 4, .int (bI true)] σ (fun r s' => rK σ s' a T nc s.2.1 true (q_dA T true s) (q_dB T true) r) := by
  have ha := hs.1
  have hfb : fB a σ σ := qf.rf
  have hu := h
  have lo : ∀ c, c < nc → ∀ k, 2 ≤ k → k ≤ 5 → qx_mi σ (a + k) c = qx_mi σ (a + k) c := fun _ _ _ _ _ => rfl
  have e2 : q_dB T true s = q_ts (q_FA T 10) T s := rfl
  show qx_M G qc_T 35 YX5_readClause [.ref a, .ref 4, .int (bI true)] σ (fun r s' => fB a σ s' ∧ (∀ c, c < nc → ∀ k, 2 ≤ k → k ≤ 5 → qx_mi s' (a + k) c = qx_mi σ (a + k) c) ∧ (match q_ts (q_FA T 10) T s with
    | .error f => r = some (.int (bI false)) ∧ qx_mi s' 4 7 = nI f
    | .ok s2 => r = some (.int (bI true)) ∧ uP s' a T s2 ∧ uCl s' a nc (true, s.2.1, s.2.1, s2.2.1)))
  have mt : ∀ σ1, uP σ1 a T s → shR σ1 a → _ := fun σ1 z1 z2 => c_readTest (G := G) (a := a) (T := T) σ1 s z1 z2 hl
  have h5 := h.2.1
  cases hv : q_ts (q_FA T 10) T s with
  | error f =>
    rw [hv] at mt
    refine qx_M_in rfl (Nat.le_of_ble_eq_true rfl) ?_
    refine qy_wp_ok (c := CX5_readClause) (cuts := []) vX5_readClause wX5_readClause 2000 0 _ _ _ ?_
    refine And.intro (by rw [show qx_sh qc_T _ a = _ from hs.2.1]; rfl) (Exists.intro (a + 2) (And.intro rfl ?_))
    refine And.intro (by rw [show qx_sh qc_T _ a = _ from hs.2.1]; rfl) (Exists.intro 6 (Exists.intro (nI nc) (And.intro rfl (And.intro (hc) ?_))))
    obtain ⟨σ1, eσ1⟩ : ∃ zs, zs = (qx_wi σ (a + 2) nc (bI true)) := ⟨_, rfl⟩
    have fσ1 := qn_wi eσ1
    refine Or.inr (Exists.intro (nc) (Exists.intro σ1 (And.intro rfl (And.intro ⟨12, hs.2.2.2.1, by omega, by decide⟩ (And.intro (bI_01 _) (And.intro eσ1.symm ?_))))))
    have hc_σ1 : qx_mi σ1 a 6 = nI nc := (by first | exact (fk_6 fσ1 (by decide) 6).trans hc | exact (fσ1.i _ _ (pA_6 ha)).trans hc | exact (fσ1.i _ _ (pL_ne (by simp; omega))).trans hc)
    have hfb_σ1 : fB a σ σ1 := hfb.tr (by first | exact fB.of fσ1 (by decide) | exact fB.a fσ1 | exact fB.a (fA.of fσ1 (by simp)))
    have hu_σ1 : uP σ1 a T s := hu.frB fσ1 (by decide) ha
    have lo_σ1 : ∀ c, c < nc → ∀ k, 2 ≤ k → k ≤ 5 → qx_mi σ1 (a + k) c = qx_mi σ (a + k) c := fun c hcc k h1 h2 => (qn_ne eσ1 (Or.inr (by omega))).trans (lo c hcc k h1 h2)
    refine And.intro (by rw [show qx_sh qc_T _ a = _ from (fσ1.s _).trans (hs.2.1)]; rfl) (Exists.intro (a + 3) (And.intro rfl ?_))
    refine And.intro (by rw [show qx_sh qc_T _ a = _ from (fσ1.s _).trans (hs.2.1)]; rfl) (Exists.intro 6 (Exists.intro (nI nc) (And.intro rfl (And.intro (hc_σ1) ?_))))
    refine And.intro (by rw [show qx_sh qc_T _ a = _ from (fσ1.s _).trans (hs.2.1)]; rfl) (Exists.intro 5 (Exists.intro (nI s.2.1) (And.intro rfl (And.intro (hu_σ1.2.1) ?_))))
    obtain ⟨σ2, eσ2⟩ : ∃ zs, zs = (qx_wi σ1 (a + 3) nc (nI s.2.1)) := ⟨_, rfl⟩
    have fσ2 := qn_wi eσ2
    refine Exists.intro (nc) (Exists.intro σ2 (And.intro rfl (And.intro ⟨12, (fσ1.s _).trans (hs.2.2.2.2.1), by omega, by decide⟩ (And.intro eσ2.symm ?_))))
    have hc_σ2 : qx_mi σ2 a 6 = nI nc := (by first | exact (fk_6 fσ2 (by decide) 6).trans hc_σ1 | exact (fσ2.i _ _ (pA_6 ha)).trans hc_σ1 | exact (fσ2.i _ _ (pL_ne (by simp; omega))).trans hc_σ1)
    have hfb_σ2 : fB a σ σ2 := hfb_σ1.tr (by first | exact fB.of fσ2 (by decide) | exact fB.a fσ2 | exact fB.a (fA.of fσ2 (by simp)))
    have hu_σ2 : uP σ2 a T s := hu_σ1.frB fσ2 (by decide) ha
    have lo_σ2 : ∀ c, c < nc → ∀ k, 2 ≤ k → k ≤ 5 → qx_mi σ2 (a + k) c = qx_mi σ (a + k) c := fun c hcc k h1 h2 => (qn_ne eσ2 (Or.inr (by omega))).trans (lo_σ1 c hcc k h1 h2)
    refine And.intro (fun h24 => ?_) (fun h24 => ?_)
    · skip
      have h24 := bI_t h24
      refine And.intro (by rw [show qx_sh qc_T _ a = _ from (fσ2.s _).trans ((fσ1.s _).trans (hs.2.1))]; rfl) (Exists.intro (a + 4) (And.intro rfl ?_))
      refine And.intro (by rw [show qx_sh qc_T _ a = _ from (fσ2.s _).trans ((fσ1.s _).trans (hs.2.1))]; rfl) (Exists.intro 6 (Exists.intro (nI nc) (And.intro rfl (And.intro (hc_σ2) ?_))))
      refine And.intro (by rw [show qx_sh qc_T _ a = _ from (fσ2.s _).trans ((fσ1.s _).trans (hs.2.1))]; rfl) (Exists.intro 5 (Exists.intro (nI s.2.1) (And.intro rfl (And.intro (hu_σ2.2.1) ?_))))
      obtain ⟨σ3, eσ3⟩ : ∃ zs, zs = (qx_wi σ2 (a + 4) nc (nI s.2.1)) := ⟨_, rfl⟩
      have fσ3 := qn_wi eσ3
      refine Exists.intro (nc) (Exists.intro σ3 (And.intro rfl (And.intro ⟨12, (fσ2.s _).trans ((fσ1.s _).trans (hs.2.2.2.2.2.1)), by omega, by decide⟩ (And.intro eσ3.symm ?_))))
      have hc_σ3 : qx_mi σ3 a 6 = nI nc := (by first | exact (fk_6 fσ3 (by decide) 6).trans hc_σ2 | exact (fσ3.i _ _ (pA_6 ha)).trans hc_σ2 | exact (fσ3.i _ _ (pL_ne (by simp; omega))).trans hc_σ2)
      have hfb_σ3 : fB a σ σ3 := hfb_σ2.tr (by first | exact fB.of fσ3 (by decide) | exact fB.a fσ3 | exact fB.a (fA.of fσ3 (by simp)))
      have hu_σ3 : uP σ3 a T s := hu_σ2.frB fσ3 (by decide) ha
      have lo_σ3 : ∀ c, c < nc → ∀ k, 2 ≤ k → k ≤ 5 → qx_mi σ3 (a + k) c = qx_mi σ (a + k) c := fun c hcc k h1 h2 => (qn_ne eσ3 (Or.inr (by omega))).trans (lo_σ2 c hcc k h1 h2)
      refine And.intro (fun h51 => ?_) (fun h51 => ?_)
      · skip
        have h51 := bI_t h51
        refine Exists.intro (nI 0) (And.intro rfl ?_)
        refine And.intro ((congrArg Prod.fst ((fσ3.s _).trans ((fσ2.s _).trans ((fσ1.s _).trans (hs.2.1))))).trans rfl) (Exists.intro _ (And.intro (by decide) (qx_M_mono (mt _ hu_σ3 (((hs.fr fσ1).fr fσ2).fr fσ3)) ?_)))
        rintro _ σ4 ⟨fσ4, rfl, gσ4⟩
        have hc_σ4 : qx_mi σ4 a 6 = nI nc := (by first | exact (fk_6 fσ4 (by decide) 6).trans hc_σ3 | exact (fσ4.i _ _ (pA_6 ha)).trans hc_σ3 | exact (fσ4.i _ _ (pL_ne (by simp; omega))).trans hc_σ3)
        have hfb_σ4 : fB a σ σ4 := hfb_σ3.tr (by first | exact fB.of fσ4 (by decide) | exact fB.a fσ4 | exact fB.a (fA.of fσ4 (by simp)))
        have lo_σ4 : ∀ c, c < nc → ∀ k, 2 ≤ k → k ≤ 5 → qx_mi σ4 (a + k) c = qx_mi σ (a + k) c := fun c hcc k h1 h2 => (by first | exact (fσ4.i _ _ (pA_k ha ⟨h1, h2⟩)).trans (lo_σ3 c hcc k h1 h2) | exact (fσ4.i _ _ (pL_ne (by simp; omega))).trans (lo_σ3 c hcc k h1 h2))
        refine And.intro (fun h70 => ?_) (fun h70 => ?_)
        · skip
          have h70 := bI_t h70
          exact absurd (h70.symm.trans (rfl)) (by decide)
        · skip
          have h70 := bI_f h70
          refine Exists.intro (nI 0) (And.intro rfl ?_)
          refine And.intro (Or.inl rfl) ?_
          exact ⟨hfb_σ4, lo_σ4, rfl, gσ4⟩
      · skip
        have h51 := bI_f h51
        exact absurd (h51.symm.trans (rfl)) (by decide)
    · skip
      have h24 := bI_f h24
      exact absurd (h24.symm.trans (rfl)) (by decide)
  | ok s2 =>
    rw [hv] at mt
    refine qx_M_in rfl (Nat.le_of_ble_eq_true rfl) ?_
    refine qy_wp_ok (c := CX5_readClause) (cuts := []) vX5_readClause wX5_readClause 2000 0 _ _ _ ?_
    refine And.intro (by rw [show qx_sh qc_T _ a = _ from hs.2.1]; rfl) (Exists.intro (a + 2) (And.intro rfl ?_))
    refine And.intro (by rw [show qx_sh qc_T _ a = _ from hs.2.1]; rfl) (Exists.intro 6 (Exists.intro (nI nc) (And.intro rfl (And.intro (hc) ?_))))
    obtain ⟨σ1, eσ1⟩ : ∃ zs, zs = (qx_wi σ (a + 2) nc (bI true)) := ⟨_, rfl⟩
    have fσ1 := qn_wi eσ1
    refine Or.inr (Exists.intro (nc) (Exists.intro σ1 (And.intro rfl (And.intro ⟨12, hs.2.2.2.1, by omega, by decide⟩ (And.intro (bI_01 _) (And.intro eσ1.symm ?_))))))
    have hc_σ1 : qx_mi σ1 a 6 = nI nc := (by first | exact (fk_6 fσ1 (by decide) 6).trans hc | exact (fσ1.i _ _ (pA_6 ha)).trans hc | exact (fσ1.i _ _ (pL_ne (by simp; omega))).trans hc)
    have hfb_σ1 : fB a σ σ1 := hfb.tr (by first | exact fB.of fσ1 (by decide) | exact fB.a fσ1 | exact fB.a (fA.of fσ1 (by simp)))
    have hu_σ1 : uP σ1 a T s := hu.frB fσ1 (by decide) ha
    have lo_σ1 : ∀ c, c < nc → ∀ k, 2 ≤ k → k ≤ 5 → qx_mi σ1 (a + k) c = qx_mi σ (a + k) c := fun c hcc k h1 h2 => (qn_ne eσ1 (Or.inr (by omega))).trans (lo c hcc k h1 h2)
    refine And.intro (by rw [show qx_sh qc_T _ a = _ from (fσ1.s _).trans (hs.2.1)]; rfl) (Exists.intro (a + 3) (And.intro rfl ?_))
    refine And.intro (by rw [show qx_sh qc_T _ a = _ from (fσ1.s _).trans (hs.2.1)]; rfl) (Exists.intro 6 (Exists.intro (nI nc) (And.intro rfl (And.intro (hc_σ1) ?_))))
    refine And.intro (by rw [show qx_sh qc_T _ a = _ from (fσ1.s _).trans (hs.2.1)]; rfl) (Exists.intro 5 (Exists.intro (nI s.2.1) (And.intro rfl (And.intro (hu_σ1.2.1) ?_))))
    obtain ⟨σ2, eσ2⟩ : ∃ zs, zs = (qx_wi σ1 (a + 3) nc (nI s.2.1)) := ⟨_, rfl⟩
    have fσ2 := qn_wi eσ2
    refine Exists.intro (nc) (Exists.intro σ2 (And.intro rfl (And.intro ⟨12, (fσ1.s _).trans (hs.2.2.2.2.1), by omega, by decide⟩ (And.intro eσ2.symm ?_))))
    have hc_σ2 : qx_mi σ2 a 6 = nI nc := (by first | exact (fk_6 fσ2 (by decide) 6).trans hc_σ1 | exact (fσ2.i _ _ (pA_6 ha)).trans hc_σ1 | exact (fσ2.i _ _ (pL_ne (by simp; omega))).trans hc_σ1)
    have hfb_σ2 : fB a σ σ2 := hfb_σ1.tr (by first | exact fB.of fσ2 (by decide) | exact fB.a fσ2 | exact fB.a (fA.of fσ2 (by simp)))
    have hu_σ2 : uP σ2 a T s := hu_σ1.frB fσ2 (by decide) ha
    have lo_σ2 : ∀ c, c < nc → ∀ k, 2 ≤ k → k ≤ 5 → qx_mi σ2 (a + k) c = qx_mi σ (a + k) c := fun c hcc k h1 h2 => (qn_ne eσ2 (Or.inr (by omega))).trans (lo_σ1 c hcc k h1 h2)
    refine And.intro (fun h24 => ?_) (fun h24 => ?_)
    · skip
      have h24 := bI_t h24
      refine And.intro (by rw [show qx_sh qc_T _ a = _ from (fσ2.s _).trans ((fσ1.s _).trans (hs.2.1))]; rfl) (Exists.intro (a + 4) (And.intro rfl ?_))
      refine And.intro (by rw [show qx_sh qc_T _ a = _ from (fσ2.s _).trans ((fσ1.s _).trans (hs.2.1))]; rfl) (Exists.intro 6 (Exists.intro (nI nc) (And.intro rfl (And.intro (hc_σ2) ?_))))
      refine And.intro (by rw [show qx_sh qc_T _ a = _ from (fσ2.s _).trans ((fσ1.s _).trans (hs.2.1))]; rfl) (Exists.intro 5 (Exists.intro (nI s.2.1) (And.intro rfl (And.intro (hu_σ2.2.1) ?_))))
      obtain ⟨σ3, eσ3⟩ : ∃ zs, zs = (qx_wi σ2 (a + 4) nc (nI s.2.1)) := ⟨_, rfl⟩
      have fσ3 := qn_wi eσ3
      refine Exists.intro (nc) (Exists.intro σ3 (And.intro rfl (And.intro ⟨12, (fσ2.s _).trans ((fσ1.s _).trans (hs.2.2.2.2.2.1)), by omega, by decide⟩ (And.intro eσ3.symm ?_))))
      have hc_σ3 : qx_mi σ3 a 6 = nI nc := (by first | exact (fk_6 fσ3 (by decide) 6).trans hc_σ2 | exact (fσ3.i _ _ (pA_6 ha)).trans hc_σ2 | exact (fσ3.i _ _ (pL_ne (by simp; omega))).trans hc_σ2)
      have hfb_σ3 : fB a σ σ3 := hfb_σ2.tr (by first | exact fB.of fσ3 (by decide) | exact fB.a fσ3 | exact fB.a (fA.of fσ3 (by simp)))
      have hu_σ3 : uP σ3 a T s := hu_σ2.frB fσ3 (by decide) ha
      have lo_σ3 : ∀ c, c < nc → ∀ k, 2 ≤ k → k ≤ 5 → qx_mi σ3 (a + k) c = qx_mi σ (a + k) c := fun c hcc k h1 h2 => (qn_ne eσ3 (Or.inr (by omega))).trans (lo_σ2 c hcc k h1 h2)
      refine And.intro (fun h51 => ?_) (fun h51 => ?_)
      · skip
        have h51 := bI_t h51
        refine Exists.intro (nI 0) (And.intro rfl ?_)
        refine And.intro ((congrArg Prod.fst ((fσ3.s _).trans ((fσ2.s _).trans ((fσ1.s _).trans (hs.2.1))))).trans rfl) (Exists.intro _ (And.intro (by decide) (qx_M_mono (mt _ hu_σ3 (((hs.fr fσ1).fr fσ2).fr fσ3)) ?_)))
        rintro _ σ4 ⟨fσ4, rfl, aσ4⟩
        have hc_σ4 : qx_mi σ4 a 6 = nI nc := (by first | exact (fk_6 fσ4 (by decide) 6).trans hc_σ3 | exact (fσ4.i _ _ (pA_6 ha)).trans hc_σ3 | exact (fσ4.i _ _ (pL_ne (by simp; omega))).trans hc_σ3)
        have hfb_σ4 : fB a σ σ4 := hfb_σ3.tr (by first | exact fB.of fσ4 (by decide) | exact fB.a fσ4 | exact fB.a (fA.of fσ4 (by simp)))
        have lo_σ4 : ∀ c, c < nc → ∀ k, 2 ≤ k → k ≤ 5 → qx_mi σ4 (a + k) c = qx_mi σ (a + k) c := fun c hcc k h1 h2 => (by first | exact (fσ4.i _ _ (pA_k ha ⟨h1, h2⟩)).trans (lo_σ3 c hcc k h1 h2) | exact (fσ4.i _ _ (pL_ne (by simp; omega))).trans (lo_σ3 c hcc k h1 h2))
        refine And.intro (fun h70 => ?_) (fun h70 => ?_)
        · skip
          have h70 := bI_t h70
          refine And.intro (by rw [show qx_sh qc_T _ a = _ from (fσ4.s _).trans ((fσ3.s _).trans ((fσ2.s _).trans ((fσ1.s _).trans (hs.2.1))))]; rfl) (Exists.intro (a + 5) (And.intro rfl ?_))
          refine And.intro (by rw [show qx_sh qc_T _ a = _ from (fσ4.s _).trans ((fσ3.s _).trans ((fσ2.s _).trans ((fσ1.s _).trans (hs.2.1))))]; rfl) (Exists.intro 6 (Exists.intro (nI nc) (And.intro rfl (And.intro (hc_σ4) ?_))))
          refine And.intro (by rw [show qx_sh qc_T _ a = _ from (fσ4.s _).trans ((fσ3.s _).trans ((fσ2.s _).trans ((fσ1.s _).trans (hs.2.1))))]; rfl) (Exists.intro 5 (Exists.intro (nI s2.2.1) (And.intro rfl (And.intro aσ4.2.1 ?_))))
          obtain ⟨σ5, eσ5⟩ : ∃ zs, zs = (qx_wi σ4 (a + 5) nc (nI s2.2.1)) := ⟨_, rfl⟩
          have fσ5 := qn_wi eσ5
          refine Exists.intro (nc) (Exists.intro σ5 (And.intro rfl (And.intro ⟨12, (fσ4.s _).trans ((fσ3.s _).trans ((fσ2.s _).trans ((fσ1.s _).trans (hs.2.2.2.2.2.2)))), by omega, by decide⟩ (And.intro eσ5.symm ?_))))
          have hc_σ5 : qx_mi σ5 a 6 = nI nc := (by first | exact (fk_6 fσ5 (by decide) 6).trans hc_σ4 | exact (fσ5.i _ _ (pA_6 ha)).trans hc_σ4 | exact (fσ5.i _ _ (pL_ne (by simp; omega))).trans hc_σ4)
          have hfb_σ5 : fB a σ σ5 := hfb_σ4.tr (by first | exact fB.of fσ5 (by decide) | exact fB.a fσ5 | exact fB.a (fA.of fσ5 (by simp)))
          have lo_σ5 : ∀ c, c < nc → ∀ k, 2 ≤ k → k ≤ 5 → qx_mi σ5 (a + k) c = qx_mi σ (a + k) c := fun c hcc k h1 h2 => (qn_ne eσ5 (Or.inr (by omega))).trans (lo_σ4 c hcc k h1 h2)
          refine Exists.intro (nI 1) (And.intro rfl ?_)
          refine And.intro (Or.inr rfl) ?_
          exact ⟨hfb_σ5, lo_σ5, rfl, aσ4.frB fσ5 (by decide) ha, (fk_k fσ5 (by decide) _).trans ((fσ4.i _ _ (pA_k ha (by decide))).trans ((fk_k fσ3 (by decide) _).trans ((fk_k fσ2 (by decide) _).trans (qn_eq eσ1)))), (fk_k fσ5 (by decide) _).trans ((fσ4.i _ _ (pA_k ha (by decide))).trans ((fk_k fσ3 (by decide) _).trans (qn_eq eσ2))), (fk_k fσ5 (by decide) _).trans ((fσ4.i _ _ (pA_k ha (by decide))).trans (qn_eq eσ3)), qn_eq eσ5⟩
        · skip
          have h70 := bI_f h70
          exact absurd (h70.symm.trans (rfl)) (by decide)
      · skip
        have h51 := bI_f h51
        exact absurd (h51.symm.trans (rfl)) (by decide)
    · skip
      have h24 := bI_f h24
      exact absurd (h24.symm.trans (rfl)) (by decide)
theorem c_clause_want {G : qx_G} {σ : qx_S} {a nc : Nat} {T : q_T} {s : q_P} (h : uP σ a T s) (hs : shR σ a) (hl : s.2.1 ≤ s.1) (hc : qx_mi σ a 6 = nI nc) (hnc : nc < 12) : qx_M G qc_T 35 YX5_readClause [.ref a, .ref 4, .int (bI false)] σ (fun r s' => rK σ s' a T nc s.2.1 false (q_dA T false s) (q_dB T false) r) := by
  have ha := hs.1
  have hfb : fB a σ σ := qf.rf
  have hu := h
  have lo : ∀ c, c < nc → ∀ k, 2 ≤ k → k ≤ 5 → qx_mi σ (a + k) c = qx_mi σ (a + k) c := fun _ _ _ _ _ => rfl
  have ms : ∀ σ1, uP σ1 a T s → shR σ1 a → _ := fun σ1 z1 z2 => c_readSum (G := G) (a := a) (T := T) (σ := σ1) (s := s) z1 z2 hl
  show qx_M G qc_T 35 YX5_readClause [.ref a, .ref 4, .int (bI false)] σ (fun r s' => rK σ s' a T nc s.2.1 false (q_sm T s) (q_dB T false) r)
  cases hu1 : q_sm T s with
  | error f =>
    rw [hu1] at ms
    refine qx_M_in rfl (Nat.le_of_ble_eq_true rfl) ?_
    refine qy_wp_ok (c := CX5_readClause) (cuts := []) vX5_readClause wX5_readClause 2000 0 _ _ _ ?_
    refine And.intro (by rw [show qx_sh qc_T _ a = _ from hs.2.1]; rfl) (Exists.intro (a + 2) (And.intro rfl ?_))
    refine And.intro (by rw [show qx_sh qc_T _ a = _ from hs.2.1]; rfl) (Exists.intro 6 (Exists.intro (nI nc) (And.intro rfl (And.intro (hc) ?_))))
    obtain ⟨σ1, eσ1⟩ : ∃ zs, zs = (qx_wi σ (a + 2) nc (bI false)) := ⟨_, rfl⟩
    have fσ1 := qn_wi eσ1
    refine Or.inr (Exists.intro (nc) (Exists.intro σ1 (And.intro rfl (And.intro ⟨12, hs.2.2.2.1, by omega, by decide⟩ (And.intro (bI_01 _) (And.intro eσ1.symm ?_))))))
    have hc_σ1 : qx_mi σ1 a 6 = nI nc := (by first | exact (fk_6 fσ1 (by decide) 6).trans hc | exact (fσ1.i _ _ (pA_6 ha)).trans hc | exact (fσ1.i _ _ (pL_ne (by simp; omega))).trans hc)
    have hfb_σ1 : fB a σ σ1 := hfb.tr (by first | exact fB.of fσ1 (by decide) | exact fB.a fσ1 | exact fB.a (fA.of fσ1 (by simp)))
    have hu_σ1 : uP σ1 a T s := hu.frB fσ1 (by decide) ha
    have lo_σ1 : ∀ c, c < nc → ∀ k, 2 ≤ k → k ≤ 5 → qx_mi σ1 (a + k) c = qx_mi σ (a + k) c := fun c hcc k h1 h2 => (qn_ne eσ1 (Or.inr (by omega))).trans (lo c hcc k h1 h2)
    refine And.intro (by rw [show qx_sh qc_T _ a = _ from (fσ1.s _).trans (hs.2.1)]; rfl) (Exists.intro (a + 3) (And.intro rfl ?_))
    refine And.intro (by rw [show qx_sh qc_T _ a = _ from (fσ1.s _).trans (hs.2.1)]; rfl) (Exists.intro 6 (Exists.intro (nI nc) (And.intro rfl (And.intro (hc_σ1) ?_))))
    refine And.intro (by rw [show qx_sh qc_T _ a = _ from (fσ1.s _).trans (hs.2.1)]; rfl) (Exists.intro 5 (Exists.intro (nI s.2.1) (And.intro rfl (And.intro (hu_σ1.2.1) ?_))))
    obtain ⟨σ2, eσ2⟩ : ∃ zs, zs = (qx_wi σ1 (a + 3) nc (nI s.2.1)) := ⟨_, rfl⟩
    have fσ2 := qn_wi eσ2
    refine Exists.intro (nc) (Exists.intro σ2 (And.intro rfl (And.intro ⟨12, (fσ1.s _).trans (hs.2.2.2.2.1), by omega, by decide⟩ (And.intro eσ2.symm ?_))))
    have hc_σ2 : qx_mi σ2 a 6 = nI nc := (by first | exact (fk_6 fσ2 (by decide) 6).trans hc_σ1 | exact (fσ2.i _ _ (pA_6 ha)).trans hc_σ1 | exact (fσ2.i _ _ (pL_ne (by simp; omega))).trans hc_σ1)
    have hfb_σ2 : fB a σ σ2 := hfb_σ1.tr (by first | exact fB.of fσ2 (by decide) | exact fB.a fσ2 | exact fB.a (fA.of fσ2 (by simp)))
    have hu_σ2 : uP σ2 a T s := hu_σ1.frB fσ2 (by decide) ha
    have lo_σ2 : ∀ c, c < nc → ∀ k, 2 ≤ k → k ≤ 5 → qx_mi σ2 (a + k) c = qx_mi σ (a + k) c := fun c hcc k h1 h2 => (qn_ne eσ2 (Or.inr (by omega))).trans (lo_σ1 c hcc k h1 h2)
    refine And.intro (fun h24 => ?_) (fun h24 => ?_)
    · skip
      have h24 := bI_t h24
      exact absurd (h24.symm.trans (rfl)) (by decide)
    · skip
      have h24 := bI_f h24
      refine And.intro ((congrArg Prod.fst ((fσ2.s _).trans ((fσ1.s _).trans (hs.2.1)))).trans rfl) (Exists.intro _ (And.intro (by decide) (qx_M_mono (ms _ hu_σ2 ((hs.fr fσ1).fr fσ2)) ?_)))
      rintro _ σ3 ⟨fσ3, rfl, gσ3⟩
      have hc_σ3 : qx_mi σ3 a 6 = nI nc := (by first | exact (fk_6 fσ3 (by decide) 6).trans hc_σ2 | exact (fσ3.i _ _ (pA_6 ha)).trans hc_σ2 | exact (fσ3.i _ _ (pL_ne (by simp; omega))).trans hc_σ2)
      have hfb_σ3 : fB a σ σ3 := hfb_σ2.tr (by first | exact fB.of fσ3 (by decide) | exact fB.a fσ3 | exact fB.a (fA.of fσ3 (by simp)))
      have lo_σ3 : ∀ c, c < nc → ∀ k, 2 ≤ k → k ≤ 5 → qx_mi σ3 (a + k) c = qx_mi σ (a + k) c := fun c hcc k h1 h2 => (by first | exact (fσ3.i _ _ (pA_k ha ⟨h1, h2⟩)).trans (lo_σ2 c hcc k h1 h2) | exact (fσ3.i _ _ (pL_ne (by simp; omega))).trans (lo_σ2 c hcc k h1 h2))
      refine And.intro (fun h32 => ?_) (fun h32 => ?_)
      · skip
        have h32 := bI_t h32
        exact absurd (h32.symm.trans (rfl)) (by decide)
      · skip
        have h32 := bI_f h32
        refine Exists.intro (nI 0) (And.intro rfl ?_)
        refine And.intro (Or.inl rfl) ?_
        exact ⟨hfb_σ3, lo_σ3, rfl, gσ3⟩
  | ok s1 =>
    rw [hu1] at ms
    obtain ⟨g0, g1, g2, g3, g4, -⟩ := q_sm_g hu1
    by_cases ki : q_kd T s1.1 = 317
    · have hp := q_nx_gt (q_kd_lt (T := T) (p := s1.1) (by omega))
      have e2 : q_dB T false s1 = q_ts (q_FA T 10) T (q_pas T s1) := by
        unfold q_dB
        rw [if_neg (by decide), if_pos ki]
      have mt : ∀ σ1, uP σ1 a T (q_pas T s1) → shR σ1 a → _ := fun σ1 z1 z2 => c_readTest (G := G) (a := a) (T := T) σ1 (q_pas T s1) z1 z2 (show s1.2.1 ≤ q_nx T s1.1 by omega)
      show qx_M G qc_T 35 YX5_readClause [.ref a, .ref 4, .int (bI false)] σ (fun r s' => fB a σ s' ∧ (∀ c, c < nc → ∀ k, 2 ≤ k → k ≤ 5 → qx_mi s' (a + k) c = qx_mi σ (a + k) c) ∧ (match q_dB T false s1 with
        | .error f => r = some (.int (bI false)) ∧ qx_mi s' 4 7 = nI f
        | .ok s2 => r = some (.int (bI true)) ∧ uP s' a T s2 ∧ uCl s' a nc (false, s.2.1, s1.2.1, s2.2.1)))
      rw [e2]
      cases hv : q_ts (q_FA T 10) T (q_pas T s1) with
      | error f =>
        rw [hv] at mt
        refine qx_M_in rfl (Nat.le_of_ble_eq_true rfl) ?_
        refine qy_wp_ok (c := CX5_readClause) (cuts := []) vX5_readClause wX5_readClause 2000 0 _ _ _ ?_
        refine And.intro (by rw [show qx_sh qc_T _ a = _ from hs.2.1]; rfl) (Exists.intro (a + 2) (And.intro rfl ?_))
        refine And.intro (by rw [show qx_sh qc_T _ a = _ from hs.2.1]; rfl) (Exists.intro 6 (Exists.intro (nI nc) (And.intro rfl (And.intro (hc) ?_))))
        obtain ⟨σ1, eσ1⟩ : ∃ zs, zs = (qx_wi σ (a + 2) nc (bI false)) := ⟨_, rfl⟩
        have fσ1 := qn_wi eσ1
        refine Or.inr (Exists.intro (nc) (Exists.intro σ1 (And.intro rfl (And.intro ⟨12, hs.2.2.2.1, by omega, by decide⟩ (And.intro (bI_01 _) (And.intro eσ1.symm ?_))))))
        have hc_σ1 : qx_mi σ1 a 6 = nI nc := (by first | exact (fk_6 fσ1 (by decide) 6).trans hc | exact (fσ1.i _ _ (pA_6 ha)).trans hc | exact (fσ1.i _ _ (pL_ne (by simp; omega))).trans hc)
        have hfb_σ1 : fB a σ σ1 := hfb.tr (by first | exact fB.of fσ1 (by decide) | exact fB.a fσ1 | exact fB.a (fA.of fσ1 (by simp)))
        have hu_σ1 : uP σ1 a T s := hu.frB fσ1 (by decide) ha
        have lo_σ1 : ∀ c, c < nc → ∀ k, 2 ≤ k → k ≤ 5 → qx_mi σ1 (a + k) c = qx_mi σ (a + k) c := fun c hcc k h1 h2 => (qn_ne eσ1 (Or.inr (by omega))).trans (lo c hcc k h1 h2)
        refine And.intro (by rw [show qx_sh qc_T _ a = _ from (fσ1.s _).trans (hs.2.1)]; rfl) (Exists.intro (a + 3) (And.intro rfl ?_))
        refine And.intro (by rw [show qx_sh qc_T _ a = _ from (fσ1.s _).trans (hs.2.1)]; rfl) (Exists.intro 6 (Exists.intro (nI nc) (And.intro rfl (And.intro (hc_σ1) ?_))))
        refine And.intro (by rw [show qx_sh qc_T _ a = _ from (fσ1.s _).trans (hs.2.1)]; rfl) (Exists.intro 5 (Exists.intro (nI s.2.1) (And.intro rfl (And.intro (hu_σ1.2.1) ?_))))
        obtain ⟨σ2, eσ2⟩ : ∃ zs, zs = (qx_wi σ1 (a + 3) nc (nI s.2.1)) := ⟨_, rfl⟩
        have fσ2 := qn_wi eσ2
        refine Exists.intro (nc) (Exists.intro σ2 (And.intro rfl (And.intro ⟨12, (fσ1.s _).trans (hs.2.2.2.2.1), by omega, by decide⟩ (And.intro eσ2.symm ?_))))
        have hc_σ2 : qx_mi σ2 a 6 = nI nc := (by first | exact (fk_6 fσ2 (by decide) 6).trans hc_σ1 | exact (fσ2.i _ _ (pA_6 ha)).trans hc_σ1 | exact (fσ2.i _ _ (pL_ne (by simp; omega))).trans hc_σ1)
        have hfb_σ2 : fB a σ σ2 := hfb_σ1.tr (by first | exact fB.of fσ2 (by decide) | exact fB.a fσ2 | exact fB.a (fA.of fσ2 (by simp)))
        have hu_σ2 : uP σ2 a T s := hu_σ1.frB fσ2 (by decide) ha
        have lo_σ2 : ∀ c, c < nc → ∀ k, 2 ≤ k → k ≤ 5 → qx_mi σ2 (a + k) c = qx_mi σ (a + k) c := fun c hcc k h1 h2 => (qn_ne eσ2 (Or.inr (by omega))).trans (lo_σ1 c hcc k h1 h2)
        refine And.intro (fun h24 => ?_) (fun h24 => ?_)
        · skip
          have h24 := bI_t h24
          exact absurd (h24.symm.trans (rfl)) (by decide)
        · skip
          have h24 := bI_f h24
          refine And.intro ((congrArg Prod.fst ((fσ2.s _).trans ((fσ1.s _).trans (hs.2.1)))).trans rfl) (Exists.intro _ (And.intro (by decide) (qx_M_mono (ms _ hu_σ2 ((hs.fr fσ1).fr fσ2)) ?_)))
          rintro _ σ3 ⟨fσ3, rfl, aσ3⟩
          have hc_σ3 : qx_mi σ3 a 6 = nI nc := (by first | exact (fk_6 fσ3 (by decide) 6).trans hc_σ2 | exact (fσ3.i _ _ (pA_6 ha)).trans hc_σ2 | exact (fσ3.i _ _ (pL_ne (by simp; omega))).trans hc_σ2)
          have hfb_σ3 : fB a σ σ3 := hfb_σ2.tr (by first | exact fB.of fσ3 (by decide) | exact fB.a fσ3 | exact fB.a (fA.of fσ3 (by simp)))
          have lo_σ3 : ∀ c, c < nc → ∀ k, 2 ≤ k → k ≤ 5 → qx_mi σ3 (a + k) c = qx_mi σ (a + k) c := fun c hcc k h1 h2 => (by first | exact (fσ3.i _ _ (pA_k ha ⟨h1, h2⟩)).trans (lo_σ2 c hcc k h1 h2) | exact (fσ3.i _ _ (pL_ne (by simp; omega))).trans (lo_σ2 c hcc k h1 h2))
          refine And.intro (fun h32 => ?_) (fun h32 => ?_)
          · skip
            have h32 := bI_t h32
            refine And.intro (by rw [show qx_sh qc_T _ a = _ from (fσ3.s _).trans ((fσ2.s _).trans ((fσ1.s _).trans (hs.2.1)))]; rfl) (Exists.intro (a + 4) (And.intro rfl ?_))
            refine And.intro (by rw [show qx_sh qc_T _ a = _ from (fσ3.s _).trans ((fσ2.s _).trans ((fσ1.s _).trans (hs.2.1)))]; rfl) (Exists.intro 6 (Exists.intro (nI nc) (And.intro rfl (And.intro (hc_σ3) ?_))))
            refine And.intro (by rw [show qx_sh qc_T _ a = _ from (fσ3.s _).trans ((fσ2.s _).trans ((fσ1.s _).trans (hs.2.1)))]; rfl) (Exists.intro 5 (Exists.intro (nI s1.2.1) (And.intro rfl (And.intro aσ3.2.1 ?_))))
            obtain ⟨σ4, eσ4⟩ : ∃ zs, zs = (qx_wi σ3 (a + 4) nc (nI s1.2.1)) := ⟨_, rfl⟩
            have fσ4 := qn_wi eσ4
            refine Exists.intro (nc) (Exists.intro σ4 (And.intro rfl (And.intro ⟨12, (fσ3.s _).trans ((fσ2.s _).trans ((fσ1.s _).trans (hs.2.2.2.2.2.1))), by omega, by decide⟩ (And.intro eσ4.symm ?_))))
            have hc_σ4 : qx_mi σ4 a 6 = nI nc := (by first | exact (fk_6 fσ4 (by decide) 6).trans hc_σ3 | exact (fσ4.i _ _ (pA_6 ha)).trans hc_σ3 | exact (fσ4.i _ _ (pL_ne (by simp; omega))).trans hc_σ3)
            have hfb_σ4 : fB a σ σ4 := hfb_σ3.tr (by first | exact fB.of fσ4 (by decide) | exact fB.a fσ4 | exact fB.a (fA.of fσ4 (by simp)))
            have lo_σ4 : ∀ c, c < nc → ∀ k, 2 ≤ k → k ≤ 5 → qx_mi σ4 (a + k) c = qx_mi σ (a + k) c := fun c hcc k h1 h2 => (qn_ne eσ4 (Or.inr (by omega))).trans (lo_σ3 c hcc k h1 h2)
            refine And.intro (fun h51 => ?_) (fun h51 => ?_)
            · skip
              have h51 := bI_t h51
              exact absurd (h51.symm.trans (rfl)) (by decide)
            · skip
              have h51 := bI_f h51
              refine Exists.intro (nI 317) (And.intro rfl ?_)
              refine And.intro rfl (Exists.intro _ (And.intro (by decide) (qx_M_mono (c_take_t (aσ3.frB fσ4 (by decide) ha).1 ki (by decide)) ?_)))
              rintro _ σ5 ⟨rfl, fσ5, aσ5⟩
              have hc_σ5 : qx_mi σ5 a 6 = nI nc := (by first | exact (fk_6 fσ5 (by decide) 6).trans hc_σ4 | exact (fσ5.i _ _ (pA_6 ha)).trans hc_σ4 | exact (fσ5.i _ _ (pL_ne (by simp; omega))).trans hc_σ4)
              have hfb_σ5 : fB a σ σ5 := hfb_σ4.tr (by first | exact fB.of fσ5 (by decide) | exact fB.a fσ5 | exact fB.a (fA.of fσ5 (by simp)))
              have lo_σ5 : ∀ c, c < nc → ∀ k, 2 ≤ k → k ≤ 5 → qx_mi σ5 (a + k) c = qx_mi σ (a + k) c := fun c hcc k h1 h2 => (by first | exact (fσ5.i _ _ (pA_k ha ⟨h1, h2⟩)).trans (lo_σ4 c hcc k h1 h2) | exact (fσ5.i _ _ (pL_ne (by simp; omega))).trans (lo_σ4 c hcc k h1 h2))
              refine And.intro (fun h61 => ?_) (fun h61 => ?_)
              · skip
                have h61 := bI_f h61
                exact absurd (h61.symm.trans (rfl)) (by decide)
              · skip
                have h61 := bI_t h61
                refine Exists.intro (nI 0) (And.intro rfl ?_)
                refine And.intro ((congrArg Prod.fst ((fσ5.s _).trans ((fσ4.s _).trans ((fσ3.s _).trans ((fσ2.s _).trans ((fσ1.s _).trans (hs.2.1))))))).trans rfl) (Exists.intro _ (And.intro (by decide) (qx_M_mono (mt _ ((aσ3.frB fσ4 (by decide) ha).to ha fσ5 aσ5) (((((hs.fr fσ1).fr fσ2).fr fσ3).fr fσ4).fr fσ5)) ?_)))
                rintro _ σ6 ⟨fσ6, rfl, gσ6⟩
                have hc_σ6 : qx_mi σ6 a 6 = nI nc := (by first | exact (fk_6 fσ6 (by decide) 6).trans hc_σ5 | exact (fσ6.i _ _ (pA_6 ha)).trans hc_σ5 | exact (fσ6.i _ _ (pL_ne (by simp; omega))).trans hc_σ5)
                have hfb_σ6 : fB a σ σ6 := hfb_σ5.tr (by first | exact fB.of fσ6 (by decide) | exact fB.a fσ6 | exact fB.a (fA.of fσ6 (by simp)))
                have lo_σ6 : ∀ c, c < nc → ∀ k, 2 ≤ k → k ≤ 5 → qx_mi σ6 (a + k) c = qx_mi σ (a + k) c := fun c hcc k h1 h2 => (by first | exact (fσ6.i _ _ (pA_k ha ⟨h1, h2⟩)).trans (lo_σ5 c hcc k h1 h2) | exact (fσ6.i _ _ (pL_ne (by simp; omega))).trans (lo_σ5 c hcc k h1 h2))
                refine And.intro (fun h70 => ?_) (fun h70 => ?_)
                · skip
                  have h70 := bI_t h70
                  exact absurd (h70.symm.trans (rfl)) (by decide)
                · skip
                  have h70 := bI_f h70
                  refine Exists.intro (nI 0) (And.intro rfl ?_)
                  refine And.intro (Or.inl rfl) ?_
                  exact ⟨hfb_σ6, lo_σ6, rfl, gσ6⟩
          · skip
            have h32 := bI_f h32
            exact absurd (h32.symm.trans (rfl)) (by decide)
      | ok s2 =>
        rw [hv] at mt
        refine qx_M_in rfl (Nat.le_of_ble_eq_true rfl) ?_
        refine qy_wp_ok (c := CX5_readClause) (cuts := []) vX5_readClause wX5_readClause 2000 0 _ _ _ ?_
        refine And.intro (by rw [show qx_sh qc_T _ a = _ from hs.2.1]; rfl) (Exists.intro (a + 2) (And.intro rfl ?_))
        refine And.intro (by rw [show qx_sh qc_T _ a = _ from hs.2.1]; rfl) (Exists.intro 6 (Exists.intro (nI nc) (And.intro rfl (And.intro (hc) ?_))))
        obtain ⟨σ1, eσ1⟩ : ∃ zs, zs = (qx_wi σ (a + 2) nc (bI false)) := ⟨_, rfl⟩
        have fσ1 := qn_wi eσ1
        refine Or.inr (Exists.intro (nc) (Exists.intro σ1 (And.intro rfl (And.intro ⟨12, hs.2.2.2.1, by omega, by decide⟩ (And.intro (bI_01 _) (And.intro eσ1.symm ?_))))))
        have hc_σ1 : qx_mi σ1 a 6 = nI nc := (by first | exact (fk_6 fσ1 (by decide) 6).trans hc | exact (fσ1.i _ _ (pA_6 ha)).trans hc | exact (fσ1.i _ _ (pL_ne (by simp; omega))).trans hc)
        have hfb_σ1 : fB a σ σ1 := hfb.tr (by first | exact fB.of fσ1 (by decide) | exact fB.a fσ1 | exact fB.a (fA.of fσ1 (by simp)))
        have hu_σ1 : uP σ1 a T s := hu.frB fσ1 (by decide) ha
        have lo_σ1 : ∀ c, c < nc → ∀ k, 2 ≤ k → k ≤ 5 → qx_mi σ1 (a + k) c = qx_mi σ (a + k) c := fun c hcc k h1 h2 => (qn_ne eσ1 (Or.inr (by omega))).trans (lo c hcc k h1 h2)
        refine And.intro (by rw [show qx_sh qc_T _ a = _ from (fσ1.s _).trans (hs.2.1)]; rfl) (Exists.intro (a + 3) (And.intro rfl ?_))
        refine And.intro (by rw [show qx_sh qc_T _ a = _ from (fσ1.s _).trans (hs.2.1)]; rfl) (Exists.intro 6 (Exists.intro (nI nc) (And.intro rfl (And.intro (hc_σ1) ?_))))
        refine And.intro (by rw [show qx_sh qc_T _ a = _ from (fσ1.s _).trans (hs.2.1)]; rfl) (Exists.intro 5 (Exists.intro (nI s.2.1) (And.intro rfl (And.intro (hu_σ1.2.1) ?_))))
        obtain ⟨σ2, eσ2⟩ : ∃ zs, zs = (qx_wi σ1 (a + 3) nc (nI s.2.1)) := ⟨_, rfl⟩
        have fσ2 := qn_wi eσ2
        refine Exists.intro (nc) (Exists.intro σ2 (And.intro rfl (And.intro ⟨12, (fσ1.s _).trans (hs.2.2.2.2.1), by omega, by decide⟩ (And.intro eσ2.symm ?_))))
        have hc_σ2 : qx_mi σ2 a 6 = nI nc := (by first | exact (fk_6 fσ2 (by decide) 6).trans hc_σ1 | exact (fσ2.i _ _ (pA_6 ha)).trans hc_σ1 | exact (fσ2.i _ _ (pL_ne (by simp; omega))).trans hc_σ1)
        have hfb_σ2 : fB a σ σ2 := hfb_σ1.tr (by first | exact fB.of fσ2 (by decide) | exact fB.a fσ2 | exact fB.a (fA.of fσ2 (by simp)))
        have hu_σ2 : uP σ2 a T s := hu_σ1.frB fσ2 (by decide) ha
        have lo_σ2 : ∀ c, c < nc → ∀ k, 2 ≤ k → k ≤ 5 → qx_mi σ2 (a + k) c = qx_mi σ (a + k) c := fun c hcc k h1 h2 => (qn_ne eσ2 (Or.inr (by omega))).trans (lo_σ1 c hcc k h1 h2)
        refine And.intro (fun h24 => ?_) (fun h24 => ?_)
        · skip
          have h24 := bI_t h24
          exact absurd (h24.symm.trans (rfl)) (by decide)
        · skip
          have h24 := bI_f h24
          refine And.intro ((congrArg Prod.fst ((fσ2.s _).trans ((fσ1.s _).trans (hs.2.1)))).trans rfl) (Exists.intro _ (And.intro (by decide) (qx_M_mono (ms _ hu_σ2 ((hs.fr fσ1).fr fσ2)) ?_)))
          rintro _ σ3 ⟨fσ3, rfl, aσ3⟩
          have hc_σ3 : qx_mi σ3 a 6 = nI nc := (by first | exact (fk_6 fσ3 (by decide) 6).trans hc_σ2 | exact (fσ3.i _ _ (pA_6 ha)).trans hc_σ2 | exact (fσ3.i _ _ (pL_ne (by simp; omega))).trans hc_σ2)
          have hfb_σ3 : fB a σ σ3 := hfb_σ2.tr (by first | exact fB.of fσ3 (by decide) | exact fB.a fσ3 | exact fB.a (fA.of fσ3 (by simp)))
          have lo_σ3 : ∀ c, c < nc → ∀ k, 2 ≤ k → k ≤ 5 → qx_mi σ3 (a + k) c = qx_mi σ (a + k) c := fun c hcc k h1 h2 => (by first | exact (fσ3.i _ _ (pA_k ha ⟨h1, h2⟩)).trans (lo_σ2 c hcc k h1 h2) | exact (fσ3.i _ _ (pL_ne (by simp; omega))).trans (lo_σ2 c hcc k h1 h2))
          refine And.intro (fun h32 => ?_) (fun h32 => ?_)
          · skip
            have h32 := bI_t h32
            refine And.intro (by rw [show qx_sh qc_T _ a = _ from (fσ3.s _).trans ((fσ2.s _).trans ((fσ1.s _).trans (hs.2.1)))]; rfl) (Exists.intro (a + 4) (And.intro rfl ?_))
            refine And.intro (by rw [show qx_sh qc_T _ a = _ from (fσ3.s _).trans ((fσ2.s _).trans ((fσ1.s _).trans (hs.2.1)))]; rfl) (Exists.intro 6 (Exists.intro (nI nc) (And.intro rfl (And.intro (hc_σ3) ?_))))
            refine And.intro (by rw [show qx_sh qc_T _ a = _ from (fσ3.s _).trans ((fσ2.s _).trans ((fσ1.s _).trans (hs.2.1)))]; rfl) (Exists.intro 5 (Exists.intro (nI s1.2.1) (And.intro rfl (And.intro aσ3.2.1 ?_))))
            obtain ⟨σ4, eσ4⟩ : ∃ zs, zs = (qx_wi σ3 (a + 4) nc (nI s1.2.1)) := ⟨_, rfl⟩
            have fσ4 := qn_wi eσ4
            refine Exists.intro (nc) (Exists.intro σ4 (And.intro rfl (And.intro ⟨12, (fσ3.s _).trans ((fσ2.s _).trans ((fσ1.s _).trans (hs.2.2.2.2.2.1))), by omega, by decide⟩ (And.intro eσ4.symm ?_))))
            have hc_σ4 : qx_mi σ4 a 6 = nI nc := (by first | exact (fk_6 fσ4 (by decide) 6).trans hc_σ3 | exact (fσ4.i _ _ (pA_6 ha)).trans hc_σ3 | exact (fσ4.i _ _ (pL_ne (by simp; omega))).trans hc_σ3)
            have hfb_σ4 : fB a σ σ4 := hfb_σ3.tr (by first | exact fB.of fσ4 (by decide) | exact fB.a fσ4 | exact fB.a (fA.of fσ4 (by simp)))
            have lo_σ4 : ∀ c, c < nc → ∀ k, 2 ≤ k → k ≤ 5 → qx_mi σ4 (a + k) c = qx_mi σ (a + k) c := fun c hcc k h1 h2 => (qn_ne eσ4 (Or.inr (by omega))).trans (lo_σ3 c hcc k h1 h2)
            refine And.intro (fun h51 => ?_) (fun h51 => ?_)
            · skip
              have h51 := bI_t h51
              exact absurd (h51.symm.trans (rfl)) (by decide)
            · skip
              have h51 := bI_f h51
              refine Exists.intro (nI 317) (And.intro rfl ?_)
              refine And.intro rfl (Exists.intro _ (And.intro (by decide) (qx_M_mono (c_take_t (aσ3.frB fσ4 (by decide) ha).1 ki (by decide)) ?_)))
              rintro _ σ5 ⟨rfl, fσ5, aσ5⟩
              have hc_σ5 : qx_mi σ5 a 6 = nI nc := (by first | exact (fk_6 fσ5 (by decide) 6).trans hc_σ4 | exact (fσ5.i _ _ (pA_6 ha)).trans hc_σ4 | exact (fσ5.i _ _ (pL_ne (by simp; omega))).trans hc_σ4)
              have hfb_σ5 : fB a σ σ5 := hfb_σ4.tr (by first | exact fB.of fσ5 (by decide) | exact fB.a fσ5 | exact fB.a (fA.of fσ5 (by simp)))
              have lo_σ5 : ∀ c, c < nc → ∀ k, 2 ≤ k → k ≤ 5 → qx_mi σ5 (a + k) c = qx_mi σ (a + k) c := fun c hcc k h1 h2 => (by first | exact (fσ5.i _ _ (pA_k ha ⟨h1, h2⟩)).trans (lo_σ4 c hcc k h1 h2) | exact (fσ5.i _ _ (pL_ne (by simp; omega))).trans (lo_σ4 c hcc k h1 h2))
              refine And.intro (fun h61 => ?_) (fun h61 => ?_)
              · skip
                have h61 := bI_f h61
                exact absurd (h61.symm.trans (rfl)) (by decide)
              · skip
                have h61 := bI_t h61
                refine Exists.intro (nI 0) (And.intro rfl ?_)
                refine And.intro ((congrArg Prod.fst ((fσ5.s _).trans ((fσ4.s _).trans ((fσ3.s _).trans ((fσ2.s _).trans ((fσ1.s _).trans (hs.2.1))))))).trans rfl) (Exists.intro _ (And.intro (by decide) (qx_M_mono (mt _ ((aσ3.frB fσ4 (by decide) ha).to ha fσ5 aσ5) (((((hs.fr fσ1).fr fσ2).fr fσ3).fr fσ4).fr fσ5)) ?_)))
                rintro _ σ6 ⟨fσ6, rfl, aσ6⟩
                have hc_σ6 : qx_mi σ6 a 6 = nI nc := (by first | exact (fk_6 fσ6 (by decide) 6).trans hc_σ5 | exact (fσ6.i _ _ (pA_6 ha)).trans hc_σ5 | exact (fσ6.i _ _ (pL_ne (by simp; omega))).trans hc_σ5)
                have hfb_σ6 : fB a σ σ6 := hfb_σ5.tr (by first | exact fB.of fσ6 (by decide) | exact fB.a fσ6 | exact fB.a (fA.of fσ6 (by simp)))
                have lo_σ6 : ∀ c, c < nc → ∀ k, 2 ≤ k → k ≤ 5 → qx_mi σ6 (a + k) c = qx_mi σ (a + k) c := fun c hcc k h1 h2 => (by first | exact (fσ6.i _ _ (pA_k ha ⟨h1, h2⟩)).trans (lo_σ5 c hcc k h1 h2) | exact (fσ6.i _ _ (pL_ne (by simp; omega))).trans (lo_σ5 c hcc k h1 h2))
                refine And.intro (fun h70 => ?_) (fun h70 => ?_)
                · skip
                  have h70 := bI_t h70
                  refine And.intro (by rw [show qx_sh qc_T _ a = _ from (fσ6.s _).trans ((fσ5.s _).trans ((fσ4.s _).trans ((fσ3.s _).trans ((fσ2.s _).trans ((fσ1.s _).trans (hs.2.1))))))]; rfl) (Exists.intro (a + 5) (And.intro rfl ?_))
                  refine And.intro (by rw [show qx_sh qc_T _ a = _ from (fσ6.s _).trans ((fσ5.s _).trans ((fσ4.s _).trans ((fσ3.s _).trans ((fσ2.s _).trans ((fσ1.s _).trans (hs.2.1))))))]; rfl) (Exists.intro 6 (Exists.intro (nI nc) (And.intro rfl (And.intro (hc_σ6) ?_))))
                  refine And.intro (by rw [show qx_sh qc_T _ a = _ from (fσ6.s _).trans ((fσ5.s _).trans ((fσ4.s _).trans ((fσ3.s _).trans ((fσ2.s _).trans ((fσ1.s _).trans (hs.2.1))))))]; rfl) (Exists.intro 5 (Exists.intro (nI s2.2.1) (And.intro rfl (And.intro aσ6.2.1 ?_))))
                  obtain ⟨σ7, eσ7⟩ : ∃ zs, zs = (qx_wi σ6 (a + 5) nc (nI s2.2.1)) := ⟨_, rfl⟩
                  have fσ7 := qn_wi eσ7
                  refine Exists.intro (nc) (Exists.intro σ7 (And.intro rfl (And.intro ⟨12, (fσ6.s _).trans ((fσ5.s _).trans ((fσ4.s _).trans ((fσ3.s _).trans ((fσ2.s _).trans ((fσ1.s _).trans (hs.2.2.2.2.2.2)))))), by omega, by decide⟩ (And.intro eσ7.symm ?_))))
                  have hc_σ7 : qx_mi σ7 a 6 = nI nc := (by first | exact (fk_6 fσ7 (by decide) 6).trans hc_σ6 | exact (fσ7.i _ _ (pA_6 ha)).trans hc_σ6 | exact (fσ7.i _ _ (pL_ne (by simp; omega))).trans hc_σ6)
                  have hfb_σ7 : fB a σ σ7 := hfb_σ6.tr (by first | exact fB.of fσ7 (by decide) | exact fB.a fσ7 | exact fB.a (fA.of fσ7 (by simp)))
                  have lo_σ7 : ∀ c, c < nc → ∀ k, 2 ≤ k → k ≤ 5 → qx_mi σ7 (a + k) c = qx_mi σ (a + k) c := fun c hcc k h1 h2 => (qn_ne eσ7 (Or.inr (by omega))).trans (lo_σ6 c hcc k h1 h2)
                  refine Exists.intro (nI 1) (And.intro rfl ?_)
                  refine And.intro (Or.inr rfl) ?_
                  exact ⟨hfb_σ7, lo_σ7, rfl, aσ6.frB fσ7 (by decide) ha, (fk_k fσ7 (by decide) _).trans ((fσ6.i _ _ (pA_k ha (by decide))).trans ((fσ5.i _ _ (pL_ne (by simp; omega))).trans ((fk_k fσ4 (by decide) _).trans ((fσ3.i _ _ (pA_k ha (by decide))).trans ((fk_k fσ2 (by decide) _).trans (qn_eq eσ1)))))), (fk_k fσ7 (by decide) _).trans ((fσ6.i _ _ (pA_k ha (by decide))).trans ((fσ5.i _ _ (pL_ne (by simp; omega))).trans ((fk_k fσ4 (by decide) _).trans ((fσ3.i _ _ (pA_k ha (by decide))).trans (qn_eq eσ2))))), (fk_k fσ7 (by decide) _).trans ((fσ6.i _ _ (pA_k ha (by decide))).trans ((fσ5.i _ _ (pL_ne (by simp; omega))).trans (qn_eq eσ4))), qn_eq eσ7⟩
                · skip
                  have h70 := bI_f h70
                  exact absurd (h70.symm.trans (rfl)) (by decide)
          · skip
            have h32 := bI_f h32
            exact absurd (h32.symm.trans (rfl)) (by decide)
    · have e2 : q_dB T false s1 = .ok s1 := by
        unfold q_dB
        rw [if_neg (by decide), if_neg ki]
      show qx_M G qc_T 35 YX5_readClause [.ref a, .ref 4, .int (bI false)] σ (fun r s' => fB a σ s' ∧ (∀ c, c < nc → ∀ k, 2 ≤ k → k ≤ 5 → qx_mi s' (a + k) c = qx_mi σ (a + k) c) ∧ (match q_dB T false s1 with
        | .error f => r = some (.int (bI false)) ∧ qx_mi s' 4 7 = nI f
        | .ok s2 => r = some (.int (bI true)) ∧ uP s' a T s2 ∧ uCl s' a nc (false, s.2.1, s1.2.1, s2.2.1)))
      rw [e2]
      refine qx_M_in rfl (Nat.le_of_ble_eq_true rfl) ?_
      refine qy_wp_ok (c := CX5_readClause) (cuts := []) vX5_readClause wX5_readClause 2000 0 _ _ _ ?_
      refine And.intro (by rw [show qx_sh qc_T _ a = _ from hs.2.1]; rfl) (Exists.intro (a + 2) (And.intro rfl ?_))
      refine And.intro (by rw [show qx_sh qc_T _ a = _ from hs.2.1]; rfl) (Exists.intro 6 (Exists.intro (nI nc) (And.intro rfl (And.intro (hc) ?_))))
      obtain ⟨σ1, eσ1⟩ : ∃ zs, zs = (qx_wi σ (a + 2) nc (bI false)) := ⟨_, rfl⟩
      have fσ1 := qn_wi eσ1
      refine Or.inr (Exists.intro (nc) (Exists.intro σ1 (And.intro rfl (And.intro ⟨12, hs.2.2.2.1, by omega, by decide⟩ (And.intro (bI_01 _) (And.intro eσ1.symm ?_))))))
      have hc_σ1 : qx_mi σ1 a 6 = nI nc := (by first | exact (fk_6 fσ1 (by decide) 6).trans hc | exact (fσ1.i _ _ (pA_6 ha)).trans hc | exact (fσ1.i _ _ (pL_ne (by simp; omega))).trans hc)
      have hfb_σ1 : fB a σ σ1 := hfb.tr (by first | exact fB.of fσ1 (by decide) | exact fB.a fσ1 | exact fB.a (fA.of fσ1 (by simp)))
      have hu_σ1 : uP σ1 a T s := hu.frB fσ1 (by decide) ha
      have lo_σ1 : ∀ c, c < nc → ∀ k, 2 ≤ k → k ≤ 5 → qx_mi σ1 (a + k) c = qx_mi σ (a + k) c := fun c hcc k h1 h2 => (qn_ne eσ1 (Or.inr (by omega))).trans (lo c hcc k h1 h2)
      refine And.intro (by rw [show qx_sh qc_T _ a = _ from (fσ1.s _).trans (hs.2.1)]; rfl) (Exists.intro (a + 3) (And.intro rfl ?_))
      refine And.intro (by rw [show qx_sh qc_T _ a = _ from (fσ1.s _).trans (hs.2.1)]; rfl) (Exists.intro 6 (Exists.intro (nI nc) (And.intro rfl (And.intro (hc_σ1) ?_))))
      refine And.intro (by rw [show qx_sh qc_T _ a = _ from (fσ1.s _).trans (hs.2.1)]; rfl) (Exists.intro 5 (Exists.intro (nI s.2.1) (And.intro rfl (And.intro (hu_σ1.2.1) ?_))))
      obtain ⟨σ2, eσ2⟩ : ∃ zs, zs = (qx_wi σ1 (a + 3) nc (nI s.2.1)) := ⟨_, rfl⟩
      have fσ2 := qn_wi eσ2
      refine Exists.intro (nc) (Exists.intro σ2 (And.intro rfl (And.intro ⟨12, (fσ1.s _).trans (hs.2.2.2.2.1), by omega, by decide⟩ (And.intro eσ2.symm ?_))))
      have hc_σ2 : qx_mi σ2 a 6 = nI nc := (by first | exact (fk_6 fσ2 (by decide) 6).trans hc_σ1 | exact (fσ2.i _ _ (pA_6 ha)).trans hc_σ1 | exact (fσ2.i _ _ (pL_ne (by simp; omega))).trans hc_σ1)
      have hfb_σ2 : fB a σ σ2 := hfb_σ1.tr (by first | exact fB.of fσ2 (by decide) | exact fB.a fσ2 | exact fB.a (fA.of fσ2 (by simp)))
      have hu_σ2 : uP σ2 a T s := hu_σ1.frB fσ2 (by decide) ha
      have lo_σ2 : ∀ c, c < nc → ∀ k, 2 ≤ k → k ≤ 5 → qx_mi σ2 (a + k) c = qx_mi σ (a + k) c := fun c hcc k h1 h2 => (qn_ne eσ2 (Or.inr (by omega))).trans (lo_σ1 c hcc k h1 h2)
      refine And.intro (fun h24 => ?_) (fun h24 => ?_)
      · skip
        have h24 := bI_t h24
        exact absurd (h24.symm.trans (rfl)) (by decide)
      · skip
        have h24 := bI_f h24
        refine And.intro ((congrArg Prod.fst ((fσ2.s _).trans ((fσ1.s _).trans (hs.2.1)))).trans rfl) (Exists.intro _ (And.intro (by decide) (qx_M_mono (ms _ hu_σ2 ((hs.fr fσ1).fr fσ2)) ?_)))
        rintro _ σ3 ⟨fσ3, rfl, aσ3⟩
        have hc_σ3 : qx_mi σ3 a 6 = nI nc := (by first | exact (fk_6 fσ3 (by decide) 6).trans hc_σ2 | exact (fσ3.i _ _ (pA_6 ha)).trans hc_σ2 | exact (fσ3.i _ _ (pL_ne (by simp; omega))).trans hc_σ2)
        have hfb_σ3 : fB a σ σ3 := hfb_σ2.tr (by first | exact fB.of fσ3 (by decide) | exact fB.a fσ3 | exact fB.a (fA.of fσ3 (by simp)))
        have lo_σ3 : ∀ c, c < nc → ∀ k, 2 ≤ k → k ≤ 5 → qx_mi σ3 (a + k) c = qx_mi σ (a + k) c := fun c hcc k h1 h2 => (by first | exact (fσ3.i _ _ (pA_k ha ⟨h1, h2⟩)).trans (lo_σ2 c hcc k h1 h2) | exact (fσ3.i _ _ (pL_ne (by simp; omega))).trans (lo_σ2 c hcc k h1 h2))
        refine And.intro (fun h32 => ?_) (fun h32 => ?_)
        · skip
          have h32 := bI_t h32
          refine And.intro (by rw [show qx_sh qc_T _ a = _ from (fσ3.s _).trans ((fσ2.s _).trans ((fσ1.s _).trans (hs.2.1)))]; rfl) (Exists.intro (a + 4) (And.intro rfl ?_))
          refine And.intro (by rw [show qx_sh qc_T _ a = _ from (fσ3.s _).trans ((fσ2.s _).trans ((fσ1.s _).trans (hs.2.1)))]; rfl) (Exists.intro 6 (Exists.intro (nI nc) (And.intro rfl (And.intro (hc_σ3) ?_))))
          refine And.intro (by rw [show qx_sh qc_T _ a = _ from (fσ3.s _).trans ((fσ2.s _).trans ((fσ1.s _).trans (hs.2.1)))]; rfl) (Exists.intro 5 (Exists.intro (nI s1.2.1) (And.intro rfl (And.intro aσ3.2.1 ?_))))
          obtain ⟨σ4, eσ4⟩ : ∃ zs, zs = (qx_wi σ3 (a + 4) nc (nI s1.2.1)) := ⟨_, rfl⟩
          have fσ4 := qn_wi eσ4
          refine Exists.intro (nc) (Exists.intro σ4 (And.intro rfl (And.intro ⟨12, (fσ3.s _).trans ((fσ2.s _).trans ((fσ1.s _).trans (hs.2.2.2.2.2.1))), by omega, by decide⟩ (And.intro eσ4.symm ?_))))
          have hc_σ4 : qx_mi σ4 a 6 = nI nc := (by first | exact (fk_6 fσ4 (by decide) 6).trans hc_σ3 | exact (fσ4.i _ _ (pA_6 ha)).trans hc_σ3 | exact (fσ4.i _ _ (pL_ne (by simp; omega))).trans hc_σ3)
          have hfb_σ4 : fB a σ σ4 := hfb_σ3.tr (by first | exact fB.of fσ4 (by decide) | exact fB.a fσ4 | exact fB.a (fA.of fσ4 (by simp)))
          have lo_σ4 : ∀ c, c < nc → ∀ k, 2 ≤ k → k ≤ 5 → qx_mi σ4 (a + k) c = qx_mi σ (a + k) c := fun c hcc k h1 h2 => (qn_ne eσ4 (Or.inr (by omega))).trans (lo_σ3 c hcc k h1 h2)
          refine And.intro (fun h51 => ?_) (fun h51 => ?_)
          · skip
            have h51 := bI_t h51
            exact absurd (h51.symm.trans (rfl)) (by decide)
          · skip
            have h51 := bI_f h51
            refine Exists.intro (nI 317) (And.intro rfl ?_)
            refine And.intro rfl (Exists.intro _ (And.intro (by decide) (qx_M_mono (c_take_f (aσ3.frB fσ4 (by decide) ha).1 ki (by decide)) ?_)))
            rintro _ _ ⟨rfl, rfl⟩
            refine And.intro (fun h61 => ?_) (fun h61 => ?_)
            · skip
              have h61 := bI_f h61
              refine And.intro (by rw [show qx_sh qc_T _ a = _ from (fσ4.s _).trans ((fσ3.s _).trans ((fσ2.s _).trans ((fσ1.s _).trans (hs.2.1))))]; rfl) (Exists.intro (a + 5) (And.intro rfl ?_))
              refine And.intro (by rw [show qx_sh qc_T _ a = _ from (fσ4.s _).trans ((fσ3.s _).trans ((fσ2.s _).trans ((fσ1.s _).trans (hs.2.1))))]; rfl) (Exists.intro 6 (Exists.intro (nI nc) (And.intro rfl (And.intro (hc_σ4) ?_))))
              refine And.intro (by rw [show qx_sh qc_T _ a = _ from (fσ4.s _).trans ((fσ3.s _).trans ((fσ2.s _).trans ((fσ1.s _).trans (hs.2.1))))]; rfl) (Exists.intro 5 (Exists.intro (nI s1.2.1) (And.intro rfl (And.intro ((qn_ne eσ4 (Or.inl (by omega))).trans (aσ3.2.1)) ?_))))
              obtain ⟨σ5, eσ5⟩ : ∃ zs, zs = (qx_wi σ4 (a + 5) nc (nI s1.2.1)) := ⟨_, rfl⟩
              have fσ5 := qn_wi eσ5
              refine Exists.intro (nc) (Exists.intro σ5 (And.intro rfl (And.intro ⟨12, (fσ4.s _).trans ((fσ3.s _).trans ((fσ2.s _).trans ((fσ1.s _).trans (hs.2.2.2.2.2.2)))), by omega, by decide⟩ (And.intro eσ5.symm ?_))))
              have hc_σ5 : qx_mi σ5 a 6 = nI nc := (by first | exact (fk_6 fσ5 (by decide) 6).trans hc_σ4 | exact (fσ5.i _ _ (pA_6 ha)).trans hc_σ4 | exact (fσ5.i _ _ (pL_ne (by simp; omega))).trans hc_σ4)
              have hfb_σ5 : fB a σ σ5 := hfb_σ4.tr (by first | exact fB.of fσ5 (by decide) | exact fB.a fσ5 | exact fB.a (fA.of fσ5 (by simp)))
              have lo_σ5 : ∀ c, c < nc → ∀ k, 2 ≤ k → k ≤ 5 → qx_mi σ5 (a + k) c = qx_mi σ (a + k) c := fun c hcc k h1 h2 => (qn_ne eσ5 (Or.inr (by omega))).trans (lo_σ4 c hcc k h1 h2)
              refine Exists.intro (nI 1) (And.intro rfl ?_)
              refine And.intro (Or.inr rfl) ?_
              exact ⟨hfb_σ5, lo_σ5, rfl, (aσ3.frB fσ4 (by decide) ha).frB fσ5 (by decide) ha, (fk_k fσ5 (by decide) _).trans ((fk_k fσ4 (by decide) _).trans ((fσ3.i _ _ (pA_k ha (by decide))).trans ((fk_k fσ2 (by decide) _).trans (qn_eq eσ1)))), (fk_k fσ5 (by decide) _).trans ((fk_k fσ4 (by decide) _).trans ((fσ3.i _ _ (pA_k ha (by decide))).trans (qn_eq eσ2))), (fk_k fσ5 (by decide) _).trans (qn_eq eσ4), qn_eq eσ5⟩
            · skip
              have h61 := bI_t h61
              exact absurd (h61.symm.trans (rfl)) (by decide)
        · skip
          have h32 := bI_f h32
          exact absurd (h32.symm.trans (rfl)) (by decide)

