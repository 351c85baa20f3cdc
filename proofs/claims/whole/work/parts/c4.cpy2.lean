/-! THE CLASS: standings and rings are copied -/
/-- a standing's object -/
def shS (σ : qx_S) (a : Nat) : Prop := qx_sh qc_T σ a = (15, 0) ∧ qx_sh qc_T σ (a + 1) = (0, 10) ∧ qx_sh qc_T σ (a + 2) = (0, 10) ∧ qx_sh qc_T σ (a + 3) = (0, 100) ∧ qx_sh qc_T σ (a + 4) = (0, 10)
abbrev kS5 (a : Nat) : List (Nat × Option Nat) := [(a, none), (a + 1, none), (a + 2, none), (a + 3, none), (a + 4, none)]
/-- the cells of the standing at b are those of a -/
def cpS (σ s' : qx_S) (a b : Nat) : Prop := (∀ k, k = 4 ∨ k = 5 → qx_mi s' a k = qx_mi σ b k) ∧ (∀ j, j < 10 → qx_mi s' (a + 1) j = qx_mi σ (b + 1) j ∧ qx_mi s' (a + 2) j = qx_mi σ (b + 2) j) ∧ (∀ j, j < 100 → qx_mi s' (a + 3) j = qx_mi σ (b + 3) j) ∧ ∀ j, j < 10 → qx_mi s' (a + 4) j = qx_mi σ (b + 4) j
theorem c_copyS {G : qx_G} {σ : qx_S} {a b : Nat} (ha : shS σ a) (hb : shS σ b) (hab : a + 4 < b ∨ b + 4 < a) : qx_M G qc_T 0 YX7_copyFrom [.ref a, .ref b] σ (fun r s' => r = none ∧ ql (kS5 a) σ s' ∧ cpS σ s' a b) := by
  refine qx_M_in rfl (Nat.le_of_ble_eq_true rfl) ?_
  refine qy_wp_ok (c := CX7_copyFrom) (cuts := []) vX7_copyFrom wX7_copyFrom 2000 0 _ _ _ ?_
  refine And.intro (by rw [show qx_sh qc_T _ b = _ from hb.1]; rfl) (Exists.intro (b + 1) (And.intro rfl ?_))
  refine Exists.intro (nI 0) (And.intro rfl ?_)
  refine And.intro (by rw [show qx_sh qc_T _ a = _ from ha.1]; rfl) (Exists.intro (a + 1) (And.intro rfl ?_))
  refine Exists.intro (nI 0) (And.intro rfl ?_)
  refine Exists.intro (nI 10) (And.intro rfl ?_)
  obtain ⟨σ1, eσ1⟩ : ∃ zs, zs = (qy_cp σ (b + 1) (a + 1) 0 0 10) := ⟨_, rfl⟩
  have fσ1 := qn_cp eσ1
  refine Exists.intro 10 (Exists.intro 0 (Exists.intro 0 (Exists.intro σ1 (And.intro rfl (And.intro rfl (And.intro rfl (And.intro (show ¬ b + 1 = a + 1 by omega) (And.intro ⟨10, hb.2.1, by decide, by decide⟩ (And.intro ⟨10, ha.2.1, by decide, by decide⟩ (And.intro eσ1.symm ?_))))))))))
  refine And.intro (by rw [show qx_sh qc_T _ b = _ from (fσ1.s _).trans (hb.1)]; rfl) (Exists.intro (b + 2) (And.intro rfl ?_))
  refine Exists.intro (nI 0) (And.intro rfl ?_)
  refine And.intro (by rw [show qx_sh qc_T _ a = _ from (fσ1.s _).trans (ha.1)]; rfl) (Exists.intro (a + 2) (And.intro rfl ?_))
  refine Exists.intro (nI 0) (And.intro rfl ?_)
  refine Exists.intro (nI 10) (And.intro rfl ?_)
  obtain ⟨σ2, eσ2⟩ : ∃ zs, zs = (qy_cp σ1 (b + 2) (a + 2) 0 0 10) := ⟨_, rfl⟩
  have fσ2 := qn_cp eσ2
  refine Exists.intro 10 (Exists.intro 0 (Exists.intro 0 (Exists.intro σ2 (And.intro rfl (And.intro rfl (And.intro rfl (And.intro (show ¬ b + 2 = a + 2 by omega) (And.intro ⟨10, (fσ1.s _).trans (hb.2.2.1), by decide, by decide⟩ (And.intro ⟨10, (fσ1.s _).trans (ha.2.2.1), by decide, by decide⟩ (And.intro eσ2.symm ?_))))))))))
  refine And.intro (by rw [show qx_sh qc_T _ b = _ from (fσ2.s _).trans ((fσ1.s _).trans (hb.1))]; rfl) (Exists.intro (b + 3) (And.intro rfl ?_))
  refine Exists.intro (nI 0) (And.intro rfl ?_)
  refine And.intro (by rw [show qx_sh qc_T _ a = _ from (fσ2.s _).trans ((fσ1.s _).trans (ha.1))]; rfl) (Exists.intro (a + 3) (And.intro rfl ?_))
  refine Exists.intro (nI 0) (And.intro rfl ?_)
  refine Exists.intro (nI 100) (And.intro rfl ?_)
  obtain ⟨σ3, eσ3⟩ : ∃ zs, zs = (qy_cp σ2 (b + 3) (a + 3) 0 0 100) := ⟨_, rfl⟩
  have fσ3 := qn_cp eσ3
  refine Exists.intro 100 (Exists.intro 0 (Exists.intro 0 (Exists.intro σ3 (And.intro rfl (And.intro rfl (And.intro rfl (And.intro (show ¬ b + 3 = a + 3 by omega) (And.intro ⟨100, (fσ2.s _).trans ((fσ1.s _).trans (hb.2.2.2.1)), by decide, by decide⟩ (And.intro ⟨100, (fσ2.s _).trans ((fσ1.s _).trans (ha.2.2.2.1)), by decide, by decide⟩ (And.intro eσ3.symm ?_))))))))))
  refine And.intro (by rw [show qx_sh qc_T _ b = _ from (fσ3.s _).trans ((fσ2.s _).trans ((fσ1.s _).trans (hb.1)))]; rfl) (Exists.intro (b + 4) (And.intro rfl ?_))
  refine Exists.intro (nI 0) (And.intro rfl ?_)
  refine And.intro (by rw [show qx_sh qc_T _ a = _ from (fσ3.s _).trans ((fσ2.s _).trans ((fσ1.s _).trans (ha.1)))]; rfl) (Exists.intro (a + 4) (And.intro rfl ?_))
  refine Exists.intro (nI 0) (And.intro rfl ?_)
  refine Exists.intro (nI 10) (And.intro rfl ?_)
  obtain ⟨σ4, eσ4⟩ : ∃ zs, zs = (qy_cp σ3 (b + 4) (a + 4) 0 0 10) := ⟨_, rfl⟩
  have fσ4 := qn_cp eσ4
  refine Exists.intro 10 (Exists.intro 0 (Exists.intro 0 (Exists.intro σ4 (And.intro rfl (And.intro rfl (And.intro rfl (And.intro (show ¬ b + 4 = a + 4 by omega) (And.intro ⟨10, (fσ3.s _).trans ((fσ2.s _).trans ((fσ1.s _).trans (hb.2.2.2.2))), by decide, by decide⟩ (And.intro ⟨10, (fσ3.s _).trans ((fσ2.s _).trans ((fσ1.s _).trans (ha.2.2.2.2))), by decide, by decide⟩ (And.intro eσ4.symm ?_))))))))))
  refine And.intro (by rw [show qx_sh qc_T _ b = _ from (fσ4.s _).trans ((fσ3.s _).trans ((fσ2.s _).trans ((fσ1.s _).trans (hb.1))))]; rfl) (Exists.intro 4 (Exists.intro (qx_mi σ b 4) (And.intro rfl (And.intro ((qn_cpne eσ4 (by omega)).trans ((qn_cpne eσ3 (by omega)).trans ((qn_cpne eσ2 (by omega)).trans ((qn_cpne eσ1 (by omega)).trans (rfl))))) ?_))))
  obtain ⟨σ5, eσ5⟩ : ∃ zs, zs = (qx_wi σ4 a 4 (qx_mi σ b 4)) := ⟨_, rfl⟩
  have fσ5 := qn_wif eσ5
  refine And.intro (by rw [show qx_sh qc_T _ a = _ from (fσ4.s _).trans ((fσ3.s _).trans ((fσ2.s _).trans ((fσ1.s _).trans (ha.1))))]; rfl) (Exists.intro 4 (Exists.intro σ5 (And.intro rfl (And.intro eσ5.symm ?_))))
  refine And.intro (by rw [show qx_sh qc_T _ b = _ from (fσ5.s _).trans ((fσ4.s _).trans ((fσ3.s _).trans ((fσ2.s _).trans ((fσ1.s _).trans (hb.1)))))]; rfl) (Exists.intro 5 (Exists.intro (qx_mi σ b 5) (And.intro rfl (And.intro ((qn_ne eσ5 (Or.inl (by omega))).trans ((qn_cpne eσ4 (by omega)).trans ((qn_cpne eσ3 (by omega)).trans ((qn_cpne eσ2 (by omega)).trans ((qn_cpne eσ1 (by omega)).trans (rfl)))))) ?_))))
  obtain ⟨σ6, eσ6⟩ : ∃ zs, zs = (qx_wi σ5 a 5 (qx_mi σ b 5)) := ⟨_, rfl⟩
  have fσ6 := qn_wif eσ6
  refine And.intro (by rw [show qx_sh qc_T _ a = _ from (fσ5.s _).trans ((fσ4.s _).trans ((fσ3.s _).trans ((fσ2.s _).trans ((fσ1.s _).trans (ha.1)))))]; rfl) (Exists.intro 5 (Exists.intro σ6 (And.intro rfl (And.intro eσ6.symm ?_))))
  have hi : ∀ k, k ≠ 0 → ∀ j, qx_mi σ6 (a + k) j = qx_mi σ4 (a + k) j := fun k hk j => (qn_ne eσ6 (Or.inl (by omega))).trans (qn_ne eσ5 (Or.inl (by omega)))
  refine ⟨rfl, ?_, ?_, ?_, ?_, ?_⟩
  · exact (qf.cv fσ1 (by simp)).tr ((qf.cv fσ2 (by simp)).tr ((qf.cv fσ3 (by simp)).tr ((qf.cv fσ4 (by simp)).tr ((qf.cv fσ5 (by simp)).tr (qf.cv fσ6 (by simp))))))
  · intro k hk
    rcases hk with z | z
    · rw [z]; exact (qn_ne eσ6 (Or.inr (by decide))).trans (qn_eq eσ5)
    · rw [z]; exact qn_eq eσ6
  · exact fun j hj => ⟨(hi 1 (by decide) j).trans ((qn_cpne eσ4 (by omega)).trans ((qn_cpne eσ3 (by omega)).trans ((qn_cpne eσ2 (by omega)).trans (qn_cpeq eσ1 hj)))), (hi 2 (by decide) j).trans ((qn_cpne eσ4 (by omega)).trans ((qn_cpne eσ3 (by omega)).trans ((qn_cpeq eσ2 hj).trans (qn_cpne eσ1 (by omega)))))⟩
  · exact fun j hj => (hi 3 (by decide) j).trans ((qn_cpne eσ4 (by omega)).trans ((qn_cpeq eσ3 hj).trans ((qn_cpne eσ2 (by omega)).trans (qn_cpne eσ1 (by omega)))))
  · exact fun j hj => (hi 4 (by decide) j).trans ((qn_cpeq eσ4 hj).trans ((qn_cpne eσ3 (by omega)).trans ((qn_cpne eσ2 (by omega)).trans (qn_cpne eσ1 (by omega)))))
/-- a ring's object -/
def shG (σ : qx_S) (a : Nat) : Prop := qx_sh qc_T σ a = (12, 0) ∧ qx_sh qc_T σ (a + 1) = (0, 6)
def cpG (σ s' : qx_S) (a b : Nat) : Prop := qx_mi s' a 1 = qx_mi σ b 1 ∧ ∀ j, j < 6 → qx_mi s' (a + 1) j = qx_mi σ (b + 1) j
theorem c_copyG {G : qx_G} {σ : qx_S} {a b : Nat} (ha : shG σ a) (hb : shG σ b) (hab : a + 1 < b ∨ b + 1 < a) : qx_M G qc_T 0 YX4_copyFrom [.ref a, .ref b] σ (fun r s' => r = none ∧ ql [(a, none), (a + 1, none)] σ s' ∧ cpG σ s' a b) := by
  refine qx_M_in rfl (Nat.le_of_ble_eq_true rfl) ?_
  refine qy_wp_ok (c := CX4_copyFrom) (cuts := []) vX4_copyFrom wX4_copyFrom 2000 0 _ _ _ ?_
  refine And.intro (by rw [show qx_sh qc_T _ b = _ from hb.1]; rfl) (Exists.intro (b + 1) (And.intro rfl ?_))
  refine Exists.intro (nI 0) (And.intro rfl ?_)
  refine And.intro (by rw [show qx_sh qc_T _ a = _ from ha.1]; rfl) (Exists.intro (a + 1) (And.intro rfl ?_))
  refine Exists.intro (nI 0) (And.intro rfl ?_)
  refine Exists.intro (nI 6) (And.intro rfl ?_)
  obtain ⟨σ1, eσ1⟩ : ∃ zs, zs = (qy_cp σ (b + 1) (a + 1) 0 0 6) := ⟨_, rfl⟩
  have fσ1 := qn_cp eσ1
  refine Exists.intro 6 (Exists.intro 0 (Exists.intro 0 (Exists.intro σ1 (And.intro rfl (And.intro rfl (And.intro rfl (And.intro (show ¬ b + 1 = a + 1 by omega) (And.intro ⟨6, hb.2, by decide, by decide⟩ (And.intro ⟨6, ha.2, by decide, by decide⟩ (And.intro eσ1.symm ?_))))))))))
  refine And.intro (by rw [show qx_sh qc_T _ b = _ from (fσ1.s _).trans (hb.1)]; rfl) (Exists.intro 1 (Exists.intro (qx_mi σ b 1) (And.intro rfl (And.intro ((qn_cpne eσ1 (by omega)).trans (rfl)) ?_))))
  obtain ⟨σ2, eσ2⟩ : ∃ zs, zs = (qx_wi σ1 a 1 (qx_mi σ b 1)) := ⟨_, rfl⟩
  have fσ2 := qn_wif eσ2
  refine And.intro (by rw [show qx_sh qc_T _ a = _ from (fσ1.s _).trans (ha.1)]; rfl) (Exists.intro 1 (Exists.intro σ2 (And.intro rfl (And.intro eσ2.symm ?_))))
  exact ⟨rfl, (qf.cv fσ1 (by simp)).tr (qf.cv fσ2 (by simp)), qn_eq eσ2, fun j hj => (qn_ne eσ2 (Or.inl (by omega))).trans (qn_cpeq eσ1 hj)⟩
/-- a standing as of the first day -/
def nwS (σ s' : qx_S) (a h : Nat) : Prop := qx_mi s' a 4 = nI 1 ∧ qx_mi s' a 5 = nI 0 ∧ (∀ j, j < 10 → qx_mi s' (a + 1) j = qx_mi σ h j ∧ qx_mi s' (a + 2) j = nI 0 ∧ qx_mi s' (a + 4) j = nI 0) ∧ ∀ j, j < 100 → qx_mi s' (a + 3) j = nI 0
theorem c_beginAt {G : qx_G} {σ : qx_S} {a h : Nat} (ha : shS σ a) (hh : qx_sh qc_T σ h = (0, 10)) (hn : h < a ∨ a + 4 < h) : qx_M G qc_T 1 YX7_beginAt [.ref a, .ref h] σ (fun r s' => r = none ∧ ql (kS5 a) σ s' ∧ nwS σ s' a h) := by
  refine qx_M_in rfl (Nat.le_of_ble_eq_true rfl) ?_
  refine qy_wp_ok (c := CX7_beginAt) (cuts := []) vX7_beginAt wX7_beginAt 2000 0 _ _ _ ?_
  refine Exists.intro (nI 0) (And.intro rfl ?_)
  refine And.intro (by rw [show qx_sh qc_T _ a = _ from ha.1]; rfl) (Exists.intro (a + 1) (And.intro rfl ?_))
  refine Exists.intro (nI 0) (And.intro rfl ?_)
  refine Exists.intro (nI 10) (And.intro rfl ?_)
  obtain ⟨σ1, eσ1⟩ : ∃ zs, zs = (qy_cp σ h (a + 1) 0 0 10) := ⟨_, rfl⟩
  have fσ1 := qn_cp eσ1
  refine Exists.intro 10 (Exists.intro 0 (Exists.intro 0 (Exists.intro σ1 (And.intro rfl (And.intro rfl (And.intro rfl (And.intro (show ¬ h = a + 1 by omega) (And.intro ⟨10, hh, by decide, by decide⟩ (And.intro ⟨10, ha.2.1, by decide, by decide⟩ (And.intro eσ1.symm ?_))))))))))
  refine And.intro (by rw [show qx_sh qc_T _ a = _ from (fσ1.s _).trans (ha.1)]; rfl) (Exists.intro (a + 2) (And.intro rfl ?_))
  refine Exists.intro (nI 0) (And.intro rfl ?_)
  refine Exists.intro _ (And.intro (by decide) (qx_M_mono (c_fill (N := 10) ((fσ1.s _).trans ha.2.2.1) (by decide)) ?_))
  rintro _ σ2 ⟨rfl, fσ2, gσ2⟩
  refine And.intro (by rw [show qx_sh qc_T _ a = _ from (fσ2.s _).trans ((fσ1.s _).trans (ha.1))]; rfl) (Exists.intro (a + 3) (And.intro rfl ?_))
  refine Exists.intro (nI 0) (And.intro rfl ?_)
  refine Exists.intro _ (And.intro (by decide) (qx_M_mono (c_fill (N := 100) ((fσ2.s _).trans ((fσ1.s _).trans ha.2.2.2.1)) (by decide)) ?_))
  rintro _ σ3 ⟨rfl, fσ3, gσ3⟩
  refine And.intro (by rw [show qx_sh qc_T _ a = _ from (fσ3.s _).trans ((fσ2.s _).trans ((fσ1.s _).trans (ha.1)))]; rfl) (Exists.intro (a + 4) (And.intro rfl ?_))
  refine Exists.intro (nI 0) (And.intro rfl ?_)
  refine Exists.intro _ (And.intro (by decide) (qx_M_mono (c_fill (N := 10) ((fσ3.s _).trans ((fσ2.s _).trans ((fσ1.s _).trans ha.2.2.2.2))) (by decide)) ?_))
  rintro _ σ4 ⟨rfl, fσ4, gσ4⟩
  refine Exists.intro (nI 1) (And.intro rfl ?_)
  obtain ⟨σ5, eσ5⟩ : ∃ zs, zs = (qx_wi σ4 a 4 (nI 1)) := ⟨_, rfl⟩
  have fσ5 := qn_wif eσ5
  refine And.intro (by rw [show qx_sh qc_T _ a = _ from (fσ4.s _).trans ((fσ3.s _).trans ((fσ2.s _).trans ((fσ1.s _).trans (ha.1))))]; rfl) (Exists.intro 4 (Exists.intro σ5 (And.intro rfl (And.intro eσ5.symm ?_))))
  refine Exists.intro (nI 0) (And.intro rfl ?_)
  obtain ⟨σ6, eσ6⟩ : ∃ zs, zs = (qx_wi σ5 a 5 (nI 0)) := ⟨_, rfl⟩
  have fσ6 := qn_wif eσ6
  refine And.intro (by rw [show qx_sh qc_T _ a = _ from (fσ5.s _).trans ((fσ4.s _).trans ((fσ3.s _).trans ((fσ2.s _).trans ((fσ1.s _).trans (ha.1)))))]; rfl) (Exists.intro 5 (Exists.intro σ6 (And.intro rfl (And.intro eσ6.symm ?_))))
  have hi : ∀ k, k ≠ 0 → ∀ j, qx_mi σ6 (a + k) j = qx_mi σ4 (a + k) j := fun k hk j => (qn_ne eσ6 (Or.inl (by omega))).trans (qn_ne eσ5 (Or.inl (by omega)))
  have n2 : ∀ x, x ≠ a + 2 → ∀ j, qx_mi σ2 x j = qx_mi σ1 x j := fun x hx j => fσ2.i _ _ (pL_ne (by simp; omega))
  have n3 : ∀ x, x ≠ a + 3 → ∀ j, qx_mi σ3 x j = qx_mi σ2 x j := fun x hx j => fσ3.i _ _ (pL_ne (by simp; omega))
  have n4 : ∀ x, x ≠ a + 4 → ∀ j, qx_mi σ4 x j = qx_mi σ3 x j := fun x hx j => fσ4.i _ _ (pL_ne (by simp; omega))
  refine ⟨rfl, ?_, ?_, ?_, ?_, ?_⟩
  · exact (qf.cv fσ1 (by simp)).tr ((qf.cv fσ2 (by simp)).tr ((qf.cv fσ3 (by simp)).tr ((qf.cv fσ4 (by simp)).tr ((qf.cv fσ5 (by simp)).tr (qf.cv fσ6 (by simp))))))
  · exact (qn_ne eσ6 (Or.inr (by decide))).trans (qn_eq eσ5)
  · exact qn_eq eσ6
  · exact fun j hj => ⟨(hi 1 (by decide) j).trans ((n4 _ (by omega) j).trans ((n3 _ (by omega) j).trans ((n2 _ (by omega) j).trans (qn_cpeq eσ1 hj)))), (hi 2 (by decide) j).trans ((n4 _ (by omega) j).trans ((n3 _ (by omega) j).trans (gσ2 j hj))), (hi 4 (by decide) j).trans (gσ4 j hj)⟩
  · exact fun j hj => (hi 3 (by decide) j).trans ((n4 _ (by omega) j).trans (gσ3 j hj))

