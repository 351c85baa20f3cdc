/-! THE CLASS: rows are copied -/
theorem qn_cpne {s σ : qx_S} {a d sp dp n : Nat} (e : s = qy_cp σ a d sp dp n) {a' k' : Nat} (h : a' ≠ d) : s.2.2.2.1 a' k' = σ.2.2.2.1 a' k' := by
  rw [e]
  show va_up σ.2.2.2.1 d _ a' k' = _
  rw [va_up_ne _ _ h]
theorem qn_cpeq {s σ : qx_S} {a d n : Nat} (e : s = qy_cp σ a d 0 0 n) {k : Nat} (h : k < n) : s.2.2.2.1 d k = σ.2.2.2.1 a k := by
  rw [e]
  show va_up σ.2.2.2.1 d _ d k = _
  rw [va_up_self]
  unfold va_cpy
  rw [if_pos (by omega)]
  exact congrArg _ (by omega)
theorem qn_cpl {s σ : qx_S} {a d sp dp n : Nat} (e : s = qy_cp σ a d sp dp n) (a' k' : Nat) : s.2.2.2.2.1 a' k' = σ.2.2.2.2.1 a' k' := by rw [e]; rfl
theorem qn_cp {s σ : qx_S} {a d sp dp n : Nat} (e : s = qy_cp σ a d sp dp n) : ql [(d, none)] σ s := by
  refine ⟨by rw [e]; rfl, by rw [e]; rfl, by rw [e]; rfl, by rw [e]; rfl, fun x j hp => qn_cpne e (fun z => ?_), fun x j _ => qn_cpl e x j⟩
  rw [z] at hp
  exact absurd hp (by simp [pL])
theorem qf.cv {l m : List (Nat × Option Nat)} {σ s : qx_S} (f : ql l σ s) (h : ∀ q, q ∈ l → (q.1, none) ∈ m) : ql m σ s := by
  refine qf.mono f (fun x j hm => pL_ne (fun q hq => Or.inl (fun z => ?_)))
  have h2 : pL m x j = true := List.any_eq_true.mpr ⟨_, h q hq, by rw [z]; simp⟩
  rw [hm] at h2
  cases h2
/-- a country's object -/
def shL (σ : qx_S) (a : Nat) : Prop := qx_sh qc_T σ a = (9, 0) ∧ qx_sh qc_T σ (a + 1) = (0, 10) ∧ qx_sh qc_T σ (a + 2) = (0, 10) ∧ qx_sh qc_T σ (a + 3) = (0, 80) ∧ qx_sh qc_T σ (a + 4) = (0, 8)
/-- the cells of the country at b are those of a -/
def cpL (σ s' : qx_S) (a b : Nat) : Prop := (∀ k, k = 4 ∨ k = 5 ∨ k = 6 ∨ k = 7 → qx_mi s' a k = qx_mi σ b k) ∧ (∀ j, j < 10 → qx_mi s' (a + 1) j = qx_mi σ (b + 1) j ∧ qx_mi s' (a + 2) j = qx_mi σ (b + 2) j) ∧ (∀ j, j < 80 → qx_mi s' (a + 3) j = qx_mi σ (b + 3) j) ∧ ∀ j, j < 8 → qx_mi s' (a + 4) j = qx_mi σ (b + 4) j
theorem dR.cp {σ s' : qx_S} {a b : Nat} {D : qS} (h : dR σ b D) (g : gD D) (c : cpL σ s' a b) : dR s' a D := by
  obtain ⟨a1, a2, a3, a4, a5, a6, a7, bn, a8, a9, a10⟩ := h
  obtain ⟨c1, c2, c3, c4⟩ := c
  have b1 := g.2.1.2
  exact ⟨(c1 4 (by omega)).trans a1, (c1 5 (by omega)).trans a2, (c1 6 (by omega)).trans a3, fun p hp => ⟨(c2 p (by omega)).1.trans (a4 p hp).1, (c2 p (by omega)).2.trans (a4 p hp).2⟩, fun p hp q hq => (c3 _ (by omega)).trans (a5 p hp q hq), fun k h1 h2 => (c3 k h2).trans (a6 k h1 h2), fun q hq => (c4 q hq).trans (a7 q hq), bn, (c1 7 (by omega)).trans a8, a9, a10⟩
theorem c_copyC {G : qx_G} {σ : qx_S} {a b : Nat} (ha : shL σ a) (hb : shL σ b) (hab : a + 4 < b ∨ b + 4 < a) : qx_M G qc_T 0 YX1_copyFrom [.ref a, .ref b] σ (fun r s' => r = none ∧ ql [(a, none), (a + 1, none), (a + 2, none), (a + 3, none), (a + 4, none)] σ s' ∧ cpL σ s' a b) := by
  refine qx_M_in rfl (Nat.le_of_ble_eq_true rfl) ?_
  refine qy_wp_ok (c := CX1_copyFrom) (cuts := []) vX1_copyFrom wX1_copyFrom 2000 0 _ _ _ ?_
  refine And.intro (by rw [show qx_sh qc_T _ b = _ from hb.1]; rfl) (Exists.intro (b + 1) (And.intro rfl ?_))
  refine Exists.intro (nI 0) (And.intro rfl ?_)
  refine And.intro (by rw [show qx_sh qc_T _ a = _ from ha.1]; rfl) (Exists.intro (a + 1) (And.intro rfl ?_))
  refine Exists.intro (nI 0) (And.intro rfl ?_)
  refine Exists.intro (nI 10) (And.intro rfl ?_)
  obtain ⟨σ1, eσ1⟩ : ∃ zs, zs = (qy_cp σ (b + 1) (a + 1) 0 0 10) := ⟨_, rfl⟩
  have fσ1 := qn_cp eσ1
  refine Exists.intro 10 (Exists.intro 0 (Exists.intro 0 (Exists.intro σ1 (And.intro rfl (And.intro rfl (And.intro rfl (And.intro (show ¬ b + 1 = a + 1 by omega) (And.intro ⟨10, hb.2.1, by decide, by decide⟩ (And.intro ⟨10, ha.2.1, by decide, by decide⟩ (And.intro eσ1.symm ?_))))))))))
  refine And.intro (by rw [show qx_sh qc_T _ b = _ from (fσ1.s _).trans (hb.1)]; rfl) (Exists.intro (b + 2) (And.intro rfl ?_))
  refine Exists.intro (nI 0) (And.intro rfl ?_)
  refine And.intro (by rw [show qx_sh qc_T _ a = _ from (fσ1.s _).trans (ha.1)]; rfl) (Exists.intro (a + 2) (And.intro rfl ?_))
  refine Exists.intro (nI 0) (And.intro rfl ?_)
  refine Exists.intro (nI 10) (And.intro rfl ?_)
  obtain ⟨σ2, eσ2⟩ : ∃ zs, zs = (qy_cp σ1 (b + 2) (a + 2) 0 0 10) := ⟨_, rfl⟩
  have fσ2 := qn_cp eσ2
  refine Exists.intro 10 (Exists.intro 0 (Exists.intro 0 (Exists.intro σ2 (And.intro rfl (And.intro rfl (And.intro rfl (And.intro (show ¬ b + 2 = a + 2 by omega) (And.intro ⟨10, (fσ1.s _).trans (hb.2.2.1), by decide, by decide⟩ (And.intro ⟨10, (fσ1.s _).trans (ha.2.2.1), by decide, by decide⟩ (And.intro eσ2.symm ?_))))))))))
  refine And.intro (by rw [show qx_sh qc_T _ b = _ from (fσ2.s _).trans ((fσ1.s _).trans (hb.1))]; rfl) (Exists.intro (b + 3) (And.intro rfl ?_))
  refine Exists.intro (nI 0) (And.intro rfl ?_)
  refine And.intro (by rw [show qx_sh qc_T _ a = _ from (fσ2.s _).trans ((fσ1.s _).trans (ha.1))]; rfl) (Exists.intro (a + 3) (And.intro rfl ?_))
  refine Exists.intro (nI 0) (And.intro rfl ?_)
  refine Exists.intro (nI 80) (And.intro rfl ?_)
  obtain ⟨σ3, eσ3⟩ : ∃ zs, zs = (qy_cp σ2 (b + 3) (a + 3) 0 0 80) := ⟨_, rfl⟩
  have fσ3 := qn_cp eσ3
  refine Exists.intro 80 (Exists.intro 0 (Exists.intro 0 (Exists.intro σ3 (And.intro rfl (And.intro rfl (And.intro rfl (And.intro (show ¬ b + 3 = a + 3 by omega) (And.intro ⟨80, (fσ2.s _).trans ((fσ1.s _).trans (hb.2.2.2.1)), by decide, by decide⟩ (And.intro ⟨80, (fσ2.s _).trans ((fσ1.s _).trans (ha.2.2.2.1)), by decide, by decide⟩ (And.intro eσ3.symm ?_))))))))))
  refine And.intro (by rw [show qx_sh qc_T _ b = _ from (fσ3.s _).trans ((fσ2.s _).trans ((fσ1.s _).trans (hb.1)))]; rfl) (Exists.intro (b + 4) (And.intro rfl ?_))
  refine Exists.intro (nI 0) (And.intro rfl ?_)
  refine And.intro (by rw [show qx_sh qc_T _ a = _ from (fσ3.s _).trans ((fσ2.s _).trans ((fσ1.s _).trans (ha.1)))]; rfl) (Exists.intro (a + 4) (And.intro rfl ?_))
  refine Exists.intro (nI 0) (And.intro rfl ?_)
  refine Exists.intro (nI 8) (And.intro rfl ?_)
  obtain ⟨σ4, eσ4⟩ : ∃ zs, zs = (qy_cp σ3 (b + 4) (a + 4) 0 0 8) := ⟨_, rfl⟩
  have fσ4 := qn_cp eσ4
  refine Exists.intro 8 (Exists.intro 0 (Exists.intro 0 (Exists.intro σ4 (And.intro rfl (And.intro rfl (And.intro rfl (And.intro (show ¬ b + 4 = a + 4 by omega) (And.intro ⟨8, (fσ3.s _).trans ((fσ2.s _).trans ((fσ1.s _).trans (hb.2.2.2.2))), by decide, by decide⟩ (And.intro ⟨8, (fσ3.s _).trans ((fσ2.s _).trans ((fσ1.s _).trans (ha.2.2.2.2))), by decide, by decide⟩ (And.intro eσ4.symm ?_))))))))))
  refine And.intro (by rw [show qx_sh qc_T _ b = _ from (fσ4.s _).trans ((fσ3.s _).trans ((fσ2.s _).trans ((fσ1.s _).trans (hb.1))))]; rfl) (Exists.intro 4 (Exists.intro (qx_mi σ b 4) (And.intro rfl (And.intro ((qn_cpne eσ4 (by omega)).trans ((qn_cpne eσ3 (by omega)).trans ((qn_cpne eσ2 (by omega)).trans ((qn_cpne eσ1 (by omega)).trans (rfl))))) ?_))))
  obtain ⟨σ5, eσ5⟩ : ∃ zs, zs = (qx_wi σ4 a 4 (qx_mi σ b 4)) := ⟨_, rfl⟩
  have fσ5 := qn_wif eσ5
  refine And.intro (by rw [show qx_sh qc_T _ a = _ from (fσ4.s _).trans ((fσ3.s _).trans ((fσ2.s _).trans ((fσ1.s _).trans (ha.1))))]; rfl) (Exists.intro 4 (Exists.intro σ5 (And.intro rfl (And.intro eσ5.symm ?_))))
  refine And.intro (by rw [show qx_sh qc_T _ b = _ from (fσ5.s _).trans ((fσ4.s _).trans ((fσ3.s _).trans ((fσ2.s _).trans ((fσ1.s _).trans (hb.1)))))]; rfl) (Exists.intro 5 (Exists.intro (qx_mi σ b 5) (And.intro rfl (And.intro ((qn_ne eσ5 (Or.inl (by omega))).trans ((qn_cpne eσ4 (by omega)).trans ((qn_cpne eσ3 (by omega)).trans ((qn_cpne eσ2 (by omega)).trans ((qn_cpne eσ1 (by omega)).trans (rfl)))))) ?_))))
  obtain ⟨σ6, eσ6⟩ : ∃ zs, zs = (qx_wi σ5 a 5 (qx_mi σ b 5)) := ⟨_, rfl⟩
  have fσ6 := qn_wif eσ6
  refine And.intro (by rw [show qx_sh qc_T _ a = _ from (fσ5.s _).trans ((fσ4.s _).trans ((fσ3.s _).trans ((fσ2.s _).trans ((fσ1.s _).trans (ha.1)))))]; rfl) (Exists.intro 5 (Exists.intro σ6 (And.intro rfl (And.intro eσ6.symm ?_))))
  refine And.intro (by rw [show qx_sh qc_T _ b = _ from (fσ6.s _).trans ((fσ5.s _).trans ((fσ4.s _).trans ((fσ3.s _).trans ((fσ2.s _).trans ((fσ1.s _).trans (hb.1))))))]; rfl) (Exists.intro 6 (Exists.intro (qx_mi σ b 6) (And.intro rfl (And.intro ((qn_ne eσ6 (Or.inl (by omega))).trans ((qn_ne eσ5 (Or.inl (by omega))).trans ((qn_cpne eσ4 (by omega)).trans ((qn_cpne eσ3 (by omega)).trans ((qn_cpne eσ2 (by omega)).trans ((qn_cpne eσ1 (by omega)).trans (rfl))))))) ?_))))
  obtain ⟨σ7, eσ7⟩ : ∃ zs, zs = (qx_wi σ6 a 6 (qx_mi σ b 6)) := ⟨_, rfl⟩
  have fσ7 := qn_wif eσ7
  refine And.intro (by rw [show qx_sh qc_T _ a = _ from (fσ6.s _).trans ((fσ5.s _).trans ((fσ4.s _).trans ((fσ3.s _).trans ((fσ2.s _).trans ((fσ1.s _).trans (ha.1))))))]; rfl) (Exists.intro 6 (Exists.intro σ7 (And.intro rfl (And.intro eσ7.symm ?_))))
  refine And.intro (by rw [show qx_sh qc_T _ b = _ from (fσ7.s _).trans ((fσ6.s _).trans ((fσ5.s _).trans ((fσ4.s _).trans ((fσ3.s _).trans ((fσ2.s _).trans ((fσ1.s _).trans (hb.1)))))))]; rfl) (Exists.intro 7 (Exists.intro (qx_mi σ b 7) (And.intro rfl (And.intro ((qn_ne eσ7 (Or.inl (by omega))).trans ((qn_ne eσ6 (Or.inl (by omega))).trans ((qn_ne eσ5 (Or.inl (by omega))).trans ((qn_cpne eσ4 (by omega)).trans ((qn_cpne eσ3 (by omega)).trans ((qn_cpne eσ2 (by omega)).trans ((qn_cpne eσ1 (by omega)).trans (rfl)))))))) ?_))))
  obtain ⟨σ8, eσ8⟩ : ∃ zs, zs = (qx_wi σ7 a 7 (qx_mi σ b 7)) := ⟨_, rfl⟩
  have fσ8 := qn_wif eσ8
  refine And.intro (by rw [show qx_sh qc_T _ a = _ from (fσ7.s _).trans ((fσ6.s _).trans ((fσ5.s _).trans ((fσ4.s _).trans ((fσ3.s _).trans ((fσ2.s _).trans ((fσ1.s _).trans (ha.1)))))))]; rfl) (Exists.intro 7 (Exists.intro σ8 (And.intro rfl (And.intro eσ8.symm ?_))))
  have hi : ∀ k, k ≠ 0 → ∀ j, qx_mi σ8 (a + k) j = qx_mi σ4 (a + k) j := fun k hk j => (qn_ne eσ8 (Or.inl (by omega))).trans ((qn_ne eσ7 (Or.inl (by omega))).trans ((qn_ne eσ6 (Or.inl (by omega))).trans (qn_ne eσ5 (Or.inl (by omega)))))
  refine ⟨rfl, ?_, ?_, ?_, ?_, ?_⟩
  · exact (qf.cv fσ1 (by simp)).tr ((qf.cv fσ2 (by simp)).tr ((qf.cv fσ3 (by simp)).tr ((qf.cv fσ4 (by simp)).tr ((qf.cv fσ5 (by simp)).tr ((qf.cv fσ6 (by simp)).tr ((qf.cv fσ7 (by simp)).tr (qf.cv fσ8 (by simp))))))))
  · intro k hk
    rcases hk with z | z | z | z
    · rw [z]; exact (qn_ne eσ8 (Or.inr (by decide))).trans ((qn_ne eσ7 (Or.inr (by decide))).trans ((qn_ne eσ6 (Or.inr (by decide))).trans (qn_eq eσ5)))
    · rw [z]; exact (qn_ne eσ8 (Or.inr (by decide))).trans ((qn_ne eσ7 (Or.inr (by decide))).trans (qn_eq eσ6))
    · rw [z]; exact (qn_ne eσ8 (Or.inr (by decide))).trans (qn_eq eσ7)
    · rw [z]; exact qn_eq eσ8
  · exact fun j hj => ⟨(hi 1 (by decide) j).trans ((qn_cpne eσ4 (by omega)).trans ((qn_cpne eσ3 (by omega)).trans ((qn_cpne eσ2 (by omega)).trans (qn_cpeq eσ1 hj)))), (hi 2 (by decide) j).trans ((qn_cpne eσ4 (by omega)).trans ((qn_cpne eσ3 (by omega)).trans ((qn_cpeq eσ2 hj).trans (qn_cpne eσ1 (by omega)))))⟩
  · exact fun j hj => (hi 3 (by decide) j).trans ((qn_cpne eσ4 (by omega)).trans ((qn_cpeq eσ3 hj).trans ((qn_cpne eσ2 (by omega)).trans (qn_cpne eσ1 (by omega)))))
  · exact fun j hj => (hi 4 (by decide) j).trans ((qn_cpeq eσ4 hj).trans ((qn_cpne eσ3 (by omega)).trans ((qn_cpne eσ2 (by omega)).trans (qn_cpne eσ1 (by omega)))))

