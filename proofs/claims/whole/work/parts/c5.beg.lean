/-! THE CLASS: a new country begins -/
abbrev kBI : List (Nat × Option Nat) := [(16, none), (17, none), (18, none), (19, none), (20, none), (21, none), (22, none), (23, none), (24, none), (25, none), (27, some 1), (15, some 8), (15, some 7), (30, none)]
theorem dR.fb {σ s' : qx_S} {b : Nat} {D : qS} (h : dR σ b D) (g : gD D) (f : ∀ k, k ≤ 4 → ∀ j, qx_mi s' (b + k) j = qx_mi σ (b + k) j) : dR s' b D := h.cp g ⟨fun k _ => f 0 (by decide) k, fun j _ => ⟨f 1 (by decide) j, f 2 (by decide) j⟩, fun j _ => f 3 (by decide) j, fun j _ => f 4 (by decide) j⟩
theorem nwS.fr {σ μ s s' : qx_S} {a h : Nat} (n : nwS σ s a h) (f : ∀ k, k ≤ 4 → ∀ j, qx_mi s' (a + k) j = qx_mi s (a + k) j) (e : ∀ j, qx_mi σ h j = qx_mi μ h j) : nwS μ s' a h := ⟨(f 0 (by decide) 4).trans n.1, (f 0 (by decide) 5).trans n.2.1, fun j hj => ⟨((f 1 (by decide) j).trans (n.2.2.1 j hj).1).trans (e j), (f 2 (by decide) j).trans (n.2.2.1 j hj).2.1, (f 4 (by decide) j).trans (n.2.2.1 j hj).2.2⟩, fun j hj => (f 3 (by decide) j).trans (n.2.2.2 j hj)⟩
theorem c_beginIn {G : qx_G} {σ : qx_S} {E : qS} (hd : dR σ 9 E) (g : gD E) : qx_M G qc_T 2 YX8_beginIn [.ref 15, .ref 9] σ (fun r s' => r = none ∧ ql kBI σ s' ∧ dR s' 16 E ∧ nwS σ s' 21 11 ∧ qx_mi s' 27 1 = nI 0 ∧ qx_mi s' 15 8 = nI 0 ∧ qx_mi s' 15 7 = nI 0 ∧ ∀ j, j < 10 → qx_mi s' 30 j = -1) := by
  refine qx_M_in rfl (Nat.le_of_ble_eq_true rfl) ?_
  refine qy_wp_ok (c := CX8_beginIn) (cuts := []) vX8_beginIn wX8_beginIn 2000 0 _ _ _ ?_
  refine And.intro rfl (Exists.intro 16 (And.intro rfl ?_))
  refine And.intro rfl (Exists.intro _ (And.intro (by decide) (qx_M_mono (c_copyC (a := 16) (b := 9) ⟨rfl, rfl, rfl, rfl, rfl⟩ ⟨rfl, rfl, rfl, rfl, rfl⟩ (by decide)) ?_)))
  rintro _ σ1 ⟨rfl, fσ1, gσ1⟩
  refine And.intro rfl (Exists.intro 21 (And.intro rfl ?_))
  refine And.intro rfl (Exists.intro 11 (And.intro rfl ?_))
  refine And.intro rfl (Exists.intro _ (And.intro (by decide) (qx_M_mono (c_beginAt (a := 21) (h := 11) ⟨(fσ1.s _).trans rfl, (fσ1.s _).trans rfl, (fσ1.s _).trans rfl, (fσ1.s _).trans rfl, (fσ1.s _).trans rfl⟩ ((fσ1.s _).trans rfl) (by decide)) ?_)))
  rintro _ σ2 ⟨rfl, fσ2, gσ2⟩
  refine And.intro rfl (Exists.intro 27 (And.intro rfl ?_))
  refine Exists.intro (nI 0) (And.intro rfl ?_)
  obtain ⟨σ3, eσ3⟩ : ∃ zs, zs = (qx_wi σ2 27 1 (nI 0)) := ⟨_, rfl⟩
  have fσ3 := qn_wif eσ3
  refine And.intro rfl (Exists.intro 1 (Exists.intro σ3 (And.intro rfl (And.intro eσ3.symm ?_))))
  refine Exists.intro (nI 0) (And.intro rfl ?_)
  obtain ⟨σ4, eσ4⟩ : ∃ zs, zs = (qx_wi σ3 15 8 (nI 0)) := ⟨_, rfl⟩
  have fσ4 := qn_wif eσ4
  refine And.intro rfl (Exists.intro 8 (Exists.intro σ4 (And.intro rfl (And.intro eσ4.symm ?_))))
  refine Exists.intro (nI 0) (And.intro rfl ?_)
  obtain ⟨σ5, eσ5⟩ : ∃ zs, zs = (qx_wi σ4 15 7 (nI 0)) := ⟨_, rfl⟩
  have fσ5 := qn_wif eσ5
  refine And.intro rfl (Exists.intro 7 (Exists.intro σ5 (And.intro rfl (And.intro eσ5.symm ?_))))
  refine And.intro rfl (Exists.intro 30 (And.intro rfl ?_))
  refine Exists.intro ((-1)) (And.intro (by decide) ?_)
  refine Exists.intro _ (And.intro (by decide) (qx_M_mono (c_fill (N := 10) ((fσ5.s _).trans ((fσ4.s _).trans ((fσ3.s _).trans ((fσ2.s _).trans ((fσ1.s _).trans rfl))))) (by decide)) ?_))
  rintro _ σ6 ⟨rfl, fσ6, gσ6⟩
  have hs2 : ∀ x, 16 ≤ x → x < 26 → ∀ j, qx_mi σ6 x j = qx_mi σ2 x j := fun x h1 h2 j => (fσ6.i _ _ (pL_ne (by simp; omega))).trans ((qn_ne eσ5 (Or.inl (by omega))).trans ((qn_ne eσ4 (Or.inl (by omega))).trans (qn_ne eσ3 (Or.inl (by omega)))))
  refine ⟨rfl, (fσ1.mn (by decide)).tr ((fσ2.mn (by decide)).tr ((fσ3.mn (by decide)).tr ((fσ4.mn (by decide)).tr ((fσ5.mn (by decide)).tr (fσ6.mn (by decide)))))), ?_, ?_, (fσ6.i _ _ rfl).trans ((fσ5.i _ _ rfl).trans ((fσ4.i _ _ rfl).trans (qn_eq eσ3))), (fσ6.i _ _ rfl).trans ((fσ5.i _ _ rfl).trans (qn_eq eσ4)), (fσ6.i _ _ rfl).trans (qn_eq eσ5), gσ6⟩
  · exact (hd.cp g gσ1).fb g (fun k hk j => (hs2 _ (by omega) (by omega) j).trans (fσ2.i _ _ (pL_ne (by simp; omega))))
  · exact gσ2.fr (fun k hk j => hs2 _ (by omega) (by omega) j) (fun j => fσ1.i _ _ rfl)

