/-! THE CLASS: Rule.readFrom -/
theorem c_readRule {G : qx_G} (hG : kStr G) {σ : qx_S} {a : Nat} {T : q_T} (hT : tC σ T) (hs : shR σ a) : qx_M G qc_T 36 YX5_readFrom [.ref a, .ref 4] σ (fun r s' => rR σ s' a (q_ru T) r) := by
  have ha := hs.1
  have key : ∀ σ1 σ2 σ3 σ4 σ5, σ1 = qx_wi σ a 5 (nI 0) → σ2 = qx_wi σ1 a 6 (nI 0) → σ3 = qx_wi σ2 a 7 (nI 0) → σ4 = qx_wi σ3 a 8 (nI 0) → rCut σ4 σ5 T → qx_K G qc_T 36 RX5 YX5_readFrom 26 [.ref a, .ref 4, .int (nI 0), .retAddr 0] [] σ5 (fun r s' => rR σ s' a (q_ru T) r) := by
    intro σ1 σ2 σ3 σ4 σ5 e1 e2 e3 e4 hc
    have f1 := qn_wif e1
    have f2 := qn_wif e2
    have f3 := qn_wif e3
    have f4 := qn_wif e4
    obtain ⟨n, n0, c1, c2, c3, c4, c5, f5⟩ := hc
    have no5 : ∀ j, pL kCt a j = false := fun j => pL_ne (by simp; omega)
    have hT5 : tC σ5 T := ((((hT.fr f1 (pL_ne (by simp)) (fun j => pL_ne (by simp; omega))).fr f2 (pL_ne (by simp)) (fun j => pL_ne (by simp; omega))).fr f3 (pL_ne (by simp)) (fun j => pL_ne (by simp; omega))).fr f4 (pL_ne (by simp)) (fun j => pL_ne (by simp; omega))).fr f5 rfl (fun _ => rfl)
    have hC5 : cT σ5 T (q_sk T 0) := ⟨hT5, n, 0, n0, c1, c2, c3, c4, rfl⟩
    have u : uP σ5 a T (q_s0 T) := by
      refine ⟨hC5, (f5.i _ _ (no5 _)).trans ((qn_ne e4 (Or.inr (by decide))).trans ((qn_ne e3 (Or.inr (by decide))).trans ((qn_ne e2 (Or.inr (by decide))).trans (qn_eq e1)))), (f5.i _ _ (no5 _)).trans ((qn_ne e4 (Or.inr (by decide))).trans (qn_eq e3)), by show 0 ≤ 60; omega, fun i hi => absurd hi (by show ¬ i < 0; omega), (f5.i _ _ (no5 _)).trans (qn_eq e4)⟩
    have h6 : qx_mi σ5 a 6 = nI 0 := (f5.i _ _ (no5 _)).trans ((qn_ne e4 (Or.inr (by decide))).trans ((qn_ne e3 (Or.inr (by decide))).trans (qn_eq e2)))
    exact l_rf 13 (q_s0 T) 0 _ σ5 rfl (by omega) u ((((hs.fr f1).fr f2).fr f3).fr f4 |>.fr f5) (Nat.zero_le _) h6 (fun c hc => absurd hc (by omega)) ((fC.f f1).tr ((fC.f f2).tr ((fC.f f3).tr ((fC.f f4).tr (fC.t f5 (by decide))))))
  refine qx_M_in rfl (Nat.le_of_ble_eq_true rfl) ?_
  refine qy_wp_ok (c := CX5_readFrom) (cuts := [26]) vX5_readFrom wX5_readFrom 2000 0 _ _ _ ?_
  refine Exists.intro (nI 0) (And.intro rfl ?_)
  obtain ⟨σ1, eσ1⟩ : ∃ zs, zs = (qx_wi σ a 5 (nI 0)) := ⟨_, rfl⟩
  have fσ1 := qn_wif eσ1
  refine And.intro (by rw [show qx_sh qc_T _ a = _ from hs.2.1]; rfl) (Exists.intro 5 (Exists.intro σ1 (And.intro rfl (And.intro eσ1.symm ?_))))
  refine Exists.intro (nI 0) (And.intro rfl ?_)
  obtain ⟨σ2, eσ2⟩ : ∃ zs, zs = (qx_wi σ1 a 6 (nI 0)) := ⟨_, rfl⟩
  have fσ2 := qn_wif eσ2
  refine And.intro (by rw [show qx_sh qc_T _ a = _ from (fσ1.s _).trans (hs.2.1)]; rfl) (Exists.intro 6 (Exists.intro σ2 (And.intro rfl (And.intro eσ2.symm ?_))))
  refine Exists.intro (nI 0) (And.intro rfl ?_)
  obtain ⟨σ3, eσ3⟩ : ∃ zs, zs = (qx_wi σ2 a 7 (nI 0)) := ⟨_, rfl⟩
  have fσ3 := qn_wif eσ3
  refine And.intro (by rw [show qx_sh qc_T _ a = _ from (fσ2.s _).trans ((fσ1.s _).trans (hs.2.1))]; rfl) (Exists.intro 7 (Exists.intro σ3 (And.intro rfl (And.intro eσ3.symm ?_))))
  refine Exists.intro (nI 0) (And.intro rfl ?_)
  obtain ⟨σ4, eσ4⟩ : ∃ zs, zs = (qx_wi σ3 a 8 (nI 0)) := ⟨_, rfl⟩
  have fσ4 := qn_wif eσ4
  refine And.intro (by rw [show qx_sh qc_T _ a = _ from (fσ3.s _).trans ((fσ2.s _).trans ((fσ1.s _).trans (hs.2.1)))]; rfl) (And.intro (by decide) (Exists.intro 8 (Exists.intro σ4 (And.intro rfl (And.intro eσ4.symm ?_)))))
  refine And.intro rfl (Exists.intro _ (And.intro (by decide) (qx_M_mono (c_cut hG ((((hT.fr fσ1 (pL_ne (by simp)) (fun j => pL_ne (by simp; omega))).fr fσ2 (pL_ne (by simp)) (fun j => pL_ne (by simp; omega))).fr fσ3 (pL_ne (by simp)) (fun j => pL_ne (by simp; omega))).fr fσ4 (pL_ne (by simp)) (fun j => pL_ne (by simp; omega)))) ?_)))
  rintro _ ρ ⟨rfl, cρ⟩
  refine Exists.intro (nI 0) (And.intro rfl ?_)
  exact key _ _ _ _ _ eσ1 eσ2 eσ3 eσ4 cρ

