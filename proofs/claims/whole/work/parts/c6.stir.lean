/-! THE CLASS: the laws are renewed -/
theorem c_renew {G : qx_G} {σ : qx_S} {a e : Nat} (h8 : qx_mi σ 156 8 = nI e) : qx_M G qc_T 0 YX2_renew [.ref 156, .ref a] σ (fun r s' => r = none ∧ s' = qx_wi (qx_wr σ 156 7 (some a)) 156 8 (nI (e + 1))) := by
  refine qx_M_in rfl (Nat.le_of_ble_eq_true rfl) ?_
  refine qy_wp_ok (c := CX2_renew) (cuts := []) vX2_renew wX2_renew 2000 0 _ _ _ ?_
  refine And.intro rfl (Exists.intro 7 (Exists.intro (qx_wr σ 156 7 (some a)) (And.intro rfl (And.intro rfl ?_))))
  refine And.intro rfl (Exists.intro 8 (Exists.intro (nI e) (And.intro rfl (And.intro h8 ?_))))
  refine Exists.intro (nI 1) (And.intro rfl ?_)
  refine Exists.intro (nI (e + 1)) (And.intro (nI_add _ _) ?_)
  obtain ⟨σ1, eσ1⟩ : ∃ zs, zs = (qx_wi (qx_wr σ 156 7 (some a)) 156 8 (nI (e + 1))) := ⟨_, rfl⟩
  have fσ1 := qn_wif eσ1
  refine And.intro rfl (Exists.intro 8 (Exists.intro σ1 (And.intro rfl (And.intro eσ1.symm ?_))))
  exact ⟨rfl, eσ1⟩
theorem c_renew0 {G : qx_G} {σ : qx_S} {e : Nat} (h8 : qx_mi σ 156 8 = nI e) : qx_M G qc_T 0 YX2_renew [.ref 156, .null] σ (fun r s' => r = none ∧ s' = qx_wi (qx_wr σ 156 7 none) 156 8 (nI (e + 1))) := by
  refine qx_M_in rfl (Nat.le_of_ble_eq_true rfl) ?_
  refine qy_wp_ok (c := CX2_renew) (cuts := []) vX2_renew wX2_renew 2000 0 _ _ _ ?_
  refine And.intro rfl (Exists.intro 7 (Exists.intro (qx_wr σ 156 7 none) (And.intro rfl (And.intro rfl ?_))))
  refine And.intro rfl (Exists.intro 8 (Exists.intro (nI e) (And.intro rfl (And.intro h8 ?_))))
  refine Exists.intro (nI 1) (And.intro rfl ?_)
  refine Exists.intro (nI (e + 1)) (And.intro (nI_add _ _) ?_)
  obtain ⟨σ1, eσ1⟩ : ∃ zs, zs = (qx_wi (qx_wr σ 156 7 none) 156 8 (nI (e + 1))) := ⟨_, rfl⟩
  have fσ1 := qn_wif eσ1
  refine And.intro rfl (Exists.intro 8 (Exists.intro σ1 (And.intro rfl (And.intro eσ1.symm ?_))))
  exact ⟨rfl, eσ1⟩
theorem c_stir {G : qx_G} {σ : qx_S} {e f nr x : Nat} (h8 : qx_mi σ 156 8 = nI e) (h9 : qx_mi σ 15 9 = nI f) (h15 : qx_mi σ 3 15 = nI nr) (hn : nr ≤ 6) (hf : f < nr) (hr : qx_mr σ 14 f = some x) : qx_M G qc_T 1 YX11_stir [.ref 3] σ (fun r s' => r = none ∧ s' = qx_wi (qx_wr σ 156 7 (some x)) 156 8 (nI (e + 1))) := by
  refine qx_M_in rfl (Nat.le_of_ble_eq_true rfl) ?_
  refine qy_wp_ok (c := CX11_stir) (cuts := []) vX11_stir wX11_stir 2000 0 _ _ _ ?_
  refine And.intro rfl (Exists.intro 15 (And.intro rfl ?_))
  refine And.intro rfl (Exists.intro 9 (Exists.intro (nI f) (And.intro rfl (And.intro h9 ?_))))
  refine And.intro rfl (Exists.intro 156 (And.intro rfl ?_))
  refine And.intro (fun h13 => ?_) (fun h13 => ?_)
  · skip
    have h13 := nI_ltT (a := f) (b := 0) (by omega) (by decide) h13
    exact absurd h13 (by omega)
  · skip
    have h13 := nI_ltF (a := f) (b := 0) (by omega) (by decide) h13
    refine And.intro rfl (Exists.intro 15 (Exists.intro (nI nr) (And.intro rfl (And.intro h15 ?_))))
    refine And.intro (fun h21 => ?_) (fun h21 => ?_)
    · skip
      have h21 := nI_leT (a := nr) (b := f) (by omega) (by omega) h21
      exact absurd h21 (by omega)
    · skip
      have h21 := nI_leF (a := nr) (b := f) (by omega) (by omega) h21
      refine And.intro rfl (Exists.intro 14 (And.intro rfl ?_))
      refine Exists.intro (f) (Exists.intro (some x) (Exists.intro 5 (And.intro rfl (And.intro ⟨⟨6, rfl, by omega, by decide⟩, by decide, by decide⟩ (And.intro hr ?_)))))
      refine And.intro rfl (Exists.intro _ (And.intro (by decide) (qx_M_mono (c_renew h8) ?_)))
      rintro _ ρ ⟨rfl, eρ⟩
      exact ⟨rfl, eρ⟩
theorem c_stir0 {G : qx_G} {σ : qx_S} {e : Nat} (h8 : qx_mi σ 156 8 = nI e) (h9 : qx_mi σ 15 9 = -1) : qx_M G qc_T 1 YX11_stir [.ref 3] σ (fun r s' => r = none ∧ s' = qx_wi (qx_wr σ 156 7 none) 156 8 (nI (e + 1))) := by
  refine qx_M_in rfl (Nat.le_of_ble_eq_true rfl) ?_
  refine qy_wp_ok (c := CX11_stir) (cuts := []) vX11_stir wX11_stir 2000 0 _ _ _ ?_
  refine And.intro rfl (Exists.intro 15 (And.intro rfl ?_))
  refine And.intro rfl (Exists.intro 9 (Exists.intro (-1) (And.intro rfl (And.intro h9 ?_))))
  refine And.intro rfl (Exists.intro 156 (And.intro rfl ?_))
  refine And.intro (fun h13 => ?_) (fun h13 => ?_)
  · skip
    refine And.intro rfl (Exists.intro _ (And.intro (by decide) (qx_M_mono (c_renew0 h8) ?_)))
    rintro _ ρ ⟨rfl, eρ⟩
    exact ⟨rfl, eρ⟩
  · skip
    exact absurd (by decide) h13

