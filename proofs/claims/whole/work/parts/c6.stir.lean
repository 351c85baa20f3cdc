/-! THE CLASS: the laws are renewed -/
theorem c_renew {G : qx_G} {σ : qx_S} {a e : Nat} (h8 : qx_mi σ 156 8 = nI e) : qx_M G qc_T 0 YX2_renew [.ref 156, .ref a] σ (fun r s' => r = none ∧ s' = qx_wi (qx_wr σ 156 7 (some a)) 156 8 (nI (e + 1))) := by
  refine qx_M_in rfl (Nat.le_of_ble_eq_true rfl) ?_
  refine qy_wp_ok (c := CX2_renew) (cuts := []) vX2_renew wX2_renew 2000 0 _ _ _ ?_
  refine And.intro rfl (Exists.intro 7 (Exists.intro (qx_wr σ 156 7 (some a)) (And.intro rfl (And.intro rfl ?_))))
  refine And.intro rfl (Exists.intro 8 (Exists.intro (nI e) (And.intro rfl (And.intro h8 ?_))))
  refine Exists.intro (nI 1) (And.intro rfl ?_)
  refine Exists.intro (nI (e + 1)) (And.intro (nI_add _ _) ?_)
  obtain ⟨σ1, eσ1⟩ : ∃ zs, zs = (qx_wi (qx_wr σ 156 7 (some a)) 156 8 (nI (e + 1))) := ⟨_, rfl⟩
  have fσ1 := qn_wif eσ1
  refine And.intro rfl (Exists.intro 8 (Exists.intro σ1 (And.intro rfl (And.intro eσ1.symm ?_))))
  exact ⟨rfl, eσ1⟩

