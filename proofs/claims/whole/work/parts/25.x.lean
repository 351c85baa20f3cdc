theorem m_at {G : qx_G} {σ : qx_S} {p : Nat} (hp : p < 10) : qx_M G qc_T 0 YX12_at [.ref 197, .int (nI p)] σ (fun r σ' => r = some (.int (qx_mi σ 207 (10 + 5 * p))) ∧ σ' = σ) := by
  refine qx_M_in rfl (by decide) ?_
  refine qx_wp_ok (c := CX12_at) (cuts := []) vX12_at wX12_at 20 0 _ _ _ ?_
  have e : (qx_c 10 + qx_c 5 * nI p : Int32) = nI (10 + 5 * p) := by
    show nI 10 + nI 5 * nI p = _
    rw [pk_mul, nI_add]
  refine And.intro ?_ ?_
  · rw [e]
    exact vp_in_nI (by show 10 + 5 * p < 2788; omega) (by decide)
  · rw [e]
    refine ⟨?_, rfl⟩
    rw [nI_clamp (by omega)]
