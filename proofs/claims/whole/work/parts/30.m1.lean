theorem m_oweOf {G : qx_G} {σ : qx_S} {a b : Nat} (ha : a < 10) (hb : b < 10) : qx_M G qc_T 0 YX12_oweOf [.ref 197, .int (nI a), .int (nI b)] σ (qr (qx_mi σ 207 (154 + 10 * a + b)) σ) := by
  refine qx_M_in rfl (Nat.le_of_ble_eq_true rfl) ?_
  refine qy_wp_ok (c := CX12_oweOf) (cuts := []) vX12_oweOf wX12_oweOf 2000 0 _ _ _ ?_
  refine And.intro rfl (Exists.intro 207 (And.intro rfl ?_))
  refine Exists.intro (nI 154) (And.intro rfl ?_)
  refine Exists.intro (nI 10) (And.intro rfl ?_)
  refine Exists.intro (nI (10 * a)) (And.intro (pk_mul _ _) ?_)
  refine Exists.intro (nI (154 + 10 * a)) (And.intro (nI_add _ _) ?_)
  refine Exists.intro (nI (154 + 10 * a + b)) (And.intro (nI_add _ _) ?_)
  refine Exists.intro (154 + 10 * a + b) (Exists.intro (qx_mi σ 207 (154 + 10 * a + b)) (And.intro rfl (And.intro ⟨2788, rfl, by omega, by decide⟩ (And.intro rfl ?_))))
  exact ⟨rfl, rfl⟩
theorem m_at {G : qx_G} {σ : qx_S} {p : Nat} (hp : p < 10) : qx_M G qc_T 0 YX12_at [.ref 197, .int (nI p)] σ (qr (qx_mi σ 207 (10 + 5 * p)) σ) := by
  refine qx_M_in rfl (Nat.le_of_ble_eq_true rfl) ?_
  refine qy_wp_ok (c := CX12_at) (cuts := []) vX12_at wX12_at 2000 0 _ _ _ ?_
  refine And.intro rfl (Exists.intro 207 (And.intro rfl ?_))
  refine Exists.intro (nI 10) (And.intro rfl ?_)
  refine Exists.intro (nI 5) (And.intro rfl ?_)
  refine Exists.intro (nI (5 * p)) (And.intro (pk_mul _ _) ?_)
  refine Exists.intro (nI (10 + 5 * p)) (And.intro (nI_add _ _) ?_)
  refine Exists.intro (10 + 5 * p) (Exists.intro (qx_mi σ 207 (10 + 5 * p)) (And.intro rfl (And.intro ⟨2788, rfl, by omega, by decide⟩ (And.intro rfl ?_))))
  exact ⟨rfl, rfl⟩
theorem l_owesInAll {G : qx_G} {σ : qx_S} {p n : Nat} (hp : p < 10) (hn : n ≤ 10) (e1 : qx_mi σ 207 1 = nI n) : ∀ (m k : Nat) (acc : Int32), m = n - k → k ≤ n → acc = q_sum (fun k => qx_mi σ 207 (154 + 10 * p + k)) k →
   qx_K G qc_T 1 RX12 YX12_owesInAll 4 [.ref 197, .int (nI p), .int acc, .int (nI k)] [] σ (qr (q_sum (fun k => qx_mi σ 207 (154 + 10 * p + k)) n) σ) := by
  intro m
  induction m using Nat.strongRecOn with
  | _ m ih =>
    intro k acc hm hk ha
    refine qy_wp_ok (c := CX12_owesInAll) (cuts := [4]) vX12_owesInAll wX12_owesInAll 2000 4 _ _ _ ?_
    refine And.intro rfl (Exists.intro 207 (And.intro rfl ?_))
    refine Exists.intro (nI 1) (And.intro rfl ?_)
    refine Exists.intro (1) (Exists.intro (nI n) (And.intro rfl (And.intro ⟨2788, rfl, by decide, by decide⟩ (And.intro e1 ?_))))
    refine And.intro (fun h11 => ?_) (fun h11 => ?_)
    · skip
      have h11 := nI_leT (by omega) (by omega) h11
      exact ⟨by rw [ha, show k = n by omega], rfl⟩
    · skip
      have h11 := nI_leF (by omega) (by omega) h11
      refine And.intro rfl (Exists.intro _ (And.intro (by decide) (qx_M_mono (m_oweOf (a := p) (b := k) (by omega) (by omega)) ?_)))
      rintro _ _ ⟨rfl, rfl⟩
      refine Exists.intro (acc + (qx_mi σ 207 (154 + 10 * p + k))) (And.intro rfl ?_)
      refine Exists.intro (nI (k + 1)) (And.intro (nI_add _ _) ?_)
      exact ih (n - (k + 1)) (by omega) (k + 1) _ rfl (by omega) (by rw [ha]; rfl)
theorem m_owesInAll {G : qx_G} {σ : qx_S} {p n : Nat} (hp : p < 10) (hn : n ≤ 10) (e1 : qx_mi σ 207 1 = nI n) : qx_M G qc_T 1 YX12_owesInAll [.ref 197, .int (nI p)] σ (qr (q_sum (fun k => qx_mi σ 207 (154 + 10 * p + k)) n) σ) := by
  refine qx_M_in rfl (Nat.le_of_ble_eq_true rfl) ?_
  refine qy_wp_ok (c := CX12_owesInAll) (cuts := [4]) vX12_owesInAll wX12_owesInAll 2000 0 _ _ _ ?_
  refine Exists.intro (nI 0) (And.intro rfl ?_)
  refine Exists.intro (nI 0) (And.intro rfl ?_)
  exact l_owesInAll hp hn e1 _ 0 _ rfl (by omega) rfl

