/-! THE REFERENCE: situations, slots -/
theorem l_slotOf {G : qx_G} {σ : qx_S} {code sl : Nat → Nat} {size n : Nat} (hs : size ≤ 2001) (H : hI q_h1 code size sl) (hsl : ∀ j, j < 4096 → qx_mi σ 224 j = nI (sl j)) (hcd : ∀ i, i < size → qx_mi σ 219 i = nI (code i) ∧ code i < 1073741824) (hn : n < 1073741824) {D : Nat} (hD : D < 4096) (hD0 : sl ((q_h1 n + D) % 4096) = 0) : ∀ (m d : Nat), m = D - d → d ≤ D → (∀ t, t < d → sl ((q_h1 n + t) % 4096) ≠ 0 ∧ code (sl ((q_h1 n + t) % 4096) - 1) ≠ n) →
    qx_K G qc_T 0 RX12 YX12_slotOf 16 [.ref 197, .int (nI n), .int (nI ((q_h1 n + d) % 4096))] [] σ (fun r s => ∃ j, j < 4096 ∧ r = some (.int (nI j)) ∧ hE q_h1 code sl n j ∧ σ = s) := by
  intro m
  induction m using Nat.strongRecOn with
  | _ m ih =>
    intro d hm hd hp
    have hj : (q_h1 n + d) % 4096 < 4096 := Nat.mod_lt _ (by decide)
    have hl := H.1 _ hj
    have en : ((q_h1 n + d) % 4096 + 1) % 4096 = (q_h1 n + (d + 1)) % 4096 := by omega
    rcases Nat.eq_zero_or_pos (sl ((q_h1 n + d) % 4096)) with h0 | h0
    · skip
      refine qy_wp_ok (c := CX12_slotOf) (cuts := [16]) vX12_slotOf wX12_slotOf 2000 16 _ _ _ ?_
      refine And.intro rfl (Exists.intro 224 (And.intro rfl ?_))
      refine Exists.intro ((q_h1 n + d) % 4096) (Exists.intro (nI (sl ((q_h1 n + d) % 4096))) (And.intro rfl (And.intro ⟨4096, rfl, by omega, by decide⟩ (And.intro (hsl _ hj) ?_))))
      refine And.intro (fun h22 => ?_) (fun h22 => ?_)
      · skip
        have h22 := nI_leT (a := sl ((q_h1 n + d) % 4096)) (b := 0) (by omega) (by decide) h22
        exact ⟨_, hj, rfl, ⟨d, by omega, rfl, hp, Or.inl h0⟩, rfl⟩
      · skip
        have h22 := nI_leF (a := sl ((q_h1 n + d) % 4096)) (b := 0) (by omega) (by decide) h22
        exact absurd h22 (by omega)
    · have hlt : d < D := by
        rcases Nat.lt_or_ge d D with z | z
        · exact z
        · exfalso
          have : d = D := by omega
          rw [this] at h0
          omega
      obtain ⟨c1, c2⟩ := hcd (sl ((q_h1 n + d) % 4096) - 1) (by omega)
      refine qy_wp_ok (c := CX12_slotOf) (cuts := [16]) vX12_slotOf wX12_slotOf 2000 16 _ _ _ ?_
      refine And.intro rfl (Exists.intro 224 (And.intro rfl ?_))
      refine Exists.intro ((q_h1 n + d) % 4096) (Exists.intro (nI (sl ((q_h1 n + d) % 4096))) (And.intro rfl (And.intro ⟨4096, rfl, by omega, by decide⟩ (And.intro (hsl _ hj) ?_))))
      refine And.intro (fun h22 => ?_) (fun h22 => ?_)
      · skip
        have h22 := nI_leT (a := sl ((q_h1 n + d) % 4096)) (b := 0) (by omega) (by decide) h22
        exact absurd h22 (by omega)
      · skip
        have h22 := nI_leF (a := sl ((q_h1 n + d) % 4096)) (b := 0) (by omega) (by decide) h22
        refine And.intro rfl (Exists.intro 219 (And.intro rfl ?_))
        refine And.intro rfl (Exists.intro 224 (And.intro rfl ?_))
        refine Exists.intro ((q_h1 n + d) % 4096) (Exists.intro (nI (sl ((q_h1 n + d) % 4096))) (And.intro rfl (And.intro ⟨4096, rfl, by omega, by decide⟩ (And.intro (hsl _ hj) ?_))))
        refine Exists.intro (nI 1) (And.intro rfl ?_)
        refine Exists.intro (nI ((sl ((q_h1 n + d) % 4096)) - 1)) (And.intro (nI_sub (by omega)) ?_)
        refine Exists.intro ((sl ((q_h1 n + d) % 4096)) - 1) (Exists.intro (nI (code (sl ((q_h1 n + d) % 4096) - 1))) (And.intro rfl (And.intro ⟨2001, rfl, by omega, by decide⟩ (And.intro c1 ?_))))
        refine And.intro (fun h39 => ?_) (fun h39 => ?_)
        · skip
          have h39 := nI_eqT (a := code (sl ((q_h1 n + d) % 4096) - 1)) (b := n) (by omega) (by omega) h39
          exact ⟨_, hj, rfl, ⟨d, by omega, rfl, hp, Or.inr h39⟩, rfl⟩
        · skip
          have h39 := nI_neT (a := code (sl ((q_h1 n + d) % 4096) - 1)) (b := n) (by omega) (by omega) h39
          refine Exists.intro (nI 1) (And.intro rfl ?_)
          refine Exists.intro (nI ((q_h1 n + d) % 4096 + 1)) (And.intro (nI_add _ _) ?_)
          refine Exists.intro (nI 4096) (And.intro rfl ?_)
          refine And.intro (by decide) (Exists.intro (nI ((q_h1 n + (d + 1)) % 4096)) (And.intro ((nI_rem (by omega) (by decide)).trans (congrArg nI en)) ?_))
          refine ih _ (by omega) (d + 1) rfl (by omega) (fun t ht => ?_)
          rcases Nat.lt_or_ge t d with z | z
          · exact hp t z
          · obtain rfl : t = d := by omega
            exact ⟨by omega, h39⟩
theorem m_slotOf {G : qx_G} {σ : qx_S} {code sl : Nat → Nat} {size n : Nat} (hs : size ≤ 2001) (H : hI q_h1 code size sl) (hsl : ∀ j, j < 4096 → qx_mi σ 224 j = nI (sl j)) (hcd : ∀ i, i < size → qx_mi σ 219 i = nI (code i) ∧ code i < 1073741824) (hn : n < 1073741824) : qx_M G qc_T 0 YX12_slotOf [.ref 197, .int (nI n)] σ (fun r s => ∃ j, j < 4096 ∧ r = some (.int (nI j)) ∧ hE q_h1 code sl n j ∧ σ = s) := by
  obtain ⟨D, hD, hD0⟩ := H.empty hs n
  have hq : q_h1 n < 4096 := Nat.mod_lt _ (by decide)
  have e0 : q_h1 n = (q_h1 n + 0) % 4096 := by omega
  refine qx_M_in rfl (Nat.le_of_ble_eq_true rfl) ?_
  refine qy_wp_ok (c := CX12_slotOf) (cuts := [16]) vX12_slotOf wX12_slotOf 2000 0 _ _ _ ?_
  refine Exists.intro (nI 11) (And.intro rfl ?_)
  refine Exists.intro (nI (n / 2 ^ 11)) (And.intro (nI_shr (by omega) (by omega)) ?_)
  refine Exists.intro (nI (n ^^^ (n / 2 ^ 11))) (And.intro (nI_xor _ _) ?_)
  refine Exists.intro (nI 21) (And.intro rfl ?_)
  refine Exists.intro (nI (n / 2 ^ 21)) (And.intro (nI_shr (by omega) (by omega)) ?_)
  refine Exists.intro (nI ((n ^^^ (n / 2 ^ 11)) ^^^ (n / 2 ^ 21))) (And.intro (nI_xor _ _) ?_)
  refine Exists.intro (nI 4095) (And.intro rfl ?_)
  refine Exists.intro (nI ((q_h1 n + 0) % 4096)) (And.intro ((nI_and _ _).trans (congrArg nI ((Nat.and_two_pow_sub_one_eq_mod _ 12).trans e0))) ?_)
  exact l_slotOf hs H hsl hcd hn hD hD0 _ 0 rfl (by omega) (fun t ht => absurd ht (by omega))
theorem l_whereAll {G : qx_G} {σ : qx_S} {S : qS} (hS : qx_mi σ 207 = S) (g : gS S) : ∀ (p n : Nat), p ≤ s_n S 1 →
    qx_K G qc_T 1 RX12 YX12_whereAll 11 [.ref 197, .int (nI n), .int (nI p - nI 1)] [] σ (qr (nI (q_hr (s_at S) p n)) σ) := by
  have h10 := g.2.1.2
  intro p
  induction p with
  | zero =>
    intro n hp
    refine qy_wp_ok (c := CX12_whereAll) (cuts := [11]) vX12_whereAll wX12_whereAll 2000 11 _ _ _ ?_
    refine And.intro (fun h12 => ?_) (fun h12 => ?_)
    · skip
      exact ⟨rfl, rfl⟩
    · skip
      exact absurd (by decide) h12
  | succ p ih =>
    intro n hp
    rw [show nI (p + 1) - nI 1 = nI p from nI_sub (by omega)]
    refine qy_wp_ok (c := CX12_whereAll) (cuts := [11]) vX12_whereAll wX12_whereAll 2000 11 _ _ _ ?_
    refine And.intro (fun h12 => ?_) (fun h12 => ?_)
    · skip
      have h12 := nI_ltT (a := p) (b := 0) (by omega) (by decide) h12
      exact absurd h12 (by omega)
    · skip
      have h12 := nI_ltF (a := p) (b := 0) (by omega) (by decide) h12
      refine Exists.intro (nI 8) (And.intro rfl ?_)
      refine Exists.intro (nI (8 * n)) (And.intro (pk_mul _ _) ?_)
      refine And.intro rfl (Exists.intro _ (And.intro (by decide) (qx_M_mono (m_at (p := p) (by omega) ((congrFun hS _).trans (g.2.2 p (by omega)).1)) ?_)))
      rintro _ _ ⟨rfl, rfl⟩
      refine Exists.intro (nI (8 * n + (s_at S p))) (And.intro (nI_add _ _) ?_)
      refine Exists.intro (nI p - nI 1) (And.intro (by rw [show qx_c (-1) = - nI 1 from by decide, ← Int32.sub_eq_add_neg]) ?_)
      exact ih (8 * n + s_at S p) (by omega)
theorem m_whereAll {G : qx_G} {σ : qx_S} {S : qS} (hS : qx_mi σ 207 = S) (g : gS S) : qx_M G qc_T 1 YX12_whereAll [.ref 197] σ (qr (nI (q_en (s_at S) (s_n S 1))) σ) := by
  refine qx_M_in rfl (Nat.le_of_ble_eq_true rfl) ?_
  refine qy_wp_ok (c := CX12_whereAll) (cuts := [11]) vX12_whereAll wX12_whereAll 2000 0 _ _ _ ?_
  refine Exists.intro (nI 0) (And.intro rfl ?_)
  refine And.intro rfl (Exists.intro 207 (And.intro rfl ?_))
  refine Exists.intro (nI 1) (And.intro rfl ?_)
  refine Exists.intro (1) (Exists.intro (nI (s_n S 1)) (And.intro rfl (And.intro ⟨2788, rfl, by decide, by decide⟩ (And.intro ((congrFun hS 1).trans g.2.1.1) ?_))))
  refine Exists.intro (nI 1) (And.intro rfl ?_)
  refine Exists.intro (nI (s_n S 1) - nI 1) (And.intro rfl ?_)
  exact l_whereAll hS g (s_n S 1) 0 (Nat.le_refl _)
theorem q_dg_s (n p : Nat) : n / 8 ^ p / 8 = n / 8 ^ (p + 1) := by rw [Nat.div_div_eq_div_mul, ← Nat.pow_succ]
theorem l_stands {G : qx_G} {σ0 : qx_S} {S : qS} {pe n : Nat} (hpe : pe ≤ 10) (e1 : S 1 = nI pe) (hn : n < 1073741824) : ∀ (m p : Nat) (σ : qx_S), m = pe - p → p ≤ pe → ql [(207, none)] σ0 σ → qx_mi σ 207 = q_pl S (fun p => nI (q_dg n p)) p →
    qx_K G qc_T 0 RX12 YX12_stands 4 [.ref 197, .retAddr 0, .int (nI (n / 8 ^ p)), .int (nI p)] [] σ (fun r s => r = none ∧ ql [(207, none)] σ0 s ∧ qx_mi s 207 = q_pl S (fun p => nI (q_dg n p)) pe) := by
  intro m
  induction m using Nat.strongRecOn with
  | _ m ih =>
    intro p σ hm hp hf hS
    have hd : n / 8 ^ p ≤ n := Nat.div_le_self _ _
    have hs1 : q_pl S (fun p => nI (q_dg n p)) p 1 = S 1 := if_neg (by omega)
    refine qy_wp_ok (c := CX12_stands) (cuts := [4]) vX12_stands wX12_stands 2000 4 _ _ _ ?_
    refine And.intro rfl (Exists.intro 207 (And.intro rfl ?_))
    refine Exists.intro (nI 1) (And.intro rfl ?_)
    refine Exists.intro (1) (Exists.intro (nI pe) (And.intro rfl (And.intro ⟨2788, rfl, by decide, by decide⟩ (And.intro ((congrFun hS 1).trans (hs1.trans e1)) ?_))))
    refine And.intro (fun h11 => ?_) (fun h11 => ?_)
    · skip
      have h11 := nI_leT (a := pe) (b := p) (by omega) (by omega) h11
      exact ⟨rfl, hf, by rw [hS, show p = pe by omega]⟩
    · skip
      have h11 := nI_leF (a := pe) (b := p) (by omega) (by omega) h11
      refine And.intro rfl (Exists.intro 207 (And.intro rfl ?_))
      refine Exists.intro (nI 10) (And.intro rfl ?_)
      refine Exists.intro (nI 5) (And.intro rfl ?_)
      refine Exists.intro (nI (5 * p)) (And.intro (pk_mul _ _) ?_)
      refine Exists.intro (nI (10 + 5 * p)) (And.intro (nI_add _ _) ?_)
      refine Exists.intro (nI 8) (And.intro rfl ?_)
      refine And.intro (by decide) (Exists.intro (nI (q_dg n p)) (And.intro (nI_rem (by omega) (by decide)) ?_))
      obtain ⟨σ1, eσ1⟩ : ∃ zs, zs = (qx_wi σ 207 (10 + 5 * p) (nI (q_dg n p))) := ⟨_, rfl⟩
      have fσ1 := qn_wi eσ1
      refine Exists.intro (10 + 5 * p) (Exists.intro σ1 (And.intro rfl (And.intro ⟨2788, rfl, by omega, by decide⟩ (And.intro eσ1.symm ?_))))
      have hf_σ1 : ql [(207, none)] σ0 σ1 := hf.tr fσ1
      refine Exists.intro (nI 8) (And.intro rfl ?_)
      refine And.intro (by decide) (Exists.intro (nI (n / 8 ^ (p + 1))) (And.intro ((nI_div (by omega) (by decide)).trans (congrArg nI (q_dg_s n p))) ?_))
      refine Exists.intro (nI (p + 1)) (And.intro (nI_add _ _) ?_)
      exact ih _ (by omega) (p + 1) _ rfl (by omega) hf_σ1 ((qn_rowS eσ1 hS).trans (q_pl_s S (fun p => nI (q_dg n p)) p).symm)
theorem m_stands {G : qx_G} {σ : qx_S} {S : qS} (hS : qx_mi σ 207 = S) {pe n : Nat} (hpe : pe ≤ 10) (e1 : S 1 = nI pe) (hn : n < 1073741824) : qx_M G qc_T 0 YX12_stands [.ref 197, .int (nI n)] σ (fun r s => r = none ∧ ql [(207, none)] σ s ∧ qx_mi s 207 = q_pl S (fun p => nI (q_dg n p)) pe) := by
  refine qx_M_in rfl (Nat.le_of_ble_eq_true rfl) ?_
  refine qy_wp_ok (c := CX12_stands) (cuts := [4]) vX12_stands wX12_stands 2000 0 _ _ _ ?_
  refine Exists.intro (nI 0) (And.intro rfl ?_)
  refine qx_K_le (ls := [.ref 197, .retAddr 0, .int (nI n), .int (nI 0)]) ⟨Or.inr rfl, Or.inl rfl, Or.inr rfl, Or.inr rfl, trivial⟩ ?_
  have k := l_stands (G := G) hpe e1 hn _ 0 σ rfl (by omega) qf.rf (hS.trans (q_pl_0 _ _).symm)
  rw [show n / 8 ^ 0 = n by rw [Nat.pow_zero, Nat.div_one]] at k
  exact k

