/-! THE REFERENCE: rings -/
theorem l_takesCalled {G : qx_G} {σ0 : qx_S} {S : qS} {n : Nat} (hn : n ≤ 6) : ∀ (m k : Nat) (σ : qx_S), m = n - k → k ≤ n → ql [(208, none), (197, some 24)] σ0 σ → qx_mi σ 207 = S → qx_mi σ 197 24 = nI n → (∀ j, j < k → qx_mi σ 208 j = S (148 + j)) →
    qx_K G qc_T 0 RX12 YX12_takesCalled 12 [.ref 197, .int (nI k)] [] σ (fun r s => r = none ∧ ql [(208, none), (197, some 24)] σ0 s ∧ qx_mi s 197 24 = nI n ∧ ∀ j, j < n → qx_mi s 208 j = S (148 + j)) := by
  intro m
  induction m using Nat.strongRecOn with
  | _ m ih =>
    intro k σ hm hk hf hS e24 hj
    refine qy_wp_ok (c := CX12_takesCalled) (cuts := [12]) vX12_takesCalled wX12_takesCalled 2000 12 _ _ _ ?_
    refine And.intro rfl (Exists.intro 24 (Exists.intro (nI n) (And.intro rfl (And.intro e24 ?_))))
    refine And.intro (fun h17 => ?_) (fun h17 => ?_)
    · skip
      have h17 := nI_leT (a := n) (b := k) (by omega) (by omega) h17
      exact ⟨rfl, hf, e24, fun j h => hj j (by omega)⟩
    · skip
      have h17 := nI_leF (a := n) (b := k) (by omega) (by omega) h17
      refine And.intro rfl (Exists.intro 208 (And.intro rfl ?_))
      refine And.intro rfl (Exists.intro 207 (And.intro rfl ?_))
      refine Exists.intro (nI 148) (And.intro rfl ?_)
      refine Exists.intro (nI (148 + k)) (And.intro (nI_add _ _) ?_)
      refine Exists.intro (148 + k) (Exists.intro (S (148 + k)) (And.intro rfl (And.intro ⟨2788, rfl, by omega, by decide⟩ (And.intro (congrFun hS (148 + k)) ?_))))
      obtain ⟨σ1, eσ1⟩ : ∃ zs, zs = (qx_wi σ 208 k (S (148 + k))) := ⟨_, rfl⟩
      have fσ1 := qn_wi eσ1
      refine Exists.intro (k) (Exists.intro σ1 (And.intro rfl (And.intro ⟨6, rfl, by omega, by decide⟩ (And.intro eσ1.symm ?_))))
      have hS_σ1 : qx_mi σ1 207 = S := (fσ1.row 207 (fun _ => rfl)).trans hS
      have hf_σ1 : ql [(208, none), (197, some 24)] σ0 σ1 := hf.tr (fσ1.mn rfl)
      refine Exists.intro (nI (k + 1)) (And.intro (nI_add _ _) ?_)
      refine ih (n - (k + 1)) (by omega) (k + 1) _ rfl (by omega) hf_σ1 hS_σ1 ((fσ1.i _ _ rfl).trans e24) (fun j h => ?_)
      rcases Nat.lt_or_ge j k with z | z
      · exact (qn_ne eσ1 (Or.inr (by omega))).trans (hj j z)
      · obtain rfl : j = k := by omega
        exact qn_eq eσ1
theorem m_takesCalled {G : qx_G} {σ : qx_S} {S : qS} (hS : qx_mi σ 207 = S) {n : Nat} (hn : n ≤ 6) (h4 : S 4 = nI n) : qx_M G qc_T 0 YX12_takesCalled [.ref 197] σ (fun r s => r = none ∧ ql [(208, none), (197, some 24)] σ s ∧ qx_mi s 197 24 = nI n ∧ ∀ j, j < n → qx_mi s 208 j = S (148 + j)) := by
  refine qx_M_in rfl (Nat.le_of_ble_eq_true rfl) ?_
  refine qy_wp_ok (c := CX12_takesCalled) (cuts := [12]) vX12_takesCalled wX12_takesCalled 2000 0 _ _ _ ?_
  refine And.intro rfl (Exists.intro 207 (And.intro rfl ?_))
  refine Exists.intro (nI 4) (And.intro rfl ?_)
  refine Exists.intro (4) (Exists.intro (nI n) (And.intro rfl (And.intro ⟨2788, rfl, by decide, by decide⟩ (And.intro ((congrFun hS 4).trans h4) ?_))))
  obtain ⟨σ1, eσ1⟩ : ∃ zs, zs = (qx_wi σ 197 24 (nI n)) := ⟨_, rfl⟩
  have fσ1 := qn_wif eσ1
  refine And.intro rfl (Exists.intro 24 (Exists.intro σ1 (And.intro rfl (And.intro eσ1.symm ?_))))
  have hS_σ1 : qx_mi σ1 207 = S := (fσ1.row 207 (fun _ => rfl)).trans hS
  refine Exists.intro (nI 0) (And.intro rfl ?_)
  exact l_takesCalled hn _ 0 σ1 rfl (by omega) (fσ1.mn rfl) hS_σ1 (qn_eq eσ1) (fun j h => absurd h (by omega))
theorem l_takesBooked {G : qx_G} {σ0 : qx_S} {S : qS} {n b : Nat} (hn : n ≤ 6) (hb : b < 12) : ∀ (m k : Nat) (σ : qx_S), m = n - k → k ≤ n → ql [(208, none), (197, some 24)] σ0 σ → qx_mi σ 207 = S → qx_mi σ 197 24 = nI n → (∀ j, j < k → qx_mi σ 208 j = S (254 + 7 * b + 1 + j)) →
    qx_K G qc_T 0 RX12 YX12_takesBooked 19 [.ref 197, .int (nI b), .int (nI k)] [] σ (fun r s => r = none ∧ ql [(208, none), (197, some 24)] σ0 s ∧ qx_mi s 197 24 = nI n ∧ ∀ j, j < n → qx_mi s 208 j = S (254 + 7 * b + 1 + j)) := by
  intro m
  induction m using Nat.strongRecOn with
  | _ m ih =>
    intro k σ hm hk hf hS e24 hj
    refine qy_wp_ok (c := CX12_takesBooked) (cuts := [19]) vX12_takesBooked wX12_takesBooked 2000 19 _ _ _ ?_
    refine And.intro rfl (Exists.intro 24 (Exists.intro (nI n) (And.intro rfl (And.intro e24 ?_))))
    refine And.intro (fun h24 => ?_) (fun h24 => ?_)
    · skip
      have h24 := nI_leT (a := n) (b := k) (by omega) (by omega) h24
      exact ⟨rfl, hf, e24, fun j h => hj j (by omega)⟩
    · skip
      have h24 := nI_leF (a := n) (b := k) (by omega) (by omega) h24
      refine And.intro rfl (Exists.intro 208 (And.intro rfl ?_))
      refine And.intro rfl (Exists.intro 207 (And.intro rfl ?_))
      refine Exists.intro (nI 254) (And.intro rfl ?_)
      refine Exists.intro (nI 7) (And.intro rfl ?_)
      refine Exists.intro (nI (7 * b)) (And.intro (pk_mul _ _) ?_)
      refine Exists.intro (nI (254 + 7 * b)) (And.intro (nI_add _ _) ?_)
      refine Exists.intro (nI 1) (And.intro rfl ?_)
      refine Exists.intro (nI (254 + 7 * b + 1)) (And.intro (nI_add _ _) ?_)
      refine Exists.intro (nI (254 + 7 * b + 1 + k)) (And.intro (nI_add _ _) ?_)
      refine Exists.intro (254 + 7 * b + 1 + k) (Exists.intro (S (254 + 7 * b + 1 + k)) (And.intro rfl (And.intro ⟨2788, rfl, by omega, by decide⟩ (And.intro (congrFun hS (254 + 7 * b + 1 + k)) ?_))))
      obtain ⟨σ1, eσ1⟩ : ∃ zs, zs = (qx_wi σ 208 k (S (254 + 7 * b + 1 + k))) := ⟨_, rfl⟩
      have fσ1 := qn_wi eσ1
      refine Exists.intro (k) (Exists.intro σ1 (And.intro rfl (And.intro ⟨6, rfl, by omega, by decide⟩ (And.intro eσ1.symm ?_))))
      have hS_σ1 : qx_mi σ1 207 = S := (fσ1.row 207 (fun _ => rfl)).trans hS
      have hf_σ1 : ql [(208, none), (197, some 24)] σ0 σ1 := hf.tr (fσ1.mn rfl)
      refine Exists.intro (nI (k + 1)) (And.intro (nI_add _ _) ?_)
      refine ih (n - (k + 1)) (by omega) (k + 1) _ rfl (by omega) hf_σ1 hS_σ1 ((fσ1.i _ _ rfl).trans e24) (fun j h => ?_)
      rcases Nat.lt_or_ge j k with z | z
      · exact (qn_ne eσ1 (Or.inr (by omega))).trans (hj j z)
      · obtain rfl : j = k := by omega
        exact qn_eq eσ1
theorem m_takesBooked {G : qx_G} {σ : qx_S} {S : qS} (hS : qx_mi σ 207 = S) {n b : Nat} (hn : n ≤ 6) (hb : b < 12) (h4 : S (254 + 7 * b) = nI n) : qx_M G qc_T 0 YX12_takesBooked [.ref 197, .int (nI b)] σ (fun r s => r = none ∧ ql [(208, none), (197, some 24)] σ s ∧ qx_mi s 197 24 = nI n ∧ ∀ j, j < n → qx_mi s 208 j = S (254 + 7 * b + 1 + j)) := by
  refine qx_M_in rfl (Nat.le_of_ble_eq_true rfl) ?_
  refine qy_wp_ok (c := CX12_takesBooked) (cuts := [19]) vX12_takesBooked wX12_takesBooked 2000 0 _ _ _ ?_
  refine And.intro rfl (Exists.intro 207 (And.intro rfl ?_))
  refine Exists.intro (nI 254) (And.intro rfl ?_)
  refine Exists.intro (nI 7) (And.intro rfl ?_)
  refine Exists.intro (nI (7 * b)) (And.intro (pk_mul _ _) ?_)
  refine Exists.intro (nI (254 + 7 * b)) (And.intro (nI_add _ _) ?_)
  refine Exists.intro (254 + 7 * b) (Exists.intro (nI n) (And.intro rfl (And.intro ⟨2788, rfl, by omega, by decide⟩ (And.intro ((congrFun hS _).trans h4) ?_))))
  obtain ⟨σ1, eσ1⟩ : ∃ zs, zs = (qx_wi σ 197 24 (nI n)) := ⟨_, rfl⟩
  have fσ1 := qn_wif eσ1
  refine And.intro rfl (Exists.intro 24 (Exists.intro σ1 (And.intro rfl (And.intro eσ1.symm ?_))))
  have hS_σ1 : qx_mi σ1 207 = S := (fσ1.row 207 (fun _ => rfl)).trans hS
  refine Exists.intro (nI 0) (And.intro rfl ?_)
  exact l_takesBooked hn hb _ 0 σ1 rfl (by omega) (fσ1.mn rfl) hS_σ1 (qn_eq eσ1) (fun j h => absurd h (by omega))
theorem l_goRound {G : qx_G} {σ0 : qx_S} {rg : Nat → Nat} {n : Nat} (hn : n ≤ 6) (hr : ∀ k, k < n → rg k < 10) {first : Int32} : ∀ (m k : Nat) (σ : qx_S) (S : qS), m = n - k → k ≤ n → ql [(207, none)] σ0 σ → qx_mi σ 207 = S → mG σ rg n →
    qx_K G qc_T 1 RX12 YX12_goRound 13 [.ref 197, .int first, .int (nI k)] [] σ (fun r s => r = none ∧ ql [(207, none)] σ0 s ∧ qx_mi s 207 = q_grc rg n first (n - k) k S) := by
  intro m
  induction m using Nat.strongRecOn with
  | _ m ih =>
    intro k σ S hm hk hf hS hG
    rcases Nat.lt_or_ge k n with hlt | hge
    · have e1 : n - k = (n - (k + 1)) + 1 := by omega
      have hr1 := hr k hlt
      have e2 : q_grc rg n first (n - k) k S = q_grc rg n first (n - (k + 1)) (k + 1) (va_up S (10 + 5 * rg k) (if k + 1 < n then S (10 + 5 * rg (k + 1)) else first)) := by rw [e1]; rfl
      rw [e2]
      rcases Nat.lt_or_ge (k + 1) n with hl2 | hg2
      · have hr2 := hr (k + 1) hl2
        rw [if_pos hl2]
        refine qy_wp_ok (c := CX12_goRound) (cuts := [13]) vX12_goRound wX12_goRound 2000 13 _ _ _ ?_
        refine And.intro rfl (Exists.intro 24 (Exists.intro (nI n) (And.intro rfl (And.intro (hG.1) ?_))))
        refine And.intro (fun h18 => ?_) (fun h18 => ?_)
        · skip
          have h18 := nI_leT (a := n) (b := k) (by omega) (by omega) h18
          exact absurd h18 (by omega)
        · skip
          have h18 := nI_leF (a := n) (b := k) (by omega) (by omega) h18
          refine And.intro rfl (Exists.intro 207 (And.intro rfl ?_))
          refine Exists.intro (nI 10) (And.intro rfl ?_)
          refine Exists.intro (nI 5) (And.intro rfl ?_)
          refine And.intro rfl (Exists.intro 208 (And.intro rfl ?_))
          refine Exists.intro (k) (Exists.intro (nI (rg k)) (And.intro rfl (And.intro ⟨6, rfl, by omega, by decide⟩ (And.intro (hG.2 k hlt) ?_))))
          refine Exists.intro (nI (5 * (rg k))) (And.intro (pk_mul _ _) ?_)
          refine Exists.intro (nI (10 + 5 * (rg k))) (And.intro (nI_add _ _) ?_)
          refine Exists.intro (nI 1) (And.intro rfl ?_)
          refine Exists.intro (nI (k + 1)) (And.intro (nI_add _ _) ?_)
          refine And.intro rfl (Exists.intro 24 (Exists.intro (nI n) (And.intro rfl (And.intro (hG.1) ?_))))
          refine And.intro (fun h43 => ?_) (fun h43 => ?_)
          · skip
            have h43 := nI_leT (a := n) (b := k + 1) (by omega) (by omega) h43
            exact absurd h43 (by omega)
          · skip
            have h43 := nI_leF (a := n) (b := k + 1) (by omega) (by omega) h43
            refine And.intro rfl (Exists.intro 208 (And.intro rfl ?_))
            refine Exists.intro (nI 1) (And.intro rfl ?_)
            refine Exists.intro (nI (k + 1)) (And.intro (nI_add _ _) ?_)
            refine Exists.intro (k + 1) (Exists.intro (nI (rg (k + 1))) (And.intro rfl (And.intro ⟨6, rfl, by omega, by decide⟩ (And.intro (hG.2 _ hl2) ?_))))
            refine And.intro rfl (Exists.intro _ (And.intro (by decide) (qx_M_mono (m_at (p := (rg (k + 1))) (by omega) (congrFun hS (10 + 5 * (rg (k + 1))))) ?_)))
            rintro _ _ ⟨rfl, rfl⟩
            obtain ⟨σ1, eσ1⟩ : ∃ zs, zs = (qx_wi σ 207 (10 + 5 * (rg k)) (S (10 + 5 * (rg (k + 1))))) := ⟨_, rfl⟩
            have fσ1 := qn_wi eσ1
            refine Exists.intro (10 + 5 * (rg k)) (Exists.intro σ1 (And.intro rfl (And.intro ⟨2788, rfl, by omega, by decide⟩ (And.intro eσ1.symm ?_))))
            have hf_σ1 : ql [(207, none)] σ0 σ1 := hf.tr fσ1
            have hG_σ1 : mG σ1 rg n := hG.fr fσ1 rfl (fun _ => rfl)
            have hS_σ1 : qx_mi σ1 207 = va_up S (10 + 5 * rg k) (S (10 + 5 * (rg (k + 1)))) := qn_rowS eσ1 hS
            refine Exists.intro (nI (k + 1)) (And.intro (nI_add _ _) ?_)
            exact ih (n - (k + 1)) (by omega) (k + 1) _ _ rfl (by omega) hf_σ1 hS_σ1 hG_σ1
      · rw [if_neg (by omega)]
        refine qy_wp_ok (c := CX12_goRound) (cuts := [13]) vX12_goRound wX12_goRound 2000 13 _ _ _ ?_
        refine And.intro rfl (Exists.intro 24 (Exists.intro (nI n) (And.intro rfl (And.intro (hG.1) ?_))))
        refine And.intro (fun h18 => ?_) (fun h18 => ?_)
        · skip
          have h18 := nI_leT (a := n) (b := k) (by omega) (by omega) h18
          exact absurd h18 (by omega)
        · skip
          have h18 := nI_leF (a := n) (b := k) (by omega) (by omega) h18
          refine And.intro rfl (Exists.intro 207 (And.intro rfl ?_))
          refine Exists.intro (nI 10) (And.intro rfl ?_)
          refine Exists.intro (nI 5) (And.intro rfl ?_)
          refine And.intro rfl (Exists.intro 208 (And.intro rfl ?_))
          refine Exists.intro (k) (Exists.intro (nI (rg k)) (And.intro rfl (And.intro ⟨6, rfl, by omega, by decide⟩ (And.intro (hG.2 k hlt) ?_))))
          refine Exists.intro (nI (5 * (rg k))) (And.intro (pk_mul _ _) ?_)
          refine Exists.intro (nI (10 + 5 * (rg k))) (And.intro (nI_add _ _) ?_)
          refine Exists.intro (nI 1) (And.intro rfl ?_)
          refine Exists.intro (nI (k + 1)) (And.intro (nI_add _ _) ?_)
          refine And.intro rfl (Exists.intro 24 (Exists.intro (nI n) (And.intro rfl (And.intro (hG.1) ?_))))
          refine And.intro (fun h43 => ?_) (fun h43 => ?_)
          · skip
            have h43 := nI_leT (a := n) (b := k + 1) (by omega) (by omega) h43
            obtain ⟨σ1, eσ1⟩ : ∃ zs, zs = (qx_wi σ 207 (10 + 5 * (rg k)) first) := ⟨_, rfl⟩
            have fσ1 := qn_wi eσ1
            refine Exists.intro (10 + 5 * (rg k)) (Exists.intro σ1 (And.intro rfl (And.intro ⟨2788, rfl, by omega, by decide⟩ (And.intro eσ1.symm ?_))))
            have hf_σ1 : ql [(207, none)] σ0 σ1 := hf.tr fσ1
            have hG_σ1 : mG σ1 rg n := hG.fr fσ1 rfl (fun _ => rfl)
            have hS_σ1 : qx_mi σ1 207 = va_up S (10 + 5 * rg k) first := qn_rowS eσ1 hS
            refine Exists.intro (nI (k + 1)) (And.intro (nI_add _ _) ?_)
            exact ih (n - (k + 1)) (by omega) (k + 1) _ _ rfl (by omega) hf_σ1 hS_σ1 hG_σ1
          · skip
            have h43 := nI_leF (a := n) (b := k + 1) (by omega) (by omega) h43
            exact absurd h43 (by omega)
    · obtain rfl : k = n := by omega
      rw [Nat.sub_self]
      refine qy_wp_ok (c := CX12_goRound) (cuts := [13]) vX12_goRound wX12_goRound 2000 13 _ _ _ ?_
      refine And.intro rfl (Exists.intro 24 (Exists.intro (nI k) (And.intro rfl (And.intro hG.1 ?_))))
      refine And.intro (fun h18 => ?_) (fun h18 => ?_)
      · skip
        have h18 := nI_leT (a := k) (b := k) (by omega) (by omega) h18
        exact ⟨rfl, hf, hS⟩
      · skip
        have h18 := nI_leF (a := k) (b := k) (by omega) (by omega) h18
        exact absurd h18 (by omega)
theorem m_goRound {G : qx_G} {σ : qx_S} {S : qS} (hS : qx_mi σ 207 = S) {rg : Nat → Nat} {n : Nat} (h0 : 0 < n) (hn : n ≤ 6) (hr : ∀ k, k < n → rg k < 10) (hG : mG σ rg n) : qx_M G qc_T 1 YX12_goRound [.ref 197] σ (fun r s => r = none ∧ ql [(207, none)] σ s ∧ qx_mi s 207 = q_gr rg n S) := by
  have hr0 := hr 0 h0
  refine qx_M_in rfl (Nat.le_of_ble_eq_true rfl) ?_
  refine qy_wp_ok (c := CX12_goRound) (cuts := [13]) vX12_goRound wX12_goRound 2000 0 _ _ _ ?_
  refine And.intro rfl (Exists.intro 208 (And.intro rfl ?_))
  refine Exists.intro (nI 0) (And.intro rfl ?_)
  refine Exists.intro (0) (Exists.intro (nI (rg 0)) (And.intro rfl (And.intro ⟨6, rfl, by decide, by decide⟩ (And.intro (hG.2 0 h0) ?_))))
  refine And.intro rfl (Exists.intro _ (And.intro (by decide) (qx_M_mono (m_at (p := (rg 0)) (by omega) (congrFun hS (10 + 5 * (rg 0)))) ?_)))
  rintro _ _ ⟨rfl, rfl⟩
  refine Exists.intro (nI 0) (And.intro rfl ?_)
  exact qx_K_mono (l_goRound hn hr _ 0 σ S rfl (by omega) qf.rf hS hG) (fun r s h => h)
theorem l_changes {G : qx_G} {σ0 : qx_S} {rg : Nat → Nat} {n : Nat} (h0 : 0 < n) (hn : n ≤ 6) (hr : ∀ k, k < n → rg k < 10) : ∀ (m k : Nat) (σ : qx_S) (S : qS) (c : Int32), m = n - k → k ≤ n → ql [(207, none)] σ0 σ → qx_mi σ 207 = S → mG σ rg n →
    qx_K G qc_T 2 RX12 YX12_changes 4 [.ref 197, .int c, .int (nI k), .retAddr 0, .retAddr 0, .retAddr 0] [] σ (fun r s => r = some (.int (q_chc rg n (n - k) k S c).2) ∧ ql [(207, none)] σ0 s ∧ qx_mi s 207 = va_up (q_gr rg n (q_chc rg n (n - k) k S c).1) 6 ((q_gr rg n (q_chc rg n (n - k) k S c).1) 6 + nI 1)) := by
  intro m
  induction m using Nat.strongRecOn with
  | _ m ih =>
    intro k σ S c hm hk hf hS hG
    rcases Nat.lt_or_ge k n with hlt | hge
    · have e1 : n - k = (n - (k + 1)) + 1 := by omega
      have hr1 := hr k hlt
      have hm1 : (k + 1) % n < n := Nat.mod_lt _ (by omega)
      have hr2 := hr _ hm1
      by_cases hd : 0 < S (10 + 5 * rg k + 1) - S (10 + 5 * rg ((k + 1) % n) + 1)
      · have e2 : q_chc rg n (n - k) k S c = q_chc rg n (n - (k + 1)) (k + 1) (va_up (va_up S (10 + 5 * rg k + 4) (S (10 + 5 * rg k + 4) + nI 1)) (154 + 10 * rg k + rg ((k + 1) % n)) ((va_up S (10 + 5 * rg k + 4) (S (10 + 5 * rg k + 4) + nI 1)) (154 + 10 * rg k + rg ((k + 1) % n)) + (S (10 + 5 * rg k + 1) - S (10 + 5 * rg ((k + 1) % n) + 1)))) (c + (S (10 + 5 * rg k + 1) - S (10 + 5 * rg ((k + 1) % n) + 1))) := by
          rw [e1]
          show (if _ then _ else _) = _
          rw [if_pos hd]
          unfold q_ch1
          simp only [if_pos hd]
        rw [e2]
        refine qy_wp_ok (c := CX12_changes) (cuts := [4]) vX12_changes wX12_changes 2000 4 _ _ _ ?_
        refine And.intro rfl (Exists.intro 24 (Exists.intro (nI n) (And.intro rfl (And.intro (hG.1) ?_))))
        refine And.intro (fun h9 => ?_) (fun h9 => ?_)
        · skip
          have h9 := nI_leT (a := n) (b := k) (by omega) (by omega) h9
          exact absurd h9 (by omega)
        · skip
          have h9 := nI_leF (a := n) (b := k) (by omega) (by omega) h9
          refine And.intro rfl (Exists.intro 208 (And.intro rfl ?_))
          refine Exists.intro (k) (Exists.intro (nI (rg k)) (And.intro rfl (And.intro ⟨6, rfl, by omega, by decide⟩ (And.intro (hG.2 k hlt) ?_))))
          refine And.intro rfl (Exists.intro 208 (And.intro rfl ?_))
          refine Exists.intro (nI 1) (And.intro rfl ?_)
          refine Exists.intro (nI (k + 1)) (And.intro (nI_add _ _) ?_)
          refine And.intro rfl (Exists.intro 24 (Exists.intro (nI n) (And.intro rfl (And.intro (hG.1) ?_))))
          refine And.intro (nI_ne0 (by omega) (by omega)) (Exists.intro (nI ((k + 1) % n)) (And.intro (nI_rem (by omega) (by omega)) ?_))
          refine Exists.intro ((k + 1) % n) (Exists.intro (nI (rg ((k + 1) % n))) (And.intro rfl (And.intro ⟨6, rfl, by omega, by decide⟩ (And.intro (hG.2 _ hm1) ?_))))
          refine Exists.intro (nI 1) (And.intro rfl ?_)
          refine And.intro rfl (Exists.intro _ (And.intro (by decide) (qx_M_mono (m_personOf (p := (rg k)) (k := 1) (by omega) (by omega) (congrFun hS (10 + 5 * (rg k) + 1))) ?_)))
          rintro _ _ ⟨rfl, rfl⟩
          refine Exists.intro (nI 1) (And.intro rfl ?_)
          refine And.intro rfl (Exists.intro _ (And.intro (by decide) (qx_M_mono (m_personOf (p := (rg ((k + 1) % n))) (k := 1) (by omega) (by omega) (congrFun hS (10 + 5 * (rg ((k + 1) % n)) + 1))) ?_)))
          rintro _ _ ⟨rfl, rfl⟩
          refine Exists.intro ((S (10 + 5 * (rg k) + 1)) - (S (10 + 5 * (rg ((k + 1) % n)) + 1))) (And.intro rfl ?_)
          refine And.intro rfl (Exists.intro 207 (And.intro rfl ?_))
          refine Exists.intro (nI 10) (And.intro rfl ?_)
          refine Exists.intro (nI 5) (And.intro rfl ?_)
          refine Exists.intro (nI (5 * (rg k))) (And.intro (pk_mul _ _) ?_)
          refine Exists.intro (nI (10 + 5 * (rg k))) (And.intro (nI_add _ _) ?_)
          refine Exists.intro (nI 4) (And.intro rfl ?_)
          refine Exists.intro (nI (10 + 5 * (rg k) + 4)) (And.intro (nI_add _ _) ?_)
          refine Exists.intro (10 + 5 * (rg k) + 4) (Exists.intro (S (10 + 5 * (rg k) + 4)) (And.intro rfl (And.intro ⟨2788, rfl, by omega, by decide⟩ (And.intro (congrFun hS (10 + 5 * (rg k) + 4)) ?_))))
          refine Exists.intro (nI 1) (And.intro rfl ?_)
          refine Exists.intro ((S (10 + 5 * (rg k) + 4)) + (nI 1)) (And.intro rfl ?_)
          obtain ⟨σ1, eσ1⟩ : ∃ zs, zs = (qx_wi σ 207 (10 + 5 * (rg k) + 4) ((S (10 + 5 * (rg k) + 4)) + (nI 1))) := ⟨_, rfl⟩
          have fσ1 := qn_wi eσ1
          refine Exists.intro (10 + 5 * (rg k) + 4) (Exists.intro σ1 (And.intro rfl (And.intro ⟨2788, rfl, by omega, by decide⟩ (And.intro eσ1.symm ?_))))
          have hf_σ1 : ql [(207, none)] σ0 σ1 := hf.tr fσ1
          have hG_σ1 : mG σ1 rg n := hG.fr fσ1 rfl (fun _ => rfl)
          have hS_σ1 : qx_mi σ1 207 = va_up S (10 + 5 * rg k + 4) ((S (10 + 5 * (rg k) + 4)) + (nI 1)) := qn_rowS eσ1 hS
          refine And.intro (fun h69 => ?_) (fun h69 => ?_)
          · skip
            refine And.intro rfl (Exists.intro 207 (And.intro rfl ?_))
            refine Exists.intro (nI 154) (And.intro rfl ?_)
            refine Exists.intro (nI 10) (And.intro rfl ?_)
            refine Exists.intro (nI (10 * (rg k))) (And.intro (pk_mul _ _) ?_)
            refine Exists.intro (nI (154 + 10 * (rg k))) (And.intro (nI_add _ _) ?_)
            refine Exists.intro (nI (154 + 10 * (rg k) + (rg ((k + 1) % n)))) (And.intro (nI_add _ _) ?_)
            refine Exists.intro (154 + 10 * (rg k) + (rg ((k + 1) % n))) (Exists.intro (va_up S (10 + 5 * rg k + 4) (S (10 + 5 * rg k + 4) + nI 1) (154 + 10 * (rg k) + (rg ((k + 1) % n)))) (And.intro rfl (And.intro ⟨2788, rfl, by omega, by decide⟩ (And.intro (congrFun hS_σ1 (154 + 10 * (rg k) + (rg ((k + 1) % n)))) ?_))))
            refine Exists.intro ((va_up S (10 + 5 * rg k + 4) (S (10 + 5 * rg k + 4) + nI 1) (154 + 10 * (rg k) + (rg ((k + 1) % n)))) + ((S (10 + 5 * (rg k) + 1)) - (S (10 + 5 * (rg ((k + 1) % n)) + 1)))) (And.intro rfl ?_)
            obtain ⟨σ2, eσ2⟩ : ∃ zs, zs = (qx_wi σ1 207 (154 + 10 * (rg k) + (rg ((k + 1) % n))) ((va_up S (10 + 5 * rg k + 4) (S (10 + 5 * rg k + 4) + nI 1) (154 + 10 * (rg k) + (rg ((k + 1) % n)))) + ((S (10 + 5 * (rg k) + 1)) - (S (10 + 5 * (rg ((k + 1) % n)) + 1))))) := ⟨_, rfl⟩
            have fσ2 := qn_wi eσ2
            refine Exists.intro (154 + 10 * (rg k) + (rg ((k + 1) % n))) (Exists.intro σ2 (And.intro rfl (And.intro ⟨2788, rfl, by omega, by decide⟩ (And.intro eσ2.symm ?_))))
            have hf_σ2 : ql [(207, none)] σ0 σ2 := hf_σ1.tr fσ2
            have hG_σ2 : mG σ2 rg n := hG_σ1.fr fσ2 rfl (fun _ => rfl)
            have hS_σ2 : qx_mi σ2 207 = va_up (va_up S (10 + 5 * rg k + 4) (S (10 + 5 * rg k + 4) + nI 1)) (154 + 10 * rg k + rg ((k + 1) % n)) ((va_up S (10 + 5 * rg k + 4) (S (10 + 5 * rg k + 4) + nI 1) (154 + 10 * (rg k) + (rg ((k + 1) % n)))) + ((S (10 + 5 * (rg k) + 1)) - (S (10 + 5 * (rg ((k + 1) % n)) + 1)))) := qn_rowS eσ2 hS_σ1
            refine Exists.intro (c + ((S (10 + 5 * (rg k) + 1)) - (S (10 + 5 * (rg ((k + 1) % n)) + 1)))) (And.intro rfl ?_)
            refine Exists.intro (nI (k + 1)) (And.intro (nI_add _ _) ?_)
            refine qx_K_le (ls := [.ref 197, .int (c + ((S (10 + 5 * (rg k) + 1)) - (S (10 + 5 * (rg ((k + 1) % n)) + 1)))), .int (nI (k + 1)), .retAddr 0, .retAddr 0, .retAddr 0]) ⟨Or.inr rfl, Or.inr rfl, Or.inr rfl, Or.inl rfl, Or.inl rfl, Or.inl rfl, trivial⟩ ?_
            exact ih (n - (k + 1)) (by omega) (k + 1) _ _ _ rfl (by omega) hf_σ2 hS_σ2 hG_σ2
          · skip
            exact absurd hd h69
      · have e2 : q_chc rg n (n - k) k S c = q_chc rg n (n - (k + 1)) (k + 1) (va_up S (10 + 5 * rg k + 4) (S (10 + 5 * rg k + 4) + nI 1)) c := by
          rw [e1]
          show (if _ then _ else _) = _
          rw [if_neg hd]
          unfold q_ch1
          simp only [if_neg hd]
        rw [e2]
        refine qy_wp_ok (c := CX12_changes) (cuts := [4]) vX12_changes wX12_changes 2000 4 _ _ _ ?_
        refine And.intro rfl (Exists.intro 24 (Exists.intro (nI n) (And.intro rfl (And.intro (hG.1) ?_))))
        refine And.intro (fun h9 => ?_) (fun h9 => ?_)
        · skip
          have h9 := nI_leT (a := n) (b := k) (by omega) (by omega) h9
          exact absurd h9 (by omega)
        · skip
          have h9 := nI_leF (a := n) (b := k) (by omega) (by omega) h9
          refine And.intro rfl (Exists.intro 208 (And.intro rfl ?_))
          refine Exists.intro (k) (Exists.intro (nI (rg k)) (And.intro rfl (And.intro ⟨6, rfl, by omega, by decide⟩ (And.intro (hG.2 k hlt) ?_))))
          refine And.intro rfl (Exists.intro 208 (And.intro rfl ?_))
          refine Exists.intro (nI 1) (And.intro rfl ?_)
          refine Exists.intro (nI (k + 1)) (And.intro (nI_add _ _) ?_)
          refine And.intro rfl (Exists.intro 24 (Exists.intro (nI n) (And.intro rfl (And.intro (hG.1) ?_))))
          refine And.intro (nI_ne0 (by omega) (by omega)) (Exists.intro (nI ((k + 1) % n)) (And.intro (nI_rem (by omega) (by omega)) ?_))
          refine Exists.intro ((k + 1) % n) (Exists.intro (nI (rg ((k + 1) % n))) (And.intro rfl (And.intro ⟨6, rfl, by omega, by decide⟩ (And.intro (hG.2 _ hm1) ?_))))
          refine Exists.intro (nI 1) (And.intro rfl ?_)
          refine And.intro rfl (Exists.intro _ (And.intro (by decide) (qx_M_mono (m_personOf (p := (rg k)) (k := 1) (by omega) (by omega) (congrFun hS (10 + 5 * (rg k) + 1))) ?_)))
          rintro _ _ ⟨rfl, rfl⟩
          refine Exists.intro (nI 1) (And.intro rfl ?_)
          refine And.intro rfl (Exists.intro _ (And.intro (by decide) (qx_M_mono (m_personOf (p := (rg ((k + 1) % n))) (k := 1) (by omega) (by omega) (congrFun hS (10 + 5 * (rg ((k + 1) % n)) + 1))) ?_)))
          rintro _ _ ⟨rfl, rfl⟩
          refine Exists.intro ((S (10 + 5 * (rg k) + 1)) - (S (10 + 5 * (rg ((k + 1) % n)) + 1))) (And.intro rfl ?_)
          refine And.intro rfl (Exists.intro 207 (And.intro rfl ?_))
          refine Exists.intro (nI 10) (And.intro rfl ?_)
          refine Exists.intro (nI 5) (And.intro rfl ?_)
          refine Exists.intro (nI (5 * (rg k))) (And.intro (pk_mul _ _) ?_)
          refine Exists.intro (nI (10 + 5 * (rg k))) (And.intro (nI_add _ _) ?_)
          refine Exists.intro (nI 4) (And.intro rfl ?_)
          refine Exists.intro (nI (10 + 5 * (rg k) + 4)) (And.intro (nI_add _ _) ?_)
          refine Exists.intro (10 + 5 * (rg k) + 4) (Exists.intro (S (10 + 5 * (rg k) + 4)) (And.intro rfl (And.intro ⟨2788, rfl, by omega, by decide⟩ (And.intro (congrFun hS (10 + 5 * (rg k) + 4)) ?_))))
          refine Exists.intro (nI 1) (And.intro rfl ?_)
          refine Exists.intro ((S (10 + 5 * (rg k) + 4)) + (nI 1)) (And.intro rfl ?_)
          obtain ⟨σ1, eσ1⟩ : ∃ zs, zs = (qx_wi σ 207 (10 + 5 * (rg k) + 4) ((S (10 + 5 * (rg k) + 4)) + (nI 1))) := ⟨_, rfl⟩
          have fσ1 := qn_wi eσ1
          refine Exists.intro (10 + 5 * (rg k) + 4) (Exists.intro σ1 (And.intro rfl (And.intro ⟨2788, rfl, by omega, by decide⟩ (And.intro eσ1.symm ?_))))
          have hf_σ1 : ql [(207, none)] σ0 σ1 := hf.tr fσ1
          have hG_σ1 : mG σ1 rg n := hG.fr fσ1 rfl (fun _ => rfl)
          have hS_σ1 : qx_mi σ1 207 = va_up S (10 + 5 * rg k + 4) ((S (10 + 5 * (rg k) + 4)) + (nI 1)) := qn_rowS eσ1 hS
          refine And.intro (fun h69 => ?_) (fun h69 => ?_)
          · skip
            exact absurd h69 hd
          · skip
            refine Exists.intro (nI (k + 1)) (And.intro (nI_add _ _) ?_)
            refine qx_K_le (ls := [.ref 197, .int c, .int (nI (k + 1)), .retAddr 0, .retAddr 0, .retAddr 0]) ⟨Or.inr rfl, Or.inr rfl, Or.inr rfl, Or.inl rfl, Or.inl rfl, Or.inl rfl, trivial⟩ ?_
            exact ih (n - (k + 1)) (by omega) (k + 1) _ _ _ rfl (by omega) hf_σ1 hS_σ1 hG_σ1
    · obtain rfl : k = n := by omega
      rw [Nat.sub_self]
      refine qy_wp_ok (c := CX12_changes) (cuts := [4]) vX12_changes wX12_changes 2000 4 _ _ _ ?_
      refine And.intro rfl (Exists.intro 24 (Exists.intro (nI k) (And.intro rfl (And.intro (hG.1) ?_))))
      refine And.intro (fun h9 => ?_) (fun h9 => ?_)
      · skip
        have h9 := nI_leT (a := k) (b := k) (by omega) (by omega) h9
        refine And.intro rfl (Exists.intro _ (And.intro (by decide) (qx_M_mono (m_goRound hS h0 hn hr hG) ?_)))
        rintro _ σ1 ⟨rfl, fσ1, gσ1⟩
        have hf_σ1 : ql [(207, none)] σ0 σ1 := hf.tr fσ1
        have hG_σ1 : mG σ1 rg k := hG.fr fσ1 rfl (fun _ => rfl)
        refine And.intro rfl (Exists.intro 207 (And.intro rfl ?_))
        refine Exists.intro (nI 6) (And.intro rfl ?_)
        refine Exists.intro (6) (Exists.intro (q_gr rg k S 6) (And.intro rfl (And.intro ⟨2788, rfl, by decide, by decide⟩ (And.intro (congrFun gσ1 6) ?_))))
        refine Exists.intro (nI 1) (And.intro rfl ?_)
        refine Exists.intro ((q_gr rg k S 6) + (nI 1)) (And.intro rfl ?_)
        obtain ⟨σ2, eσ2⟩ : ∃ zs, zs = (qx_wi σ1 207 6 ((q_gr rg k S 6) + (nI 1))) := ⟨_, rfl⟩
        have fσ2 := qn_wi eσ2
        refine Exists.intro (6) (Exists.intro σ2 (And.intro rfl (And.intro ⟨2788, rfl, by decide, by decide⟩ (And.intro eσ2.symm ?_))))
        have hf_σ2 : ql [(207, none)] σ0 σ2 := hf_σ1.tr fσ2
        have hG_σ2 : mG σ2 rg k := hG_σ1.fr fσ2 rfl (fun _ => rfl)
        exact ⟨rfl, hf_σ2, qn_rowS eσ2 gσ1⟩
      · skip
        have h9 := nI_leF (a := k) (b := k) (by omega) (by omega) h9
        exact absurd h9 (by omega)
theorem m_changes {G : qx_G} {σ : qx_S} {S : qS} (hS : qx_mi σ 207 = S) {rg : Nat → Nat} {n : Nat} (h0 : 0 < n) (hn : n ≤ 6) (hr : ∀ k, k < n → rg k < 10) (hG : mG σ rg n) : qx_M G qc_T 2 YX12_changes [.ref 197] σ (fun r s => r = some (.int (q_chc rg n n 0 S 0).2) ∧ ql [(207, none)] σ s ∧ qx_mi s 207 = va_up (q_gr rg n (q_chc rg n n 0 S 0).1) 6 ((q_gr rg n (q_chc rg n n 0 S 0).1) 6 + nI 1)) := by
  refine qx_M_in rfl (Nat.le_of_ble_eq_true rfl) ?_
  refine qy_wp_ok (c := CX12_changes) (cuts := [4]) vX12_changes wX12_changes 2000 0 _ _ _ ?_
  refine Exists.intro (nI 0) (And.intro rfl ?_)
  refine Exists.intro (nI 0) (And.intro rfl ?_)
  exact qx_K_mono (l_changes h0 hn hr _ 0 σ S _ rfl (by omega) qf.rf hS hG) (fun r s h => h)

