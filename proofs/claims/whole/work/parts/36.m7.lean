/-! THE REFERENCE: places kept, the book, who changes -/
theorem m_isPerson {G : qx_G} {σ : qx_S} {S : qS} (hS : qx_mi σ 207 = S) {n : Nat} (e1 : S 1 = nI n) (x : Int32) : qx_M G qc_T 0 YX12_isPerson [.ref 197, .int x] σ (qr (bI (q_is x n)) σ) := by
  refine qx_M_in rfl (Nat.le_of_ble_eq_true rfl) ?_
  refine qy_wp_ok (c := CX12_isPerson) (cuts := []) vX12_isPerson wX12_isPerson 2000 0 _ _ _ ?_
  refine And.intro (fun h1 => ?_) (fun h1 => ?_)
  · skip
    refine Exists.intro (nI 0) (And.intro rfl ?_)
    refine And.intro (Or.inl rfl) ?_
    unfold q_is; refine ⟨congrArg (fun z => some (Value.int z)) ?_, rfl⟩; first | rw [decide_eq_true (Int32.not_lt.mp h1), decide_eq_true (Int32.not_le.mp h11)]; rfl | rw [decide_eq_true (Int32.not_lt.mp h1), decide_eq_false (Int32.not_lt.mpr h11)]; rfl | rw [decide_eq_false (Int32.not_le.mpr h1)]; rfl
  · skip
    refine And.intro rfl (Exists.intro 207 (And.intro rfl ?_))
    refine Exists.intro (nI 1) (And.intro rfl ?_)
    refine Exists.intro (1) (Exists.intro (nI n) (And.intro rfl (And.intro ⟨2788, rfl, by decide, by decide⟩ (And.intro ((congrFun hS 1).trans e1) ?_))))
    refine And.intro (fun h11 => ?_) (fun h11 => ?_)
    · skip
      refine Exists.intro (nI 0) (And.intro rfl ?_)
      refine And.intro (Or.inl rfl) ?_
      unfold q_is; refine ⟨congrArg (fun z => some (Value.int z)) ?_, rfl⟩; first | rw [decide_eq_true (Int32.not_lt.mp h1), decide_eq_true (Int32.not_le.mp h11)]; rfl | rw [decide_eq_true (Int32.not_lt.mp h1), decide_eq_false (Int32.not_lt.mpr h11)]; rfl | rw [decide_eq_false (Int32.not_le.mpr h1)]; rfl
    · skip
      refine Exists.intro (nI 1) (And.intro rfl ?_)
      refine And.intro (Or.inr rfl) ?_
      unfold q_is; refine ⟨congrArg (fun z => some (Value.int z)) ?_, rfl⟩; first | rw [decide_eq_true (Int32.not_lt.mp h1), decide_eq_true (Int32.not_le.mp h11)]; rfl | rw [decide_eq_true (Int32.not_lt.mp h1), decide_eq_false (Int32.not_lt.mpr h11)]; rfl | rw [decide_eq_false (Int32.not_le.mpr h1)]; rfl
theorem m_isPlace {G : qx_G} {σ : qx_S} {S : qS} (hS : qx_mi σ 207 = S) {n : Nat} (e1 : S 0 = nI n) (x : Int32) : qx_M G qc_T 0 YX12_isPlace [.ref 197, .int x] σ (qr (bI (q_is x n)) σ) := by
  refine qx_M_in rfl (Nat.le_of_ble_eq_true rfl) ?_
  refine qy_wp_ok (c := CX12_isPlace) (cuts := []) vX12_isPlace wX12_isPlace 2000 0 _ _ _ ?_
  refine And.intro (fun h1 => ?_) (fun h1 => ?_)
  · skip
    refine Exists.intro (nI 0) (And.intro rfl ?_)
    refine And.intro (Or.inl rfl) ?_
    unfold q_is; refine ⟨congrArg (fun z => some (Value.int z)) ?_, rfl⟩; first | rw [decide_eq_true (Int32.not_lt.mp h1), decide_eq_true (Int32.not_le.mp h11)]; rfl | rw [decide_eq_true (Int32.not_lt.mp h1), decide_eq_false (Int32.not_lt.mpr h11)]; rfl | rw [decide_eq_false (Int32.not_le.mpr h1)]; rfl
  · skip
    refine And.intro rfl (Exists.intro 207 (And.intro rfl ?_))
    refine Exists.intro (nI 0) (And.intro rfl ?_)
    refine Exists.intro (0) (Exists.intro (nI n) (And.intro rfl (And.intro ⟨2788, rfl, by decide, by decide⟩ (And.intro ((congrFun hS 0).trans e1) ?_))))
    refine And.intro (fun h11 => ?_) (fun h11 => ?_)
    · skip
      refine Exists.intro (nI 0) (And.intro rfl ?_)
      refine And.intro (Or.inl rfl) ?_
      unfold q_is; refine ⟨congrArg (fun z => some (Value.int z)) ?_, rfl⟩; first | rw [decide_eq_true (Int32.not_lt.mp h1), decide_eq_true (Int32.not_le.mp h11)]; rfl | rw [decide_eq_true (Int32.not_lt.mp h1), decide_eq_false (Int32.not_lt.mpr h11)]; rfl | rw [decide_eq_false (Int32.not_le.mpr h1)]; rfl
    · skip
      refine Exists.intro (nI 1) (And.intro rfl ?_)
      refine And.intro (Or.inr rfl) ?_
      unfold q_is; refine ⟨congrArg (fun z => some (Value.int z)) ?_, rfl⟩; first | rw [decide_eq_true (Int32.not_lt.mp h1), decide_eq_true (Int32.not_le.mp h11)]; rfl | rw [decide_eq_true (Int32.not_lt.mp h1), decide_eq_false (Int32.not_lt.mpr h11)]; rfl | rw [decide_eq_false (Int32.not_le.mpr h1)]; rfl
theorem m_isRule {G : qx_G} {σ : qx_S} {n : Nat} (e1 : qx_mi σ 197 2 = nI n) (x : Int32) : qx_M G qc_T 0 YX12_isRule [.ref 197, .int x] σ (qr (bI (q_is x n)) σ) := by
  refine qx_M_in rfl (Nat.le_of_ble_eq_true rfl) ?_
  refine qy_wp_ok (c := CX12_isRule) (cuts := []) vX12_isRule wX12_isRule 2000 0 _ _ _ ?_
  refine And.intro (fun h1 => ?_) (fun h1 => ?_)
  · skip
    refine Exists.intro (nI 0) (And.intro rfl ?_)
    refine And.intro (Or.inl rfl) ?_
    unfold q_is; refine ⟨congrArg (fun z => some (Value.int z)) ?_, rfl⟩; first | rw [decide_eq_true (Int32.not_lt.mp h1), decide_eq_true (Int32.not_le.mp h9)]; rfl | rw [decide_eq_true (Int32.not_lt.mp h1), decide_eq_false (Int32.not_lt.mpr h9)]; rfl | rw [decide_eq_false (Int32.not_le.mpr h1)]; rfl
  · skip
    refine And.intro rfl (Exists.intro 2 (Exists.intro (nI n) (And.intro rfl (And.intro e1 ?_))))
    refine And.intro (fun h9 => ?_) (fun h9 => ?_)
    · skip
      refine Exists.intro (nI 0) (And.intro rfl ?_)
      refine And.intro (Or.inl rfl) ?_
      unfold q_is; refine ⟨congrArg (fun z => some (Value.int z)) ?_, rfl⟩; first | rw [decide_eq_true (Int32.not_lt.mp h1), decide_eq_true (Int32.not_le.mp h9)]; rfl | rw [decide_eq_true (Int32.not_lt.mp h1), decide_eq_false (Int32.not_lt.mpr h9)]; rfl | rw [decide_eq_false (Int32.not_le.mpr h1)]; rfl
    · skip
      refine Exists.intro (nI 1) (And.intro rfl ?_)
      refine And.intro (Or.inr rfl) ?_
      unfold q_is; refine ⟨congrArg (fun z => some (Value.int z)) ?_, rfl⟩; first | rw [decide_eq_true (Int32.not_lt.mp h1), decide_eq_true (Int32.not_le.mp h9)]; rfl | rw [decide_eq_true (Int32.not_lt.mp h1), decide_eq_false (Int32.not_lt.mpr h9)]; rfl | rw [decide_eq_false (Int32.not_le.mpr h1)]; rfl
theorem m_isCountry {G : qx_G} {σ : qx_S} {S : qS} (hS : qx_mi σ 207 = S) {n : Nat} (e1 : S 0 = nI n) (hn : n ≤ 8) : qx_M G qc_T 0 YX12_isCountry [.ref 197] σ (qr (bI (decide (0 < n))) σ) := by
  refine qx_M_in rfl (Nat.le_of_ble_eq_true rfl) ?_
  refine qy_wp_ok (c := CX12_isCountry) (cuts := []) vX12_isCountry wX12_isCountry 2000 0 _ _ _ ?_
  refine And.intro rfl (Exists.intro 207 (And.intro rfl ?_))
  refine Exists.intro (nI 0) (And.intro rfl ?_)
  refine Exists.intro (0) (Exists.intro (nI n) (And.intro rfl (And.intro ⟨2788, rfl, by decide, by decide⟩ (And.intro ((congrFun hS 0).trans e1) ?_))))
  refine And.intro (fun h6 => ?_) (fun h6 => ?_)
  · skip
    have h6 := nI_leT (a := n) (b := 0) (by omega) (by decide) h6
    refine Exists.intro (nI 0) (And.intro rfl ?_)
    refine And.intro (Or.inl rfl) ?_
    refine ⟨congrArg (fun z => some (Value.int z)) ?_, rfl⟩; first | rw [decide_eq_true h6]; rfl | rw [decide_eq_false (Nat.not_lt.mpr h6)]; rfl
  · skip
    have h6 := nI_leF (a := n) (b := 0) (by omega) (by decide) h6
    refine Exists.intro (nI 1) (And.intro rfl ?_)
    refine And.intro (Or.inr rfl) ?_
    refine ⟨congrArg (fun z => some (Value.int z)) ?_, rfl⟩; first | rw [decide_eq_true h6]; rfl | rw [decide_eq_false (Nat.not_lt.mpr h6)]; rfl
theorem l_keepsPlaces {G : qx_G} {σ0 : qx_S} {S : qS} : ∀ (m k : Nat) (σ : qx_S), m = 10 - k → k ≤ 10 → ql [(210, none)] σ0 σ → qx_mi σ 207 = S → (∀ j, j < k → qx_mi σ 210 j = S (10 + 5 * j)) →
    qx_K G qc_T 1 RX12 YX12_keepsPlaces 2 [.ref 197, .int (nI k)] [] σ (fun r s => r = none ∧ ql [(210, none)] σ0 s ∧ ∀ j, j < 10 → qx_mi s 210 j = S (10 + 5 * j)) := by
  intro m
  induction m using Nat.strongRecOn with
  | _ m ih =>
    intro k σ hm hk hf hS hj
    refine qy_wp_ok (c := CX12_keepsPlaces) (cuts := [2]) vX12_keepsPlaces wX12_keepsPlaces 2000 2 _ _ _ ?_
    refine Exists.intro (nI 10) (And.intro rfl ?_)
    refine And.intro (fun h5 => ?_) (fun h5 => ?_)
    · skip
      have h5 := nI_leT (a := 10) (b := k) (by decide) (by omega) h5
      exact ⟨rfl, hf, fun j h => hj j (by omega)⟩
    · skip
      have h5 := nI_leF (a := 10) (b := k) (by decide) (by omega) h5
      refine And.intro rfl (Exists.intro 210 (And.intro rfl ?_))
      refine And.intro rfl (Exists.intro _ (And.intro (by decide) (qx_M_mono (m_at (p := k) (by omega) (congrFun hS (10 + 5 * k))) ?_)))
      rintro _ _ ⟨rfl, rfl⟩
      obtain ⟨σ1, eσ1⟩ : ∃ zs, zs = (qx_wi σ 210 k (S (10 + 5 * k))) := ⟨_, rfl⟩
      have fσ1 := qn_wi eσ1
      refine Exists.intro (k) (Exists.intro σ1 (And.intro rfl (And.intro ⟨10, rfl, by omega, by decide⟩ (And.intro eσ1.symm ?_))))
      have hS_σ1 : qx_mi σ1 207 = S := (fσ1.row 207 (fun _ => rfl)).trans hS
      have hf_σ1 : ql [(210, none)] σ0 σ1 := hf.tr fσ1
      refine Exists.intro (nI (k + 1)) (And.intro (nI_add _ _) ?_)
      refine ih (10 - (k + 1)) (by omega) (k + 1) _ rfl (by omega) hf_σ1 hS_σ1 (fun j h => ?_)
      rcases Nat.lt_or_ge j k with z | z
      · exact (qn_ne eσ1 (Or.inr (by omega))).trans (hj j z)
      · obtain rfl : j = k := by omega
        exact qn_eq eσ1
theorem m_keepsPlaces {G : qx_G} {σ : qx_S} {S : qS} (hS : qx_mi σ 207 = S) : qx_M G qc_T 1 YX12_keepsPlaces [.ref 197] σ (fun r s => r = none ∧ ql [(210, none)] σ s ∧ ∀ j, j < 10 → qx_mi s 210 j = S (10 + 5 * j)) := by
  refine qx_M_in rfl (Nat.le_of_ble_eq_true rfl) ?_
  refine qy_wp_ok (c := CX12_keepsPlaces) (cuts := [2]) vX12_keepsPlaces wX12_keepsPlaces 2000 0 _ _ _ ?_
  refine Exists.intro (nI 0) (And.intro rfl ?_)
  exact l_keepsPlaces _ 0 σ rfl (by omega) qf.rf hS (fun j h => absurd h (by omega))
/-- the same but for where the first n are, which is as f -/
def q_pl (S : qS) (f : Nat → Int32) (n : Nat) : qS := fun i => if 10 ≤ i ∧ (i - 10) % 5 = 0 ∧ (i - 10) / 5 < n then f ((i - 10) / 5) else S i
theorem q_pl_0 (S : qS) (f : Nat → Int32) : q_pl S f 0 = S := by
  funext i
  unfold q_pl
  rw [if_neg (by omega)]
theorem q_pl_s (S : qS) (f : Nat → Int32) (n : Nat) : q_pl S f (n + 1) = va_up (q_pl S f n) (10 + 5 * n) (f n) := by
  funext i
  unfold va_up q_pl
  by_cases h : i = 10 + 5 * n
  · subst h
    rw [if_pos rfl, if_pos (by omega)]
    congr 1
    omega
  · rw [if_neg h]
    by_cases h2 : 10 ≤ i ∧ (i - 10) % 5 = 0 ∧ (i - 10) / 5 < n
    · rw [if_pos h2, if_pos (by omega)]
    · rw [if_neg h2, if_neg (by omega)]
theorem l_putsPlacesBack {G : qx_G} {σ0 : qx_S} {S : qS} {f : Nat → Int32} : ∀ (m k : Nat) (σ : qx_S), m = 10 - k → k ≤ 10 → ql [(207, none)] σ0 σ → qx_mi σ 207 = q_pl S f k → (∀ j, j < 10 → qx_mi σ 210 j = f j) →
    qx_K G qc_T 1 RX12 YX12_putsPlacesBack 2 [.ref 197, .int (nI k)] [] σ (fun r s => r = none ∧ ql [(207, none)] σ0 s ∧ qx_mi s 207 = q_pl S f 10) := by
  intro m
  induction m using Nat.strongRecOn with
  | _ m ih =>
    intro k σ hm hk hf hS hj
    refine qy_wp_ok (c := CX12_putsPlacesBack) (cuts := [2]) vX12_putsPlacesBack wX12_putsPlacesBack 2000 2 _ _ _ ?_
    refine Exists.intro (nI 10) (And.intro rfl ?_)
    refine And.intro (fun h5 => ?_) (fun h5 => ?_)
    · skip
      have h5 := nI_leT (a := 10) (b := k) (by decide) (by omega) h5
      exact ⟨rfl, hf, by rw [hS, show k = 10 by omega]⟩
    · skip
      have h5 := nI_leF (a := 10) (b := k) (by decide) (by omega) h5
      refine And.intro rfl (Exists.intro 207 (And.intro rfl ?_))
      refine Exists.intro (nI 10) (And.intro rfl ?_)
      refine Exists.intro (nI 5) (And.intro rfl ?_)
      refine Exists.intro (nI (5 * k)) (And.intro (pk_mul _ _) ?_)
      refine Exists.intro (nI (10 + 5 * k)) (And.intro (nI_add _ _) ?_)
      refine And.intro rfl (Exists.intro 210 (And.intro rfl ?_))
      refine Exists.intro (k) (Exists.intro (f k) (And.intro rfl (And.intro ⟨10, rfl, by omega, by decide⟩ (And.intro (hj k (by omega)) ?_))))
      obtain ⟨σ1, eσ1⟩ : ∃ zs, zs = (qx_wi σ 207 (10 + 5 * k) (f k)) := ⟨_, rfl⟩
      have fσ1 := qn_wi eσ1
      refine Exists.intro (10 + 5 * k) (Exists.intro σ1 (And.intro rfl (And.intro ⟨2788, rfl, by omega, by decide⟩ (And.intro eσ1.symm ?_))))
      have hf_σ1 : ql [(207, none)] σ0 σ1 := hf.tr fσ1
      refine Exists.intro (nI (k + 1)) (And.intro (nI_add _ _) ?_)
      exact ih (10 - (k + 1)) (by omega) (k + 1) _ rfl (by omega) hf_σ1 ((qn_rowS eσ1 hS).trans (q_pl_s S f k).symm) (fun j h => (fσ1.i _ _ rfl).trans (hj j h))
theorem m_putsPlacesBack {G : qx_G} {σ : qx_S} {S : qS} (hS : qx_mi σ 207 = S) {f : Nat → Int32} (hj : ∀ j, j < 10 → qx_mi σ 210 j = f j) : qx_M G qc_T 1 YX12_putsPlacesBack [.ref 197] σ (fun r s => r = none ∧ ql [(207, none)] σ s ∧ qx_mi s 207 = q_pl S f 10) := by
  refine qx_M_in rfl (Nat.le_of_ble_eq_true rfl) ?_
  refine qy_wp_ok (c := CX12_putsPlacesBack) (cuts := [2]) vX12_putsPlacesBack wX12_putsPlacesBack 2000 0 _ _ _ ?_
  refine Exists.intro (nI 0) (And.intro rfl ?_)
  exact l_putsPlacesBack (S := S) _ 0 σ rfl (by omega) qf.rf (hS.trans (q_pl_0 S f).symm) hj

