/-! THE REFERENCE: undo, go, book, images, count -/
/-- as it was ahead of the ring that is kept at u -/
def q_un1 (S : qS) (t p : Nat) : qS := fun i => if 10 ≤ i ∧ i < 10 + 5 * p ∧ (i - 10) % 5 = 0 then S (t + (i - 10) / 5) else if 10 ≤ i ∧ i < 10 + 5 * p ∧ (i - 10) % 5 = 4 then S (t + 110 + (i - 10) / 5) else S i
def q_un1b (S : qS) (t p : Nat) : qS := fun i => if 10 ≤ i ∧ i < 10 + 5 * p + 1 ∧ (i - 10) % 5 = 0 then S (t + (i - 10) / 5) else if 10 ≤ i ∧ i < 10 + 5 * p ∧ (i - 10) % 5 = 4 then S (t + 110 + (i - 10) / 5) else S i
def q_un2 (S : qS) (t k : Nat) : qS := fun i => if 154 ≤ i ∧ i < 154 + k then S (t + 10 + (i - 154)) else q_un1 S t 10 i
def q_un (S : qS) (u : Nat) : qS := fun i => if i = 3 then S (348 + 122 * u + 120) else if i = 6 then S (348 + 122 * u + 121) else if i = 9 then nI u else q_un2 S (348 + 122 * u) 100 i
theorem q_un1_0 (S : qS) (t : Nat) : q_un1 S t 0 = S := by
  funext i
  unfold q_un1
  rw [if_neg (by omega), if_neg (by omega)]
theorem q_un1_s (S : qS) {t p : Nat} : va_up (q_un1 S t p) (10 + 5 * p) (S (t + p)) = q_un1b S t p := by
  refine up_ext ?_ (fun i hi => ?_)
  · unfold q_un1b
    rw [if_pos (by omega)]
    congr 1
    omega
  · unfold q_un1 q_un1b
    repeat' split
    all_goals first | rfl | omega
theorem q_un1b_s (S : qS) {t p : Nat} : va_up (q_un1b S t p) (10 + 5 * p + 4) (S (t + 110 + p)) = q_un1 S t (p + 1) := by
  refine up_ext ?_ (fun i hi => ?_)
  · unfold q_un1
    rw [if_neg (by omega), if_pos (by omega)]
    congr 1
    omega
  · unfold q_un1 q_un1b
    repeat' split
    all_goals first | rfl | omega
theorem q_un1_hi (S : qS) {t p i : Nat} (hp : p ≤ 10) (hi : 60 ≤ i ∨ i < 10) : q_un1 S t p i = S i := by
  unfold q_un1
  rw [if_neg (by omega), if_neg (by omega)]
theorem q_un1b_hi (S : qS) {t p i : Nat} (hp : p < 10) (hi : 60 ≤ i ∨ i < 10) : q_un1b S t p i = S i := by
  unfold q_un1b
  rw [if_neg (by omega), if_neg (by omega)]
theorem q_un2_0 (S : qS) (t : Nat) : q_un2 S t 0 = q_un1 S t 10 := by
  funext i
  unfold q_un2
  rw [if_neg (by omega)]
theorem q_un2_hi (S : qS) {t k i : Nat} (hk : k ≤ 100) (hi : 254 ≤ i ∨ i < 10) : q_un2 S t k i = S i := by
  unfold q_un2
  rw [if_neg (by omega), q_un1_hi S (by omega) (by omega)]
theorem q_un2_s (S : qS) {t k : Nat} (hk : k < 100) : va_up (q_un2 S t k) (154 + k) (S (t + 10 + k)) = q_un2 S t (k + 1) := by
  refine up_ext ?_ (fun i hi => ?_)
  · unfold q_un2
    rw [if_pos (by omega), show 154 + k - 154 = k by omega]
  · unfold q_un2
    repeat' split
    all_goals first | rfl | omega
theorem q_un_e {S T : qS} {u : Nat} (hT : va_up S 9 (nI u) = T) : va_up (va_up (q_un2 T (348 + 122 * u) 100) 3 (T (348 + 122 * u + 120))) 6 (T (348 + 122 * u + 121)) = q_un S u := by
  subst hT
  have e : ∀ j, 348 ≤ j → va_up S 9 (nI u) j = S j := fun j hj => va_up_ne _ _ (by omega)
  refine up_ext ?_ (fun i hi => ?_)
  · unfold q_un
    rw [if_neg (by omega), if_pos rfl, e _ (by omega)]
  · rw [e _ (by omega)]
    unfold q_un q_un2 q_un1
    by_cases h3 : i = 3
    · rw [if_pos h3, h3]
      exact (va_up_self _ _ _).symm
    · rw [va_up_ne _ _ h3, if_neg h3, if_neg hi]
      by_cases h9 : i = 9
      · subst h9
        rw [if_pos rfl, if_neg (by omega), if_neg (by omega), if_neg (by omega)]
        exact (va_up_self _ _ _).symm
      · rw [if_neg h9, e _ (by omega), e _ (by omega), e _ (by omega), va_up_ne _ _ h9]
theorem l_un2 {G : qx_G} {σ0 : qx_S} {S T : qS} {u : Nat} (hu : u < 20) (hT : va_up S 9 (nI u) = T) : ∀ (m k : Nat) (σ : qx_S), m = 100 - k → k ≤ 100 → ql [(207, none)] σ0 σ → qx_mi σ 207 = q_un2 T (348 + 122 * u) k →
    qx_K G qc_T 0 RX12 YX12_undo 97 [.ref 197, .int (nI (348 + 122 * u)), .int (nI k)] [] σ (fun r s => r = some (.int (nI u)) ∧ ql [(207, none)] σ0 s ∧ qx_mi s 207 = q_un S u) := by
  intro m
  induction m using Nat.strongRecOn with
  | _ m ih =>
    intro k σ hm hk hf hS
    rcases Nat.lt_or_ge k 100 with hlt | hge
    · skip
      refine qy_wp_ok (c := CX12_undo) (cuts := [97]) vX12_undo wX12_undo 2000 97 _ _ _ ?_
      refine Exists.intro (nI 100) (And.intro rfl ?_)
      refine And.intro (fun h100 => ?_) (fun h100 => ?_)
      · skip
        have h100 := nI_leT (a := 100) (b := k) (by decide) (by omega) h100
        exact absurd h100 (by omega)
      · skip
        have h100 := nI_leF (a := 100) (b := k) (by decide) (by omega) h100
        refine And.intro rfl (Exists.intro 207 (And.intro rfl ?_))
        refine Exists.intro (nI 154) (And.intro rfl ?_)
        refine Exists.intro (nI (154 + k)) (And.intro (nI_add _ _) ?_)
        refine And.intro rfl (Exists.intro 207 (And.intro rfl ?_))
        refine Exists.intro (nI 10) (And.intro rfl ?_)
        refine Exists.intro (nI (348 + 122 * u + 10)) (And.intro (nI_add _ _) ?_)
        refine Exists.intro (nI (348 + 122 * u + 10 + k)) (And.intro (nI_add _ _) ?_)
        refine Exists.intro (348 + 122 * u + 10 + k) (Exists.intro (T (348 + 122 * u + 10 + k)) (And.intro rfl (And.intro ⟨2788, rfl, by omega, by decide⟩ (And.intro ((congrFun hS _).trans (q_un2_hi T hk (by omega))) ?_))))
        obtain ⟨σ1, eσ1⟩ : ∃ zs, zs = (qx_wi σ 207 (154 + k) (T (348 + 122 * u + 10 + k))) := ⟨_, rfl⟩
        have fσ1 := qn_wi eσ1
        refine Exists.intro (154 + k) (Exists.intro σ1 (And.intro rfl (And.intro ⟨2788, rfl, by omega, by decide⟩ (And.intro eσ1.symm ?_))))
        have hf_σ1 : ql [(207, none)] σ0 σ1 := hf.tr fσ1
        have hS_σ1 : qx_mi σ1 207 = q_un2 T (348 + 122 * u) (k + 1) := (qn_rowS eσ1 hS).trans (q_un2_s T (by omega))
        refine Exists.intro (nI (k + 1)) (And.intro (nI_add _ _) ?_)
        exact ih _ (by omega) (k + 1) _ rfl (by omega) hf_σ1 hS_σ1
    · obtain rfl : k = 100 := by omega
      have e9 : T 9 = nI u := by rw [← hT]; exact va_up_self _ _ _
      refine qy_wp_ok (c := CX12_undo) (cuts := [97]) vX12_undo wX12_undo 2000 97 _ _ _ ?_
      refine Exists.intro (nI 100) (And.intro rfl ?_)
      refine And.intro (fun h100 => ?_) (fun h100 => ?_)
      · skip
        refine And.intro rfl (Exists.intro 207 (And.intro rfl ?_))
        refine Exists.intro (nI 3) (And.intro rfl ?_)
        refine And.intro rfl (Exists.intro 207 (And.intro rfl ?_))
        refine Exists.intro (nI 120) (And.intro rfl ?_)
        refine Exists.intro (nI (348 + 122 * u + 120)) (And.intro (nI_add _ _) ?_)
        refine Exists.intro (348 + 122 * u + 120) (Exists.intro (T (348 + 122 * u + 120)) (And.intro rfl (And.intro ⟨2788, rfl, by omega, by decide⟩ (And.intro ((congrFun hS _).trans (q_un2_hi T (by omega) (by omega))) ?_))))
        obtain ⟨σ1, eσ1⟩ : ∃ zs, zs = (qx_wi σ 207 3 (T (348 + 122 * u + 120))) := ⟨_, rfl⟩
        have fσ1 := qn_wi eσ1
        refine Exists.intro (3) (Exists.intro σ1 (And.intro rfl (And.intro ⟨2788, rfl, by decide, by decide⟩ (And.intro eσ1.symm ?_))))
        have hf_σ1 : ql [(207, none)] σ0 σ1 := hf.tr fσ1
        have hS_σ1 : qx_mi σ1 207 = va_up (q_un2 T (348 + 122 * u) 100) 3 (T (348 + 122 * u + 120)) := qn_rowS eσ1 hS
        refine And.intro rfl (Exists.intro 207 (And.intro rfl ?_))
        refine Exists.intro (nI 6) (And.intro rfl ?_)
        refine And.intro rfl (Exists.intro 207 (And.intro rfl ?_))
        refine Exists.intro (nI 121) (And.intro rfl ?_)
        refine Exists.intro (nI (348 + 122 * u + 121)) (And.intro (nI_add _ _) ?_)
        refine Exists.intro (348 + 122 * u + 121) (Exists.intro (T (348 + 122 * u + 121)) (And.intro rfl (And.intro ⟨2788, rfl, by omega, by decide⟩ (And.intro ((congrFun hS_σ1 _).trans ((va_up_ne _ _ (by omega)).trans (q_un2_hi T (by omega) (by omega)))) ?_))))
        obtain ⟨σ2, eσ2⟩ : ∃ zs, zs = (qx_wi σ1 207 6 (T (348 + 122 * u + 121))) := ⟨_, rfl⟩
        have fσ2 := qn_wi eσ2
        refine Exists.intro (6) (Exists.intro σ2 (And.intro rfl (And.intro ⟨2788, rfl, by decide, by decide⟩ (And.intro eσ2.symm ?_))))
        have hf_σ2 : ql [(207, none)] σ0 σ2 := hf_σ1.tr fσ2
        have hS_σ2 : qx_mi σ2 207 = q_un S u := (qn_rowS eσ2 hS_σ1).trans (q_un_e hT)
        refine And.intro rfl (Exists.intro 207 (And.intro rfl ?_))
        refine Exists.intro (nI 9) (And.intro rfl ?_)
        refine Exists.intro (9) (Exists.intro (nI u) (And.intro rfl (And.intro ⟨2788, rfl, by decide, by decide⟩ (And.intro (congrFun hS_σ2 9) ?_))))
        exact ⟨rfl, hf_σ2, hS_σ2⟩
      · skip
        exact absurd (by decide) h100
theorem l_un1 {G : qx_G} {σ0 : qx_S} {S T : qS} {u : Nat} (hu : u < 20) (hT : va_up S 9 (nI u) = T) : ∀ (m p : Nat) (σ : qx_S), m = 10 - p → p ≤ 10 → ql [(207, none)] σ0 σ → qx_mi σ 207 = q_un1 T (348 + 122 * u) p →
    qx_K G qc_T 0 RX12 YX12_undo 40 [.ref 197, .int (nI (348 + 122 * u)), .int (nI p)] [] σ (fun r s => r = some (.int (nI u)) ∧ ql [(207, none)] σ0 s ∧ qx_mi s 207 = q_un S u) := by
  intro m
  induction m using Nat.strongRecOn with
  | _ m ih =>
    intro p σ hm hp hf hS
    rcases Nat.lt_or_ge p 10 with hlt | hge
    · skip
      refine qy_wp_ok (c := CX12_undo) (cuts := [40]) vX12_undo wX12_undo 2000 40 _ _ _ ?_
      refine Exists.intro (nI 10) (And.intro rfl ?_)
      refine And.intro (fun h43 => ?_) (fun h43 => ?_)
      · skip
        have h43 := nI_leT (a := 10) (b := p) (by decide) (by omega) h43
        exact absurd h43 (by omega)
      · skip
        have h43 := nI_leF (a := 10) (b := p) (by decide) (by omega) h43
        refine And.intro rfl (Exists.intro 207 (And.intro rfl ?_))
        refine Exists.intro (nI 10) (And.intro rfl ?_)
        refine Exists.intro (nI 5) (And.intro rfl ?_)
        refine Exists.intro (nI (5 * p)) (And.intro (pk_mul _ _) ?_)
        refine Exists.intro (nI (10 + 5 * p)) (And.intro (nI_add _ _) ?_)
        refine And.intro rfl (Exists.intro 207 (And.intro rfl ?_))
        refine Exists.intro (nI (348 + 122 * u + p)) (And.intro (nI_add _ _) ?_)
        refine Exists.intro (348 + 122 * u + p) (Exists.intro (T (348 + 122 * u + p)) (And.intro rfl (And.intro ⟨2788, rfl, by omega, by decide⟩ (And.intro ((congrFun hS _).trans (q_un1_hi T hp (by omega))) ?_))))
        obtain ⟨σ1, eσ1⟩ : ∃ zs, zs = (qx_wi σ 207 (10 + 5 * p) (T (348 + 122 * u + p))) := ⟨_, rfl⟩
        have fσ1 := qn_wi eσ1
        refine Exists.intro (10 + 5 * p) (Exists.intro σ1 (And.intro rfl (And.intro ⟨2788, rfl, by omega, by decide⟩ (And.intro eσ1.symm ?_))))
        have hf_σ1 : ql [(207, none)] σ0 σ1 := hf.tr fσ1
        have hS_σ1 : qx_mi σ1 207 = q_un1b T (348 + 122 * u) p := (qn_rowS eσ1 hS).trans (q_un1_s T)
        refine And.intro rfl (Exists.intro 207 (And.intro rfl ?_))
        refine Exists.intro (nI 10) (And.intro rfl ?_)
        refine Exists.intro (nI 5) (And.intro rfl ?_)
        refine Exists.intro (nI (5 * p)) (And.intro (pk_mul _ _) ?_)
        refine Exists.intro (nI (10 + 5 * p)) (And.intro (nI_add _ _) ?_)
        refine Exists.intro (nI 4) (And.intro rfl ?_)
        refine Exists.intro (nI (10 + 5 * p + 4)) (And.intro (nI_add _ _) ?_)
        refine And.intro rfl (Exists.intro 207 (And.intro rfl ?_))
        refine Exists.intro (nI 110) (And.intro rfl ?_)
        refine Exists.intro (nI (348 + 122 * u + 110)) (And.intro (nI_add _ _) ?_)
        refine Exists.intro (nI (348 + 122 * u + 110 + p)) (And.intro (nI_add _ _) ?_)
        refine Exists.intro (348 + 122 * u + 110 + p) (Exists.intro (T (348 + 122 * u + 110 + p)) (And.intro rfl (And.intro ⟨2788, rfl, by omega, by decide⟩ (And.intro ((congrFun hS_σ1 _).trans (q_un1b_hi T hlt (by omega))) ?_))))
        obtain ⟨σ2, eσ2⟩ : ∃ zs, zs = (qx_wi σ1 207 (10 + 5 * p + 4) (T (348 + 122 * u + 110 + p))) := ⟨_, rfl⟩
        have fσ2 := qn_wi eσ2
        refine Exists.intro (10 + 5 * p + 4) (Exists.intro σ2 (And.intro rfl (And.intro ⟨2788, rfl, by omega, by decide⟩ (And.intro eσ2.symm ?_))))
        have hf_σ2 : ql [(207, none)] σ0 σ2 := hf_σ1.tr fσ2
        have hS_σ2 : qx_mi σ2 207 = q_un1 T (348 + 122 * u) (p + 1) := (qn_rowS eσ2 hS_σ1).trans (q_un1b_s T)
        refine Exists.intro (nI (p + 1)) (And.intro (nI_add _ _) ?_)
        exact ih _ (by omega) (p + 1) _ rfl (by omega) hf_σ2 hS_σ2
    · obtain rfl : p = 10 := by omega
      refine qy_wp_ok (c := CX12_undo) (cuts := [97]) vX12_undo wX12_undo 2000 40 _ _ _ ?_
      refine Exists.intro (nI 10) (And.intro rfl ?_)
      refine And.intro (fun h43 => ?_) (fun h43 => ?_)
      · skip
        refine Exists.intro (nI 0) (And.intro rfl ?_)
        exact l_un2 hu hT _ 0 σ rfl (by omega) hf (hS.trans (q_un2_0 T _).symm)
      · skip
        exact absurd (by decide) h43
theorem m_undo_no {G : qx_G} {σ : qx_S} {S : qS} (hS : qx_mi σ 207 = S) (e9 : S 9 = nI 0) : qx_M G qc_T 0 YX12_undo [.ref 197] σ (qr (-1) σ) := by
  refine qx_M_in rfl (Nat.le_of_ble_eq_true rfl) ?_
  refine qy_wp_ok (c := CX12_undo) (cuts := [40]) vX12_undo wX12_undo 2000 0 _ _ _ ?_
  refine And.intro rfl (Exists.intro 207 (And.intro rfl ?_))
  refine Exists.intro (nI 9) (And.intro rfl ?_)
  refine Exists.intro (9) (Exists.intro (nI 0) (And.intro rfl (And.intro ⟨2788, rfl, by decide, by decide⟩ (And.intro ((congrFun hS 9).trans e9) ?_))))
  refine And.intro (fun h7 => ?_) (fun h7 => ?_)
  · skip
    exact absurd (by decide) h7
  · skip
    refine Exists.intro ((-1)) (And.intro (by decide) ?_)
    exact ⟨rfl, rfl⟩
theorem m_undo_ok {G : qx_G} {σ : qx_S} {S : qS} (hS : qx_mi σ 207 = S) {u : Nat} (hu : u < 20) (e9 : S 9 = nI (u + 1)) : qx_M G qc_T 0 YX12_undo [.ref 197] σ (fun r s => r = some (.int (nI u)) ∧ ql [(207, none)] σ s ∧ qx_mi s 207 = q_un S u) := by
  refine qx_M_in rfl (Nat.le_of_ble_eq_true rfl) ?_
  refine qy_wp_ok (c := CX12_undo) (cuts := [40]) vX12_undo wX12_undo 2000 0 _ _ _ ?_
  refine And.intro rfl (Exists.intro 207 (And.intro rfl ?_))
  refine Exists.intro (nI 9) (And.intro rfl ?_)
  refine Exists.intro (9) (Exists.intro (nI (u + 1)) (And.intro rfl (And.intro ⟨2788, rfl, by decide, by decide⟩ (And.intro ((congrFun hS 9).trans e9) ?_))))
  refine And.intro (fun h7 => ?_) (fun h7 => ?_)
  · skip
    have h7 := nI_neT (a := u + 1) (b := 0) (by omega) (by decide) h7
    refine And.intro rfl (Exists.intro 207 (And.intro rfl ?_))
    refine Exists.intro (nI 9) (And.intro rfl ?_)
    refine Exists.intro (9) (Exists.intro (nI (u + 1)) (And.intro rfl (And.intro ⟨2788, rfl, by decide, by decide⟩ (And.intro ((congrFun hS 9).trans e9) ?_))))
    refine Exists.intro (nI 1) (And.intro rfl ?_)
    refine Exists.intro (nI u) (And.intro (nI_sub (by omega)) ?_)
    obtain ⟨σ1, eσ1⟩ : ∃ zs, zs = (qx_wi σ 207 9 (nI u)) := ⟨_, rfl⟩
    have fσ1 := qn_wi eσ1
    refine Exists.intro (9) (Exists.intro σ1 (And.intro rfl (And.intro ⟨2788, rfl, by decide, by decide⟩ (And.intro eσ1.symm ?_))))
    have hS_σ1 : qx_mi σ1 207 = va_up S 9 (nI u) := qn_rowS eσ1 hS
    refine Exists.intro (nI 348) (And.intro rfl ?_)
    refine Exists.intro (nI 122) (And.intro rfl ?_)
    refine And.intro rfl (Exists.intro 207 (And.intro rfl ?_))
    refine Exists.intro (nI 9) (And.intro rfl ?_)
    refine Exists.intro (9) (Exists.intro (nI u) (And.intro rfl (And.intro ⟨2788, rfl, by decide, by decide⟩ (And.intro (qn_eq eσ1) ?_))))
    refine Exists.intro (nI (122 * u)) (And.intro (pk_mul _ _) ?_)
    refine Exists.intro (nI (348 + 122 * u)) (And.intro (nI_add _ _) ?_)
    refine Exists.intro (nI 0) (And.intro rfl ?_)
    exact l_un1 hu rfl _ 0 _ rfl (by omega) fσ1 (hS_σ1.trans (q_un1_0 _ _).symm)
  · skip
    have h7 := nI_eqT (a := u + 1) (b := 0) (by omega) (by decide) h7
    exact absurd h7 (by omega)
theorem m_go_no {G : qx_G} {σ : qx_S} {S : qS} (hS : qx_mi σ 207 = S) (hC : iC S) (h2 : s_n S 4 < 2) : qx_M G qc_T 6 YX12_go [.ref 197] σ (qr (-1) σ) := by
  refine qx_M_in rfl (Nat.le_of_ble_eq_true rfl) ?_
  refine qy_wp_ok (c := CX12_go) (cuts := []) vX12_go wX12_go 2000 0 _ _ _ ?_
  refine And.intro rfl (Exists.intro 207 (And.intro rfl ?_))
  refine Exists.intro (nI 4) (And.intro rfl ?_)
  refine Exists.intro (4) (Exists.intro (nI (s_n S 4)) (And.intro rfl (And.intro ⟨2788, rfl, by decide, by decide⟩ (And.intro ((congrFun hS 4).trans hC.1) ?_))))
  refine Exists.intro (nI 2) (And.intro rfl ?_)
  refine And.intro (fun h7 => ?_) (fun h7 => ?_)
  · skip
    have h7 := nI_leT (a := 2) (b := s_n S 4) (by decide) (by omega) h7
    exact absurd h7 (by omega)
  · skip
    have h7 := nI_leF (a := 2) (b := s_n S 4) (by decide) (by omega) h7
    refine Exists.intro ((-1)) (And.intro (by decide) ?_)
    exact ⟨rfl, rfl⟩
abbrev lGo : List (Nat × Option Nat) := (207, none) :: lR
/-- a ring of the called is done: all that is told then, and the coal -/
def q_go (S : qS) (u : Nat) : qS × Int32 :=
  let S1 := va_up (if u = 20 then va_up (q_kr (va_up (q_sh S) 9 (nI 19)) 19) 9 (nI 20) else va_up (q_kr S u) 9 (nI (u + 1))) 4 (nI 0)
  let c := q_chc (q_cm S) (s_n S 4) (s_n S 4) 0 S1 0
  (va_up (q_gr (q_cm S) (s_n S 4) c.1) 6 ((q_gr (q_cm S) (s_n S 4) c.1) 6 + nI 1), c.2)
theorem m_go_ok {G : qx_G} {σ : qx_S} {S : qS} {rf : Option qR} (hX : mX σ S rf none) (g : gS S) (hC : iC S) (h2 : 2 ≤ s_n S 4) {u : Nat} (hu : u ≤ 20) (e9 : S 9 = nI u) : qx_M G qc_T 6 YX12_go [.ref 197] σ (fun r s => (0 < q_lb S rf none (q_cm S) (s_n S 4) → r = some (.int (-2 - nI (q_lb S rf none (q_cm S) (s_n S 4)))) ∧ qx_mi s 207 = S) ∧ (q_lb S rf none (q_cm S) (s_n S 4) = 0 → r = some (.int (q_go S u).2) ∧ qx_mi s 207 = (q_go S u).1) ∧ ql lGo σ s) := by
  have hS := hX.1
  have c6 := hC.2.1
  have h10 := g.2.1.2
  have hl3 : q_lb S rf none (q_cm S) (s_n S 4) ≤ 3 := q_lbc_le ..
  have hf : ql lGo σ σ := qf.rf
  refine qx_M_in rfl (Nat.le_of_ble_eq_true rfl) ?_
  refine qy_wp_ok (c := CX12_go) (cuts := []) vX12_go wX12_go 2000 0 _ _ _ ?_
  refine And.intro rfl (Exists.intro 207 (And.intro rfl ?_))
  refine Exists.intro (nI 4) (And.intro rfl ?_)
  refine Exists.intro (4) (Exists.intro (nI (s_n S 4)) (And.intro rfl (And.intro ⟨2788, rfl, by decide, by decide⟩ (And.intro ((congrFun hS 4).trans hC.1) ?_))))
  refine Exists.intro (nI 2) (And.intro rfl ?_)
  refine And.intro (fun h7 => ?_) (fun h7 => ?_)
  · skip
    have h7 := nI_leT (a := 2) (b := s_n S 4) (by decide) (by omega) h7
    refine And.intro rfl (Exists.intro _ (And.intro (by decide) (qx_M_mono (m_takesCalled hS hC.2.1 hC.1) ?_)))
    rintro _ σ1 ⟨rfl, fσ1, aσ1, bσ1⟩
    have hf_σ1 : ql lGo σ σ1 := hf.tr (fσ1.mn rfl)
    have hX_σ1 : mX σ1 S rf none := hX.fr fσ1 rfl
    refine And.intro rfl (Exists.intro _ (And.intro (by decide) (qx_M_mono (m_lawBroken hX_σ1 g hC.2.1 (fun k hk => (hC.2.2 k hk).2) ⟨aσ1, fun k hk => (bσ1 k hk).trans (hC.2.2 k hk).1⟩) ?_)))
    rintro _ σ2 ⟨rfl, fσ2⟩
    have hf_σ2 : ql lGo σ σ2 := hf_σ1.tr (fσ2.mn rfl)
    have hX_σ2 : mX σ2 S rf none := hX_σ1.fr fσ2 rfl
    refine And.intro (fun h22 => ?_) (fun h22 => ?_)
    · skip
      have h22 := nI_leT (a := q_lb S rf none (q_cm S) (s_n S 4)) (b := 0) (by omega) (by decide) h22
      refine And.intro rfl (Exists.intro _ (And.intro (by decide) (qx_M_mono (m_keepsRing hX_σ2.1 hu e9) ?_)))
      rintro _ σ3 ⟨rfl, fσ3, gσ3⟩
      have hf_σ3 : ql lGo σ σ3 := hf_σ2.tr (fσ3.mn rfl)
      refine And.intro rfl (Exists.intro 207 (And.intro rfl ?_))
      refine Exists.intro (nI 4) (And.intro rfl ?_)
      refine Exists.intro (nI 0) (And.intro rfl ?_)
      obtain ⟨σ4, eσ4⟩ : ∃ zs, zs = (qx_wi σ3 207 4 (nI 0)) := ⟨_, rfl⟩
      have fσ4 := qn_wi eσ4
      refine Exists.intro (4) (Exists.intro σ4 (And.intro rfl (And.intro ⟨2788, rfl, by decide, by decide⟩ (And.intro eσ4.symm ?_))))
      have hf_σ4 : ql lGo σ σ4 := hf_σ3.tr (fσ4.mn rfl)
      refine And.intro rfl (Exists.intro _ (And.intro (by decide) (qx_M_mono (m_changes (qn_rowS eσ4 gσ3) (by omega) hC.2.1 (fun k hk => Nat.lt_of_lt_of_le (hC.2.2 k hk).2 h10) (mG.fr (mG.fr (mG.fr ⟨aσ1, fun k hk => (bσ1 k hk).trans (hC.2.2 k hk).1⟩ fσ2 rfl (fun _ => rfl)) fσ3 rfl (fun _ => rfl)) fσ4 rfl (fun _ => rfl))) ?_)))
      rintro _ σ5 ⟨rfl, fσ5, gσ5⟩
      have hf_σ5 : ql lGo σ σ5 := hf_σ4.tr (fσ5.mn rfl)
      exact ⟨fun z => absurd z (by omega), fun _ => ⟨rfl, gσ5⟩, hf_σ5⟩
    · skip
      have h22 := nI_leF (a := q_lb S rf none (q_cm S) (s_n S 4)) (b := 0) (by omega) (by decide) h22
      refine Exists.intro ((-2)) (And.intro (by decide) ?_)
      refine Exists.intro (-2 - nI (q_lb S rf none (q_cm S) (s_n S 4))) (And.intro rfl ?_)
      exact ⟨fun _ => ⟨rfl, hX_σ2.1⟩, fun z => absurd z (by omega), hf_σ2⟩
  · skip
    have h7 := nI_leF (a := 2) (b := s_n S 4) (by decide) (by omega) h7
    exact absurd h7 (by omega)
theorem l_image {G : qx_G} {σ0 : qx_S} {S : qS} {k : Nat} (hk : k < 4) : ∀ (m i : Nat) (σ : qx_S), m = 2788 - i → i ≤ 2788 → ql [(227, none), (228, none)] σ0 σ → qx_mi σ 207 = S → (∀ j, qx_mi σ 228 j = if j = k then nI 1 else qx_mi σ0 228 j) → (∀ j, j < i → qx_mi σ 227 (2788 * k + j) = S j) → (∀ j, (j < 2788 * k ∨ 2788 * k + 2788 ≤ j) → qx_mi σ 227 j = qx_mi σ0 227 j) →
    qx_K G qc_T 1 RX12 YX12_image 23 [.ref 197, .int (nI k), .int (nI i)] [] σ (fun r s => r = some (.int (S 6)) ∧ ql [(227, none), (228, none)] σ0 s ∧ (∀ j, qx_mi s 228 j = if j = k then nI 1 else qx_mi σ0 228 j) ∧ (∀ j, j < 2788 → qx_mi s 227 (2788 * k + j) = S j) ∧ (∀ j, (j < 2788 * k ∨ 2788 * k + 2788 ≤ j) → qx_mi s 227 j = qx_mi σ0 227 j)) := by
  intro m
  induction m using Nat.strongRecOn with
  | _ m ih =>
    intro i σ hm hi hf hS y1 y2 y3
    refine qy_wp_ok (c := CX12_image) (cuts := [23]) vX12_image wX12_image 2000 23 _ _ _ ?_
    refine Exists.intro (nI 2788) (And.intro rfl ?_)
    refine And.intro (fun h27 => ?_) (fun h27 => ?_)
    · skip
      have h27 := nI_leT (a := 2788) (b := i) (by decide) (by omega) h27
      refine And.intro rfl (Exists.intro 207 (And.intro rfl ?_))
      refine Exists.intro (nI 6) (And.intro rfl ?_)
      refine Exists.intro (6) (Exists.intro (S 6) (And.intro rfl (And.intro ⟨2788, rfl, by decide, by decide⟩ (And.intro (congrFun hS 6) ?_))))
      exact ⟨rfl, hf, y1, fun j hj => y2 j (by omega), y3⟩
    · skip
      have h27 := nI_leF (a := 2788) (b := i) (by decide) (by omega) h27
      refine And.intro rfl (Exists.intro 227 (And.intro rfl ?_))
      refine Exists.intro (nI 2788) (And.intro rfl ?_)
      refine Exists.intro (nI (2788 * k)) (And.intro (pk_mul _ _) ?_)
      refine Exists.intro (nI (2788 * k + i)) (And.intro (nI_add _ _) ?_)
      refine And.intro rfl (Exists.intro 207 (And.intro rfl ?_))
      refine Exists.intro (i) (Exists.intro (S i) (And.intro rfl (And.intro ⟨2788, rfl, by omega, by decide⟩ (And.intro (congrFun hS i) ?_))))
      obtain ⟨σ1, eσ1⟩ : ∃ zs, zs = (qx_wi σ 227 (2788 * k + i) (S i)) := ⟨_, rfl⟩
      have fσ1 := qn_wi eσ1
      refine Exists.intro (2788 * k + i) (Exists.intro σ1 (And.intro rfl (And.intro ⟨11152, rfl, by omega, by decide⟩ (And.intro eσ1.symm ?_))))
      have hS_σ1 : qx_mi σ1 207 = S := (fσ1.row 207 (fun _ => rfl)).trans hS
      have hf_σ1 : ql [(227, none), (228, none)] σ0 σ1 := hf.tr (fσ1.mn rfl)
      refine Exists.intro (nI (i + 1)) (And.intro (nI_add _ _) ?_)
      refine ih _ (by omega) (i + 1) _ rfl (by omega) hf_σ1 hS_σ1 (fun j => (fσ1.i _ _ rfl).trans (y1 j)) (fun j hj => ?_) (fun j hj => (qn_ne eσ1 (Or.inr (by omega))).trans (y3 j hj))
      rcases Nat.lt_or_ge j i with z | z
      · exact (qn_ne eσ1 (Or.inr (by omega))).trans (y2 j z)
      · obtain rfl : j = i := by omega
        exact qn_eq eσ1
theorem m_image_no {G : qx_G} {σ : qx_S} {x : Int32} (hx : q_in64 x.toInt64 (lN 0) (lN 3) = false) : qx_M G qc_T 1 YX12_image [.ref 197, .int x] σ (qr (-1) σ) := by
  refine qx_M_in rfl (Nat.le_of_ble_eq_true rfl) ?_
  refine qy_wp_ok (c := CX12_image) (cuts := [23]) vX12_image wX12_image 2000 0 _ _ _ ?_
  refine Exists.intro x.toInt64 (And.intro rfl ?_)
  refine Exists.intro (lN 0) (And.intro rfl ?_)
  refine Exists.intro (lN 3) (And.intro (by decide) ?_)
  refine Exists.intro _ (And.intro (by decide) (qx_M_mono (m_in (v := x.toInt64) (l := (lN 0)) (h := (lN 3))) ?_))
  rintro _ _ ⟨rfl, rfl⟩
  refine And.intro (fun h9 => ?_) (fun h9 => ?_)
  · skip
    have h9 := bI_t h9
    exact absurd (h9.symm.trans (hx)) (by decide)
  · skip
    have h9 := bI_f h9
    refine Exists.intro ((-1)) (And.intro (by decide) ?_)
    exact ⟨rfl, rfl⟩
theorem m_image_ok {G : qx_G} {σ : qx_S} {S : qS} (hS : qx_mi σ 207 = S) {k : Nat} (hk : k < 4) : qx_M G qc_T 1 YX12_image [.ref 197, .int (nI k)] σ (fun r s => r = some (.int (S 6)) ∧ ql [(227, none), (228, none)] σ s ∧ (∀ j, qx_mi s 228 j = if j = k then nI 1 else qx_mi σ 228 j) ∧ (∀ j, j < 2788 → qx_mi s 227 (2788 * k + j) = S j) ∧ (∀ j, (j < 2788 * k ∨ 2788 * k + 2788 ≤ j) → qx_mi s 227 j = qx_mi σ 227 j)) := by
  refine qx_M_in rfl (Nat.le_of_ble_eq_true rfl) ?_
  refine qy_wp_ok (c := CX12_image) (cuts := [23]) vX12_image wX12_image 2000 0 _ _ _ ?_
  refine Exists.intro ((nI k).toInt64) (And.intro rfl ?_)
  refine Exists.intro (lN 0) (And.intro rfl ?_)
  refine Exists.intro (lN 3) (And.intro (by decide) ?_)
  refine Exists.intro _ (And.intro (by decide) (qx_M_mono (m_in (v := ((nI k).toInt64)) (l := (lN 0)) (h := (lN 3))) ?_))
  rintro _ _ ⟨rfl, rfl⟩
  refine And.intro (fun h9 => ?_) (fun h9 => ?_)
  · skip
    have h9 := bI_t h9
    refine And.intro rfl (Exists.intro 228 (And.intro rfl ?_))
    refine Exists.intro (nI 1) (And.intro rfl ?_)
    obtain ⟨σ1, eσ1⟩ : ∃ zs, zs = (qx_wi σ 228 k (nI 1)) := ⟨_, rfl⟩
    have fσ1 := qn_wi eσ1
    refine Or.inr (Exists.intro (k) (Exists.intro σ1 (And.intro rfl (And.intro ⟨4, rfl, by omega, by decide⟩ (And.intro (by decide) (And.intro eσ1.symm ?_))))))
    have hS_σ1 : qx_mi σ1 207 = S := (fσ1.row 207 (fun _ => rfl)).trans hS
    refine Exists.intro (nI 0) (And.intro rfl ?_)
    refine l_image hk _ 0 σ1 rfl (by omega) (fσ1.mn rfl) hS_σ1 (fun j => ?_) (fun j hj => absurd hj (by omega)) (fun j hj => fσ1.i _ _ rfl)
    by_cases h : j = k
    · rw [if_pos h, h]; exact qn_eq eσ1
    · rw [if_neg h]; exact qn_ne eσ1 (Or.inr h)
  · skip
    have h9 := bI_f h9
    exact absurd (h9.symm.trans (q_in_ok (by omega) (by omega) (by decide))) (by decide)
theorem l_back {G : qx_G} {σ0 : qx_S} {S I : qS} {k : Nat} (hk : k < 4) : ∀ (m i : Nat) (σ : qx_S), m = 2788 - i → i ≤ 2788 → ql [(207, none)] σ0 σ → (qx_mi σ 207 = fun j => if j < i then I j else S j) → (∀ j, j < 2788 → qx_mi σ 227 (2788 * k + j) = I j) →
    qx_K G qc_T 1 RX12 YX12_back 25 [.ref 197, .int (nI k), .int (nI i)] [] σ (fun r s => r = some (.int (I 6)) ∧ ql [(207, none)] σ0 s ∧ qx_mi s 207 = fun j => if j < 2788 then I j else S j) := by
  intro m
  induction m using Nat.strongRecOn with
  | _ m ih =>
    intro i σ hm hi hf hS y2
    rcases Nat.lt_or_ge i 2788 with hlt | hge
    · skip
      refine qy_wp_ok (c := CX12_back) (cuts := [25]) vX12_back wX12_back 2000 25 _ _ _ ?_
      refine Exists.intro (nI 2788) (And.intro rfl ?_)
      refine And.intro (fun h29 => ?_) (fun h29 => ?_)
      · skip
        have h29 := nI_leT (a := 2788) (b := i) (by decide) (by omega) h29
        exact absurd h29 (by omega)
      · skip
        have h29 := nI_leF (a := 2788) (b := i) (by decide) (by omega) h29
        refine And.intro rfl (Exists.intro 207 (And.intro rfl ?_))
        refine And.intro rfl (Exists.intro 227 (And.intro rfl ?_))
        refine Exists.intro (nI 2788) (And.intro rfl ?_)
        refine Exists.intro (nI (2788 * k)) (And.intro (pk_mul _ _) ?_)
        refine Exists.intro (nI (2788 * k + i)) (And.intro (nI_add _ _) ?_)
        refine Exists.intro (2788 * k + i) (Exists.intro (I i) (And.intro rfl (And.intro ⟨11152, rfl, by omega, by decide⟩ (And.intro (y2 i hlt) ?_))))
        obtain ⟨σ1, eσ1⟩ : ∃ zs, zs = (qx_wi σ 207 i (I i)) := ⟨_, rfl⟩
        have fσ1 := qn_wi eσ1
        refine Exists.intro (i) (Exists.intro σ1 (And.intro rfl (And.intro ⟨2788, rfl, by omega, by decide⟩ (And.intro eσ1.symm ?_))))
        have hf_σ1 : ql [(207, none)] σ0 σ1 := hf.tr (fσ1.mn rfl)
        refine Exists.intro (nI (i + 1)) (And.intro (nI_add _ _) ?_)
        refine ih _ (by omega) (i + 1) _ rfl (by omega) hf_σ1 ((qn_rowS eσ1 hS).trans ?_) (fun j hj => (fσ1.i _ _ rfl).trans (y2 j hj))
        refine up_ext (if_pos (by omega)) (fun j hj => ?_)
        show (if j < i + 1 then I j else S j) = if j < i then I j else S j
        by_cases z : j < i
        · rw [if_pos z, if_pos (by omega)]
        · rw [if_neg z, if_neg (by omega)]
    · obtain rfl : i = 2788 := by omega
      refine qy_wp_ok (c := CX12_back) (cuts := [25]) vX12_back wX12_back 2000 25 _ _ _ ?_
      refine Exists.intro (nI 2788) (And.intro rfl ?_)
      refine And.intro (fun h29 => ?_) (fun h29 => ?_)
      · skip
        refine And.intro rfl (Exists.intro 207 (And.intro rfl ?_))
        refine Exists.intro (nI 6) (And.intro rfl ?_)
        refine Exists.intro (6) (Exists.intro (I 6) (And.intro rfl (And.intro ⟨2788, rfl, by decide, by decide⟩ (And.intro ((congrFun hS 6).trans (if_pos (by omega))) ?_))))
        exact ⟨rfl, hf, hS⟩
      · skip
        exact absurd (by decide) h29
theorem m_back_no {G : qx_G} {σ : qx_S} {x : Int32} (hx : q_in64 x.toInt64 (lN 0) (lN 3) = false) : qx_M G qc_T 1 YX12_back [.ref 197, .int x] σ (qr (-1) σ) := by
  refine qx_M_in rfl (Nat.le_of_ble_eq_true rfl) ?_
  refine qy_wp_ok (c := CX12_back) (cuts := [25]) vX12_back wX12_back 2000 0 _ _ _ ?_
  refine Exists.intro x.toInt64 (And.intro rfl ?_)
  refine Exists.intro (lN 0) (And.intro rfl ?_)
  refine Exists.intro (lN 3) (And.intro (by decide) ?_)
  refine Exists.intro _ (And.intro (by decide) (qx_M_mono (m_in (v := x.toInt64) (l := (lN 0)) (h := (lN 3))) ?_))
  rintro _ _ ⟨rfl, rfl⟩
  refine And.intro (fun h9 => ?_) (fun h9 => ?_)
  · skip
    have h9 := bI_f h9
    refine Exists.intro ((-1)) (And.intro (by decide) ?_)
    exact ⟨rfl, rfl⟩
  · skip
    have h9 := bI_t h9
    exact absurd (hx.symm.trans h9) (by decide)
theorem m_back_no2 {G : qx_G} {σ : qx_S} {k : Nat} (hk : k < 4) (h0 : qx_mi σ 228 k = nI 0) : qx_M G qc_T 1 YX12_back [.ref 197, .int (nI k)] σ (qr (-1) σ) := by
  refine qx_M_in rfl (Nat.le_of_ble_eq_true rfl) ?_
  refine qy_wp_ok (c := CX12_back) (cuts := [25]) vX12_back wX12_back 2000 0 _ _ _ ?_
  refine Exists.intro ((nI k).toInt64) (And.intro rfl ?_)
  refine Exists.intro (lN 0) (And.intro rfl ?_)
  refine Exists.intro (lN 3) (And.intro (by decide) ?_)
  refine Exists.intro _ (And.intro (by decide) (qx_M_mono (m_in (v := ((nI k).toInt64)) (l := (lN 0)) (h := (lN 3))) ?_))
  rintro _ _ ⟨rfl, rfl⟩
  refine And.intro (fun h9 => ?_) (fun h9 => ?_)
  · skip
    have h9 := bI_f h9
    exact absurd (h9.symm.trans (q_in_ok (by omega) (by omega) (by decide))) (by decide)
  · skip
    have h9 := bI_t h9
    refine And.intro rfl (Exists.intro 228 (And.intro rfl ?_))
    refine Exists.intro (k) (Exists.intro (nI 0) (And.intro rfl (And.intro (Or.inr ⟨4, rfl, by omega, by decide⟩) (And.intro h0 ?_))))
    refine And.intro (fun h18 => ?_) (fun h18 => ?_)
    · skip
      exact absurd (by decide) h18
    · skip
      refine Exists.intro ((-1)) (And.intro (by decide) ?_)
      exact ⟨rfl, rfl⟩
theorem m_back_ok {G : qx_G} {σ : qx_S} {S I : qS} (hS : qx_mi σ 207 = S) {k : Nat} (hk : k < 4) (h1 : qx_mi σ 228 k = nI 1) (hI : ∀ j, j < 2788 → qx_mi σ 227 (2788 * k + j) = I j) : qx_M G qc_T 1 YX12_back [.ref 197, .int (nI k)] σ (fun r s => r = some (.int (I 6)) ∧ ql [(207, none)] σ s ∧ qx_mi s 207 = fun j => if j < 2788 then I j else S j) := by
  refine qx_M_in rfl (Nat.le_of_ble_eq_true rfl) ?_
  refine qy_wp_ok (c := CX12_back) (cuts := [25]) vX12_back wX12_back 2000 0 _ _ _ ?_
  refine Exists.intro ((nI k).toInt64) (And.intro rfl ?_)
  refine Exists.intro (lN 0) (And.intro rfl ?_)
  refine Exists.intro (lN 3) (And.intro (by decide) ?_)
  refine Exists.intro _ (And.intro (by decide) (qx_M_mono (m_in (v := ((nI k).toInt64)) (l := (lN 0)) (h := (lN 3))) ?_))
  rintro _ _ ⟨rfl, rfl⟩
  refine And.intro (fun h9 => ?_) (fun h9 => ?_)
  · skip
    have h9 := bI_f h9
    exact absurd (h9.symm.trans (q_in_ok (by omega) (by omega) (by decide))) (by decide)
  · skip
    have h9 := bI_t h9
    refine And.intro rfl (Exists.intro 228 (And.intro rfl ?_))
    refine Exists.intro (k) (Exists.intro (nI 1) (And.intro rfl (And.intro (Or.inr ⟨4, rfl, by omega, by decide⟩) (And.intro h1 ?_))))
    refine And.intro (fun h18 => ?_) (fun h18 => ?_)
    · skip
      refine Exists.intro (nI 0) (And.intro rfl ?_)
      exact l_back hk _ 0 σ rfl (by omega) qf.rf (hS.trans (funext fun j => (if_neg (by omega)).symm)) hI
    · skip
      exact absurd h18 (by decide)

