/-! THE REFERENCE: book, count, place, laid out -/
/-- the called become the n-th ring of the book -/
def q_bo (S : qS) (n k : Nat) : qS := fun i => if i = 254 + 7 * n then S 4 else if 254 + 7 * n + 1 ≤ i ∧ i < 254 + 7 * n + 1 + k then S (148 + (i - (254 + 7 * n + 1))) else S i
theorem q_bo_0 (S : qS) (n : Nat) : va_up S (254 + 7 * n) (S 4) = q_bo S n 0 := by
  refine up_ext (if_pos rfl) (fun i hi => ?_)
  unfold q_bo
  rw [if_neg hi, if_neg (by omega)]
theorem q_bo_lo (S : qS) {n k i : Nat} (hi : i < 254) : q_bo S n k i = S i := by
  unfold q_bo
  rw [if_neg (by omega), if_neg (by omega)]
theorem q_bo_s (S : qS) {n k : Nat} : va_up (q_bo S n k) (254 + 7 * n + 1 + k) (S (148 + k)) = q_bo S n (k + 1) := by
  refine up_ext ?_ (fun i hi => ?_)
  · unfold q_bo
    rw [if_neg (by omega), if_pos (by omega), show 254 + 7 * n + 1 + k - (254 + 7 * n + 1) = k by omega]
  · unfold q_bo
    repeat' split
    all_goals first | rfl | omega
theorem l_book {G : qx_G} {σ0 : qx_S} {S : qS} {n c : Nat} (hn : n < 12) (hc : c ≤ 6) (e4 : S 4 = nI c) (e5 : S 5 = nI n) : ∀ (m k : Nat) (σ : qx_S), m = c - k → k ≤ c → ql [(207, none)] σ0 σ → qx_mi σ 207 = q_bo S n k →
    qx_K G qc_T 0 RX12 YX12_book 51 [.ref 197, .int (nI (254 + 7 * n)), .int (nI k)] [] σ (fun r s => r = some (.int (nI n)) ∧ ql [(207, none)] σ0 s ∧ qx_mi s 207 = va_up (va_up (q_bo S n c) 4 (nI 0)) 5 (nI (n + 1))) := by
  intro m
  induction m using Nat.strongRecOn with
  | _ m ih =>
    intro k σ hm hk hf hS
    rcases Nat.lt_or_ge k c with hlt | hge
    · skip
      refine qy_wp_ok (c := CX12_book) (cuts := [51]) vX12_book wX12_book 2000 51 _ _ _ ?_
      refine And.intro rfl (Exists.intro 207 (And.intro rfl ?_))
      refine Exists.intro (nI 4) (And.intro rfl ?_)
      refine Exists.intro (4) (Exists.intro (nI c) (And.intro rfl (And.intro ⟨2788, rfl, by decide, by decide⟩ (And.intro ((congrFun hS 4).trans ((q_bo_lo S (by omega)).trans e4)) ?_))))
      refine And.intro (fun h58 => ?_) (fun h58 => ?_)
      · skip
        have h58 := nI_leT (a := c) (b := k) (by omega) (by omega) h58
        exact absurd h58 (by omega)
      · skip
        have h58 := nI_leF (a := c) (b := k) (by omega) (by omega) h58
        refine And.intro rfl (Exists.intro 207 (And.intro rfl ?_))
        refine Exists.intro (nI 1) (And.intro rfl ?_)
        refine Exists.intro (nI (254 + 7 * n + 1)) (And.intro (nI_add _ _) ?_)
        refine Exists.intro (nI (254 + 7 * n + 1 + k)) (And.intro (nI_add _ _) ?_)
        refine And.intro rfl (Exists.intro 207 (And.intro rfl ?_))
        refine Exists.intro (nI 148) (And.intro rfl ?_)
        refine Exists.intro (nI (148 + k)) (And.intro (nI_add _ _) ?_)
        refine Exists.intro (148 + k) (Exists.intro (S (148 + k)) (And.intro rfl (And.intro ⟨2788, rfl, by omega, by decide⟩ (And.intro ((congrFun hS _).trans (q_bo_lo S (by omega))) ?_))))
        obtain ⟨σ1, eσ1⟩ : ∃ zs, zs = (qx_wi σ 207 (254 + 7 * n + 1 + k) (S (148 + k))) := ⟨_, rfl⟩
        have fσ1 := qn_wi eσ1
        refine Exists.intro (254 + 7 * n + 1 + k) (Exists.intro σ1 (And.intro rfl (And.intro ⟨2788, rfl, by omega, by decide⟩ (And.intro eσ1.symm ?_))))
        have hf_σ1 : ql [(207, none)] σ0 σ1 := hf.tr fσ1
        have hS_σ1 : qx_mi σ1 207 = q_bo S n (k + 1) := (qn_rowS eσ1 hS).trans (q_bo_s S)
        refine Exists.intro (nI (k + 1)) (And.intro (nI_add _ _) ?_)
        exact ih _ (by omega) (k + 1) _ rfl (by omega) hf_σ1 hS_σ1
    · obtain rfl : k = c := by omega
      refine qy_wp_ok (c := CX12_book) (cuts := [51]) vX12_book wX12_book 2000 51 _ _ _ ?_
      refine And.intro rfl (Exists.intro 207 (And.intro rfl ?_))
      refine Exists.intro (nI 4) (And.intro rfl ?_)
      refine Exists.intro (4) (Exists.intro (nI k) (And.intro rfl (And.intro ⟨2788, rfl, by decide, by decide⟩ (And.intro ((congrFun hS 4).trans ((q_bo_lo S (by omega)).trans e4)) ?_))))
      refine And.intro (fun h58 => ?_) (fun h58 => ?_)
      · skip
        have h58 := nI_leT (a := k) (b := k) (by omega) (by omega) h58
        refine And.intro rfl (Exists.intro 207 (And.intro rfl ?_))
        refine Exists.intro (nI 4) (And.intro rfl ?_)
        refine Exists.intro (nI 0) (And.intro rfl ?_)
        obtain ⟨σ1, eσ1⟩ : ∃ zs, zs = (qx_wi σ 207 4 (nI 0)) := ⟨_, rfl⟩
        have fσ1 := qn_wi eσ1
        refine Exists.intro (4) (Exists.intro σ1 (And.intro rfl (And.intro ⟨2788, rfl, by decide, by decide⟩ (And.intro eσ1.symm ?_))))
        have hf_σ1 : ql [(207, none)] σ0 σ1 := hf.tr fσ1
        have hS_σ1 : qx_mi σ1 207 = va_up (q_bo S n k) 4 (nI 0) := qn_rowS eσ1 hS
        refine And.intro rfl (Exists.intro 207 (And.intro rfl ?_))
        refine Exists.intro (nI 5) (And.intro rfl ?_)
        refine Exists.intro (5) (Exists.intro (nI n) (And.intro rfl (And.intro ⟨2788, rfl, by decide, by decide⟩ (And.intro ((congrFun hS_σ1 5).trans ((va_up_ne _ _ (by omega)).trans ((q_bo_lo S (by omega)).trans e5))) ?_))))
        refine Exists.intro (nI 1) (And.intro rfl ?_)
        refine Exists.intro (nI (n + 1)) (And.intro (nI_add _ _) ?_)
        obtain ⟨σ2, eσ2⟩ : ∃ zs, zs = (qx_wi σ1 207 5 (nI (n + 1))) := ⟨_, rfl⟩
        have fσ2 := qn_wi eσ2
        refine Exists.intro (5) (Exists.intro σ2 (And.intro rfl (And.intro ⟨2788, rfl, by decide, by decide⟩ (And.intro eσ2.symm ?_))))
        have hf_σ2 : ql [(207, none)] σ0 σ2 := hf_σ1.tr fσ2
        have hS_σ2 : qx_mi σ2 207 = va_up (va_up (q_bo S n k) 4 (nI 0)) 5 (nI (n + 1)) := qn_rowS eσ2 hS_σ1
        refine And.intro rfl (Exists.intro 207 (And.intro rfl ?_))
        refine Exists.intro (nI 5) (And.intro rfl ?_)
        refine Exists.intro (5) (Exists.intro (nI (n + 1)) (And.intro rfl (And.intro ⟨2788, rfl, by decide, by decide⟩ (And.intro (qn_eq eσ2) ?_))))
        refine Exists.intro (nI 1) (And.intro rfl ?_)
        refine Exists.intro (nI n) (And.intro (nI_sub (by omega)) ?_)
        exact ⟨rfl, hf_σ2, hS_σ2⟩
      · skip
        have h58 := nI_leF (a := k) (b := k) (by omega) (by omega) h58
        exact absurd h58 (by omega)
theorem m_book_no {G : qx_G} {σ : qx_S} {S : qS} (hS : qx_mi σ 207 = S) {n c : Nat} (hn : n ≤ 12) (hc : c ≤ 6) (e4 : S 4 = nI c) (e5 : S 5 = nI n) (hb : c < 2 ∨ n = 12) : qx_M G qc_T 0 YX12_book [.ref 197] σ (qr (-1) σ) := by
  refine qx_M_in rfl (Nat.le_of_ble_eq_true rfl) ?_
  refine qy_wp_ok (c := CX12_book) (cuts := [51]) vX12_book wX12_book 2000 0 _ _ _ ?_
  refine And.intro rfl (Exists.intro 207 (And.intro rfl ?_))
  refine Exists.intro (nI 4) (And.intro rfl ?_)
  refine Exists.intro (4) (Exists.intro (nI c) (And.intro rfl (And.intro ⟨2788, rfl, by decide, by decide⟩ (And.intro ((congrFun hS 4).trans e4) ?_))))
  refine Exists.intro (nI 2) (And.intro rfl ?_)
  refine And.intro (fun h7 => ?_) (fun h7 => ?_)
  · skip
    have h7 := nI_ltT (a := c) (b := 2) (by omega) (by decide) h7
    refine Exists.intro ((-1)) (And.intro (by decide) ?_)
    exact ⟨rfl, rfl⟩
  · skip
    have h7 := nI_ltF (a := c) (b := 2) (by omega) (by decide) h7
    refine And.intro rfl (Exists.intro 207 (And.intro rfl ?_))
    refine Exists.intro (nI 5) (And.intro rfl ?_)
    refine Exists.intro (5) (Exists.intro (nI n) (And.intro rfl (And.intro ⟨2788, rfl, by decide, by decide⟩ (And.intro ((congrFun hS 5).trans e5) ?_))))
    refine Exists.intro (nI 12) (And.intro rfl ?_)
    refine And.intro (fun h18 => ?_) (fun h18 => ?_)
    · skip
      have h18 := nI_neT (a := n) (b := 12) (by omega) (by decide) h18
      exact absurd hb (by omega)
    · skip
      have h18 := nI_eqT (a := n) (b := 12) (by omega) (by decide) h18
      refine Exists.intro ((-1)) (And.intro (by decide) ?_)
      exact ⟨rfl, rfl⟩
theorem m_book_ok {G : qx_G} {σ : qx_S} {S : qS} (hS : qx_mi σ 207 = S) {n c : Nat} (hn : n < 12) (hc : c ≤ 6) (e4 : S 4 = nI c) (e5 : S 5 = nI n) (hb : 2 ≤ c) : qx_M G qc_T 0 YX12_book [.ref 197] σ (fun r s => r = some (.int (nI n)) ∧ ql [(207, none)] σ s ∧ qx_mi s 207 = va_up (va_up (q_bo S n c) 4 (nI 0)) 5 (nI (n + 1))) := by
  refine qx_M_in rfl (Nat.le_of_ble_eq_true rfl) ?_
  refine qy_wp_ok (c := CX12_book) (cuts := [51]) vX12_book wX12_book 2000 0 _ _ _ ?_
  refine And.intro rfl (Exists.intro 207 (And.intro rfl ?_))
  refine Exists.intro (nI 4) (And.intro rfl ?_)
  refine Exists.intro (4) (Exists.intro (nI c) (And.intro rfl (And.intro ⟨2788, rfl, by decide, by decide⟩ (And.intro ((congrFun hS 4).trans e4) ?_))))
  refine Exists.intro (nI 2) (And.intro rfl ?_)
  refine And.intro (fun h7 => ?_) (fun h7 => ?_)
  · skip
    have h7 := nI_ltT (a := c) (b := 2) (by omega) (by decide) h7
    exact absurd h7 (by omega)
  · skip
    have h7 := nI_ltF (a := c) (b := 2) (by omega) (by decide) h7
    refine And.intro rfl (Exists.intro 207 (And.intro rfl ?_))
    refine Exists.intro (nI 5) (And.intro rfl ?_)
    refine Exists.intro (5) (Exists.intro (nI n) (And.intro rfl (And.intro ⟨2788, rfl, by decide, by decide⟩ (And.intro ((congrFun hS 5).trans e5) ?_))))
    refine Exists.intro (nI 12) (And.intro rfl ?_)
    refine And.intro (fun h18 => ?_) (fun h18 => ?_)
    · skip
      have h18 := nI_neT (a := n) (b := 12) (by omega) (by decide) h18
      refine Exists.intro (nI 254) (And.intro rfl ?_)
      refine Exists.intro (nI 7) (And.intro rfl ?_)
      refine And.intro rfl (Exists.intro 207 (And.intro rfl ?_))
      refine Exists.intro (nI 5) (And.intro rfl ?_)
      refine Exists.intro (5) (Exists.intro (nI n) (And.intro rfl (And.intro ⟨2788, rfl, by decide, by decide⟩ (And.intro ((congrFun hS 5).trans e5) ?_))))
      refine Exists.intro (nI (7 * n)) (And.intro (pk_mul _ _) ?_)
      refine Exists.intro (nI (254 + 7 * n)) (And.intro (nI_add _ _) ?_)
      refine And.intro rfl (Exists.intro 207 (And.intro rfl ?_))
      refine And.intro rfl (Exists.intro 207 (And.intro rfl ?_))
      refine Exists.intro (nI 4) (And.intro rfl ?_)
      refine Exists.intro (4) (Exists.intro (nI c) (And.intro rfl (And.intro ⟨2788, rfl, by decide, by decide⟩ (And.intro ((congrFun hS 4).trans e4) ?_))))
      obtain ⟨σ1, eσ1⟩ : ∃ zs, zs = (qx_wi σ 207 (254 + 7 * n) (nI c)) := ⟨_, rfl⟩
      have fσ1 := qn_wi eσ1
      refine Exists.intro (254 + 7 * n) (Exists.intro σ1 (And.intro rfl (And.intro ⟨2788, rfl, by omega, by decide⟩ (And.intro eσ1.symm ?_))))
      refine Exists.intro (nI 0) (And.intro rfl ?_)
      exact l_book hn hc e4 e5 _ 0 σ1 rfl (by omega) fσ1 ((qn_rowS eσ1 hS).trans (by rw [← e4]; exact q_bo_0 S n))
    · skip
      have h18 := nI_eqT (a := n) (b := 12) (by omega) (by decide) h18
      exact absurd h18 (by omega)
theorem m_count_0 {G : qx_G} {σ : qx_S} {S : qS} (hS : qx_mi σ 207 = S) : qx_M G qc_T 2 YX12_count [.ref 197, .int (nI 0)] σ (qr (S 0) σ) := by
  refine qx_M_in rfl (Nat.le_of_ble_eq_true rfl) ?_
  refine qy_wp_ok (c := CX12_count) (cuts := [123, 151]) vX12_count wX12_count 2000 0 _ _ _ ?_
  refine Exists.intro (nI 0) (And.intro rfl ?_)
  refine And.intro (fun _ => ?_) (fun h => absurd rfl h)
  refine And.intro rfl (Exists.intro 207 (And.intro rfl ?_))
  refine Exists.intro (0) (Exists.intro (S 0) (And.intro rfl (And.intro ⟨2788, rfl, by decide, by decide⟩ (And.intro (congrFun hS 0) ?_))))
  exact ⟨rfl, rfl⟩
theorem m_count_1 {G : qx_G} {σ : qx_S} {S : qS} (hS : qx_mi σ 207 = S) : qx_M G qc_T 2 YX12_count [.ref 197, .int (nI 1)] σ (qr (S 1) σ) := by
  refine qx_M_in rfl (Nat.le_of_ble_eq_true rfl) ?_
  refine qy_wp_ok (c := CX12_count) (cuts := [123, 151]) vX12_count wX12_count 2000 0 _ _ _ ?_
  refine Exists.intro (nI 0) (And.intro rfl ?_)
  refine And.intro (fun h => absurd h (by decide)) (fun _ => ?_)
  refine And.intro (fun _ => ?_) (fun h => absurd rfl h)
  refine And.intro rfl (Exists.intro 207 (And.intro rfl ?_))
  refine Exists.intro (1) (Exists.intro (S 1) (And.intro rfl (And.intro ⟨2788, rfl, by decide, by decide⟩ (And.intro (congrFun hS 1) ?_))))
  exact ⟨rfl, rfl⟩
theorem m_count_2 {G : qx_G} {σ : qx_S} {S : qS} (hS : qx_mi σ 207 = S) : qx_M G qc_T 2 YX12_count [.ref 197, .int (nI 2)] σ (qr (S 2) σ) := by
  refine qx_M_in rfl (Nat.le_of_ble_eq_true rfl) ?_
  refine qy_wp_ok (c := CX12_count) (cuts := [123, 151]) vX12_count wX12_count 2000 0 _ _ _ ?_
  refine Exists.intro (nI 0) (And.intro rfl ?_)
  refine And.intro (fun h => absurd h (by decide)) (fun _ => ?_)
  refine And.intro (fun h => absurd h (by decide)) (fun _ => ?_)
  refine And.intro (fun _ => ?_) (fun h => absurd rfl h)
  refine And.intro rfl (Exists.intro 207 (And.intro rfl ?_))
  refine Exists.intro (2) (Exists.intro (S 2) (And.intro rfl (And.intro ⟨2788, rfl, by decide, by decide⟩ (And.intro (congrFun hS 2) ?_))))
  exact ⟨rfl, rfl⟩
theorem m_count_3 {G : qx_G} {σ : qx_S} {v : Int32} (hv : qx_mi σ 197 2 = v) : qx_M G qc_T 2 YX12_count [.ref 197, .int (nI 3)] σ (qr v σ) := by
  refine qx_M_in rfl (Nat.le_of_ble_eq_true rfl) ?_
  refine qy_wp_ok (c := CX12_count) (cuts := [123, 151]) vX12_count wX12_count 2000 0 _ _ _ ?_
  refine Exists.intro (nI 0) (And.intro rfl ?_)
  refine And.intro (fun h => absurd h (by decide)) (fun _ => ?_)
  refine And.intro (fun h => absurd h (by decide)) (fun _ => ?_)
  refine And.intro (fun h => absurd h (by decide)) (fun _ => ?_)
  refine And.intro (fun _ => ?_) (fun h => absurd rfl h)
  refine And.intro rfl (Exists.intro 2 (Exists.intro v (And.intro rfl (And.intro hv ?_))))
  exact ⟨rfl, rfl⟩
theorem m_count_4 {G : qx_G} {σ : qx_S} {S : qS} (hS : qx_mi σ 207 = S) : qx_M G qc_T 2 YX12_count [.ref 197, .int (nI 4)] σ (qr (S 7) σ) := by
  refine qx_M_in rfl (Nat.le_of_ble_eq_true rfl) ?_
  refine qy_wp_ok (c := CX12_count) (cuts := [123, 151]) vX12_count wX12_count 2000 0 _ _ _ ?_
  refine Exists.intro (nI 0) (And.intro rfl ?_)
  refine And.intro (fun h => absurd h (by decide)) (fun _ => ?_)
  refine And.intro (fun h => absurd h (by decide)) (fun _ => ?_)
  refine And.intro (fun h => absurd h (by decide)) (fun _ => ?_)
  refine And.intro (fun h => absurd h (by decide)) (fun _ => ?_)
  refine And.intro (fun _ => ?_) (fun h => absurd rfl h)
  refine And.intro rfl (Exists.intro 207 (And.intro rfl ?_))
  refine Exists.intro (nI 7) (And.intro rfl ?_)
  refine Exists.intro (7) (Exists.intro (S 7) (And.intro rfl (And.intro ⟨2788, rfl, by decide, by decide⟩ (And.intro (congrFun hS 7) ?_))))
  exact ⟨rfl, rfl⟩
theorem m_count_5 {G : qx_G} {σ : qx_S} {S : qS} (hS : qx_mi σ 207 = S) : qx_M G qc_T 2 YX12_count [.ref 197, .int (nI 5)] σ (qr (S 3) σ) := by
  refine qx_M_in rfl (Nat.le_of_ble_eq_true rfl) ?_
  refine qy_wp_ok (c := CX12_count) (cuts := [123, 151]) vX12_count wX12_count 2000 0 _ _ _ ?_
  refine Exists.intro (nI 0) (And.intro rfl ?_)
  refine And.intro (fun h => absurd h (by decide)) (fun _ => ?_)
  refine And.intro (fun h => absurd h (by decide)) (fun _ => ?_)
  refine And.intro (fun h => absurd h (by decide)) (fun _ => ?_)
  refine And.intro (fun h => absurd h (by decide)) (fun _ => ?_)
  refine And.intro (fun h => absurd h (by decide)) (fun _ => ?_)
  refine And.intro (fun _ => ?_) (fun h => absurd rfl h)
  refine And.intro rfl (Exists.intro 207 (And.intro rfl ?_))
  refine Exists.intro (nI 3) (And.intro rfl ?_)
  refine Exists.intro (3) (Exists.intro (S 3) (And.intro rfl (And.intro ⟨2788, rfl, by decide, by decide⟩ (And.intro (congrFun hS 3) ?_))))
  exact ⟨rfl, rfl⟩
theorem m_count_6 {G : qx_G} {σ : qx_S} {S : qS} (hS : qx_mi σ 207 = S) : qx_M G qc_T 2 YX12_count [.ref 197, .int (nI 6)] σ (qr (S 4) σ) := by
  refine qx_M_in rfl (Nat.le_of_ble_eq_true rfl) ?_
  refine qy_wp_ok (c := CX12_count) (cuts := [123, 151]) vX12_count wX12_count 2000 0 _ _ _ ?_
  refine Exists.intro (nI 0) (And.intro rfl ?_)
  refine And.intro (fun h => absurd h (by decide)) (fun _ => ?_)
  refine And.intro (fun h => absurd h (by decide)) (fun _ => ?_)
  refine And.intro (fun h => absurd h (by decide)) (fun _ => ?_)
  refine And.intro (fun h => absurd h (by decide)) (fun _ => ?_)
  refine And.intro (fun h => absurd h (by decide)) (fun _ => ?_)
  refine And.intro (fun h => absurd h (by decide)) (fun _ => ?_)
  refine And.intro (fun _ => ?_) (fun h => absurd rfl h)
  refine And.intro rfl (Exists.intro 207 (And.intro rfl ?_))
  refine Exists.intro (nI 4) (And.intro rfl ?_)
  refine Exists.intro (4) (Exists.intro (S 4) (And.intro rfl (And.intro ⟨2788, rfl, by decide, by decide⟩ (And.intro (congrFun hS 4) ?_))))
  exact ⟨rfl, rfl⟩
theorem m_count_7 {G : qx_G} {σ : qx_S} {S : qS} (hS : qx_mi σ 207 = S) : qx_M G qc_T 2 YX12_count [.ref 197, .int (nI 7)] σ (qr (S 5) σ) := by
  refine qx_M_in rfl (Nat.le_of_ble_eq_true rfl) ?_
  refine qy_wp_ok (c := CX12_count) (cuts := [123, 151]) vX12_count wX12_count 2000 0 _ _ _ ?_
  refine Exists.intro (nI 0) (And.intro rfl ?_)
  refine And.intro (fun h => absurd h (by decide)) (fun _ => ?_)
  refine And.intro (fun h => absurd h (by decide)) (fun _ => ?_)
  refine And.intro (fun h => absurd h (by decide)) (fun _ => ?_)
  refine And.intro (fun h => absurd h (by decide)) (fun _ => ?_)
  refine And.intro (fun h => absurd h (by decide)) (fun _ => ?_)
  refine And.intro (fun h => absurd h (by decide)) (fun _ => ?_)
  refine And.intro (fun h => absurd h (by decide)) (fun _ => ?_)
  refine And.intro (fun _ => ?_) (fun h => absurd rfl h)
  refine And.intro rfl (Exists.intro 207 (And.intro rfl ?_))
  refine Exists.intro (nI 5) (And.intro rfl ?_)
  refine Exists.intro (5) (Exists.intro (S 5) (And.intro rfl (And.intro ⟨2788, rfl, by decide, by decide⟩ (And.intro (congrFun hS 5) ?_))))
  exact ⟨rfl, rfl⟩
theorem m_count_8 {G : qx_G} {σ : qx_S} {S : qS} (hS : qx_mi σ 207 = S) : qx_M G qc_T 2 YX12_count [.ref 197, .int (nI 8)] σ (qr (S 9) σ) := by
  refine qx_M_in rfl (Nat.le_of_ble_eq_true rfl) ?_
  refine qy_wp_ok (c := CX12_count) (cuts := [123, 151]) vX12_count wX12_count 2000 0 _ _ _ ?_
  refine Exists.intro (nI 0) (And.intro rfl ?_)
  refine And.intro (fun h => absurd h (by decide)) (fun _ => ?_)
  refine And.intro (fun h => absurd h (by decide)) (fun _ => ?_)
  refine And.intro (fun h => absurd h (by decide)) (fun _ => ?_)
  refine And.intro (fun h => absurd h (by decide)) (fun _ => ?_)
  refine And.intro (fun h => absurd h (by decide)) (fun _ => ?_)
  refine And.intro (fun h => absurd h (by decide)) (fun _ => ?_)
  refine And.intro (fun h => absurd h (by decide)) (fun _ => ?_)
  refine And.intro (fun h => absurd h (by decide)) (fun _ => ?_)
  refine And.intro (fun _ => ?_) (fun h => absurd rfl h)
  refine And.intro rfl (Exists.intro 207 (And.intro rfl ?_))
  refine Exists.intro (nI 9) (And.intro rfl ?_)
  refine Exists.intro (9) (Exists.intro (S 9) (And.intro rfl (And.intro ⟨2788, rfl, by decide, by decide⟩ (And.intro (congrFun hS 9) ?_))))
  exact ⟨rfl, rfl⟩
theorem m_count_11 {G : qx_G} {σ : qx_S} {S : qS} (hS : qx_mi σ 207 = S) : qx_M G qc_T 2 YX12_count [.ref 197, .int (nI 11)] σ (qr (S 6) σ) := by
  refine qx_M_in rfl (Nat.le_of_ble_eq_true rfl) ?_
  refine qy_wp_ok (c := CX12_count) (cuts := [123, 151]) vX12_count wX12_count 2000 0 _ _ _ ?_
  refine Exists.intro (nI 0) (And.intro rfl ?_)
  refine And.intro (fun h => absurd h (by decide)) (fun _ => ?_)
  refine And.intro (fun h => absurd h (by decide)) (fun _ => ?_)
  refine And.intro (fun h => absurd h (by decide)) (fun _ => ?_)
  refine And.intro (fun h => absurd h (by decide)) (fun _ => ?_)
  refine And.intro (fun h => absurd h (by decide)) (fun _ => ?_)
  refine And.intro (fun h => absurd h (by decide)) (fun _ => ?_)
  refine And.intro (fun h => absurd h (by decide)) (fun _ => ?_)
  refine And.intro (fun h => absurd h (by decide)) (fun _ => ?_)
  refine And.intro (fun h => absurd h (by decide)) (fun _ => ?_)
  refine And.intro (fun h => absurd h (by decide)) (fun _ => ?_)
  refine And.intro (fun h => absurd h (by decide)) (fun _ => ?_)
  refine And.intro (fun _ => ?_) (fun h => absurd rfl h)
  refine And.intro rfl (Exists.intro 207 (And.intro rfl ?_))
  refine Exists.intro (nI 6) (And.intro rfl ?_)
  refine Exists.intro (6) (Exists.intro (S 6) (And.intro rfl (And.intro ⟨2788, rfl, by decide, by decide⟩ (And.intro (congrFun hS 6) ?_))))
  exact ⟨rfl, rfl⟩
theorem m_count_12 {G : qx_G} {σ : qx_S} {S : qS} (hS : qx_mi σ 207 = S) : qx_M G qc_T 2 YX12_count [.ref 197, .int (nI 12)] σ (qr (S 8) σ) := by
  refine qx_M_in rfl (Nat.le_of_ble_eq_true rfl) ?_
  refine qy_wp_ok (c := CX12_count) (cuts := [123, 151]) vX12_count wX12_count 2000 0 _ _ _ ?_
  refine Exists.intro (nI 0) (And.intro rfl ?_)
  refine And.intro (fun h => absurd h (by decide)) (fun _ => ?_)
  refine And.intro (fun h => absurd h (by decide)) (fun _ => ?_)
  refine And.intro (fun h => absurd h (by decide)) (fun _ => ?_)
  refine And.intro (fun h => absurd h (by decide)) (fun _ => ?_)
  refine And.intro (fun h => absurd h (by decide)) (fun _ => ?_)
  refine And.intro (fun h => absurd h (by decide)) (fun _ => ?_)
  refine And.intro (fun h => absurd h (by decide)) (fun _ => ?_)
  refine And.intro (fun h => absurd h (by decide)) (fun _ => ?_)
  refine And.intro (fun h => absurd h (by decide)) (fun _ => ?_)
  refine And.intro (fun h => absurd h (by decide)) (fun _ => ?_)
  refine And.intro (fun h => absurd h (by decide)) (fun _ => ?_)
  refine And.intro (fun h => absurd h (by decide)) (fun _ => ?_)
  refine And.intro (fun _ => ?_) (fun h => absurd rfl h)
  refine And.intro rfl (Exists.intro 207 (And.intro rfl ?_))
  refine Exists.intro (nI 8) (And.intro rfl ?_)
  refine Exists.intro (8) (Exists.intro (S 8) (And.intro rfl (And.intro ⟨2788, rfl, by decide, by decide⟩ (And.intro (congrFun hS 8) ?_))))
  exact ⟨rfl, rfl⟩
theorem m_count_13 {G : qx_G} {σ : qx_S} {v : Int32} (hv : qx_mi σ 197 1 = v) : qx_M G qc_T 2 YX12_count [.ref 197, .int (nI 13)] σ (qr v σ) := by
  refine qx_M_in rfl (Nat.le_of_ble_eq_true rfl) ?_
  refine qy_wp_ok (c := CX12_count) (cuts := [123, 151]) vX12_count wX12_count 2000 0 _ _ _ ?_
  refine Exists.intro (nI 0) (And.intro rfl ?_)
  refine And.intro (fun h => absurd h (by decide)) (fun _ => ?_)
  refine And.intro (fun h => absurd h (by decide)) (fun _ => ?_)
  refine And.intro (fun h => absurd h (by decide)) (fun _ => ?_)
  refine And.intro (fun h => absurd h (by decide)) (fun _ => ?_)
  refine And.intro (fun h => absurd h (by decide)) (fun _ => ?_)
  refine And.intro (fun h => absurd h (by decide)) (fun _ => ?_)
  refine And.intro (fun h => absurd h (by decide)) (fun _ => ?_)
  refine And.intro (fun h => absurd h (by decide)) (fun _ => ?_)
  refine And.intro (fun h => absurd h (by decide)) (fun _ => ?_)
  refine And.intro (fun h => absurd h (by decide)) (fun _ => ?_)
  refine And.intro (fun h => absurd h (by decide)) (fun _ => ?_)
  refine And.intro (fun h => absurd h (by decide)) (fun _ => ?_)
  refine And.intro (fun h => absurd h (by decide)) (fun _ => ?_)
  refine And.intro (fun _ => ?_) (fun h => absurd rfl h)
  refine And.intro rfl (Exists.intro 1 (Exists.intro v (And.intro rfl (And.intro hv ?_))))
  exact ⟨rfl, rfl⟩
theorem l_count9 {G : qx_G} {σ : qx_S} {S : qS} (hS : qx_mi σ 207 = S) {pe : Nat} (e1 : S 1 = nI pe) (hpe : pe ≤ 10) : ∀ (m p : Nat) (n : Int32), m = pe - p → p ≤ pe → n = q_sum (fun p => q_sum (fun k => S (154 + 10 * p + k)) pe) p →
    qx_K G qc_T 2 RX12 YX12_count 123 [.ref 197, .retAddr 0, .int n, .int (nI p)] [] σ (qr (q_sum (fun p => q_sum (fun k => S (154 + 10 * p + k)) pe) pe) σ) := by
  intro m
  induction m using Nat.strongRecOn with
  | _ m ih =>
    intro p n hm hp hn
    refine qy_wp_ok (c := CX12_count) (cuts := [123]) vX12_count wX12_count 2000 123 _ _ _ ?_
    refine And.intro rfl (Exists.intro 207 (And.intro rfl ?_))
    refine Exists.intro (nI 1) (And.intro rfl ?_)
    refine Exists.intro (1) (Exists.intro (nI pe) (And.intro rfl (And.intro ⟨2788, rfl, by decide, by decide⟩ (And.intro ((congrFun hS 1).trans e1) ?_))))
    refine And.intro (fun h130 => ?_) (fun h130 => ?_)
    · skip
      have h130 := nI_leT (a := pe) (b := p) (by omega) (by omega) h130
      exact ⟨by rw [hn, show p = pe by omega], rfl⟩
    · skip
      have h130 := nI_leF (a := pe) (b := p) (by omega) (by omega) h130
      refine And.intro rfl (Exists.intro _ (And.intro (by decide) (qx_M_mono (m_owesInAll (p := p) hS (by omega) (by omega) e1) ?_)))
      rintro _ _ ⟨rfl, rfl⟩
      refine Exists.intro (n + (q_sum (fun k => S (154 + 10 * p + k)) pe)) (And.intro rfl ?_)
      refine Exists.intro (nI (p + 1)) (And.intro (nI_add _ _) ?_)
      exact ih _ (by omega) (p + 1) _ rfl (by omega) (by rw [hn]; rfl)
theorem m_count_9 {G : qx_G} {σ : qx_S} {S : qS} (hS : qx_mi σ 207 = S) {pe : Nat} (e1 : S 1 = nI pe) (hpe : pe ≤ 10) : qx_M G qc_T 2 YX12_count [.ref 197, .int (nI 9)] σ (qr (q_sum (fun p => q_sum (fun k => S (154 + 10 * p + k)) pe) pe) σ) := by
  refine qx_M_in rfl (Nat.le_of_ble_eq_true rfl) ?_
  refine qy_wp_ok (c := CX12_count) (cuts := [123, 151]) vX12_count wX12_count 2000 0 _ _ _ ?_
  refine Exists.intro (nI 0) (And.intro rfl ?_)
  refine And.intro (fun h => absurd h (by decide)) (fun _ => ?_)
  refine And.intro (fun h => absurd h (by decide)) (fun _ => ?_)
  refine And.intro (fun h => absurd h (by decide)) (fun _ => ?_)
  refine And.intro (fun h => absurd h (by decide)) (fun _ => ?_)
  refine And.intro (fun h => absurd h (by decide)) (fun _ => ?_)
  refine And.intro (fun h => absurd h (by decide)) (fun _ => ?_)
  refine And.intro (fun h => absurd h (by decide)) (fun _ => ?_)
  refine And.intro (fun h => absurd h (by decide)) (fun _ => ?_)
  refine And.intro (fun h => absurd h (by decide)) (fun _ => ?_)
  refine And.intro (fun _ => ?_) (fun h => absurd rfl h)
  refine Exists.intro (nI 0) (And.intro rfl ?_)
  refine qx_K_le (ls := [.ref 197, .retAddr 0, .int (nI 0), .int (nI 0)]) ⟨Or.inr rfl, Or.inl rfl, Or.inr rfl, Or.inr rfl, trivial⟩ ?_
  exact l_count9 hS e1 hpe _ 0 _ rfl (by omega) rfl
def q_fn (S : qS) : Nat → Nat
  | 0 => 0
  | p + 1 => q_fn S p + (if S (338 + p) < 0 then 0 else 1)
theorem l_count10 {G : qx_G} {σ : qx_S} {S : qS} (hS : qx_mi σ 207 = S) {pe : Nat} (e1 : S 1 = nI pe) (hpe : pe ≤ 10) : ∀ (m p : Nat), m = pe - p → p ≤ pe →
    qx_K G qc_T 2 RX12 YX12_count 151 [.ref 197, .retAddr 0, .int (nI (q_fn S p)), .int (nI p)] [] σ (qr (nI (q_fn S pe)) σ) := by
  intro m
  induction m using Nat.strongRecOn with
  | _ m ih =>
    intro p hm hp
    have u1 : S (338 + p) < 0 → q_fn S (p + 1) = q_fn S p + 0 := fun h => by show _ + (if _ then _ else _) = _; rw [if_pos h]
    have u2 : ¬ S (338 + p) < 0 → q_fn S (p + 1) = q_fn S p + 1 := fun h => by show _ + (if _ then _ else _) = _; rw [if_neg h]
    refine qy_wp_ok (c := CX12_count) (cuts := [151]) vX12_count wX12_count 2000 151 _ _ _ ?_
    refine And.intro rfl (Exists.intro 207 (And.intro rfl ?_))
    refine Exists.intro (nI 1) (And.intro rfl ?_)
    refine Exists.intro (1) (Exists.intro (nI pe) (And.intro rfl (And.intro ⟨2788, rfl, by decide, by decide⟩ (And.intro ((congrFun hS 1).trans e1) ?_))))
    refine And.intro (fun h158 => ?_) (fun h158 => ?_)
    · skip
      have h158 := nI_leT (a := pe) (b := p) (by omega) (by omega) h158
      exact ⟨by rw [show p = pe by omega], rfl⟩
    · skip
      have h158 := nI_leF (a := pe) (b := p) (by omega) (by omega) h158
      refine And.intro rfl (Exists.intro 207 (And.intro rfl ?_))
      refine Exists.intro (nI 338) (And.intro rfl ?_)
      refine Exists.intro (nI (338 + p)) (And.intro (nI_add _ _) ?_)
      refine Exists.intro (338 + p) (Exists.intro (S (338 + p)) (And.intro rfl (And.intro ⟨2788, rfl, by omega, by decide⟩ (And.intro (congrFun hS (338 + p)) ?_))))
      refine And.intro (fun h172 => ?_) (fun h172 => ?_)
      · skip
        refine Exists.intro (nI 1) (And.intro rfl ?_)
        refine Exists.intro (nI (q_fn S p + 1)) (And.intro (nI_add _ _) ?_)
        refine Exists.intro (nI (p + 1)) (And.intro (nI_add _ _) ?_)
        first | (rw [← u2 (Int32.not_lt.mpr h172)]; exact ih _ (by omega) (p + 1) rfl (by omega)) | (rw [← u1 (Int32.not_le.mp h172)]; exact ih _ (by omega) (p + 1) rfl (by omega))
      · skip
        refine Exists.intro (nI 0) (And.intro rfl ?_)
        refine Exists.intro (nI (q_fn S p + 0)) (And.intro (nI_add _ _) ?_)
        refine Exists.intro (nI (p + 1)) (And.intro (nI_add _ _) ?_)
        first | (rw [← u2 (Int32.not_lt.mpr h172)]; exact ih _ (by omega) (p + 1) rfl (by omega)) | (rw [← u1 (Int32.not_le.mp h172)]; exact ih _ (by omega) (p + 1) rfl (by omega))
theorem m_count_10 {G : qx_G} {σ : qx_S} {S : qS} (hS : qx_mi σ 207 = S) {pe : Nat} (e1 : S 1 = nI pe) (hpe : pe ≤ 10) : qx_M G qc_T 2 YX12_count [.ref 197, .int (nI 10)] σ (qr (nI (q_fn S pe)) σ) := by
  refine qx_M_in rfl (Nat.le_of_ble_eq_true rfl) ?_
  refine qy_wp_ok (c := CX12_count) (cuts := [123, 151]) vX12_count wX12_count 2000 0 _ _ _ ?_
  refine Exists.intro (nI 0) (And.intro rfl ?_)
  refine And.intro (fun h => absurd h (by decide)) (fun _ => ?_)
  refine And.intro (fun h => absurd h (by decide)) (fun _ => ?_)
  refine And.intro (fun h => absurd h (by decide)) (fun _ => ?_)
  refine And.intro (fun h => absurd h (by decide)) (fun _ => ?_)
  refine And.intro (fun h => absurd h (by decide)) (fun _ => ?_)
  refine And.intro (fun h => absurd h (by decide)) (fun _ => ?_)
  refine And.intro (fun h => absurd h (by decide)) (fun _ => ?_)
  refine And.intro (fun h => absurd h (by decide)) (fun _ => ?_)
  refine And.intro (fun h => absurd h (by decide)) (fun _ => ?_)
  refine And.intro (fun h => absurd h (by decide)) (fun _ => ?_)
  refine And.intro (fun _ => ?_) (fun h => absurd rfl h)
  refine Exists.intro (nI 0) (And.intro rfl ?_)
  refine qx_K_le (ls := [.ref 197, .retAddr 0, .int (nI 0), .int (nI 0)]) ⟨Or.inr rfl, Or.inl rfl, Or.inr rfl, Or.inr rfl, trivial⟩ ?_
  exact l_count10 hS e1 hpe _ 0 rfl (by omega)
theorem m_count_no {G : qx_G} {σ : qx_S} {x : Int32} (hx : ∀ w, w ≤ 13 → ¬ x = nI w) : qx_M G qc_T 2 YX12_count [.ref 197, .int x] σ (qr (-1) σ) := by
  refine qx_M_in rfl (Nat.le_of_ble_eq_true rfl) ?_
  refine qy_wp_ok (c := CX12_count) (cuts := [123, 151]) vX12_count wX12_count 2000 0 _ _ _ ?_
  refine Exists.intro (nI 0) (And.intro rfl ?_)
  refine And.intro (fun h3 => ?_) (fun h3_0 => ?_)
  · skip
    have h3 : x = nI 0 := h3
    exact absurd h3 (hx 0 (by decide))
  have h3_0 : ¬ x = nI 0 := h3_0
  refine And.intro (fun h3 => ?_) (fun h3_1 => ?_)
  · skip
    have h3 : x = nI 1 := h3
    exact absurd h3 (hx 1 (by decide))
  have h3_1 : ¬ x = nI 1 := h3_1
  refine And.intro (fun h3 => ?_) (fun h3_2 => ?_)
  · skip
    have h3 : x = nI 2 := h3
    exact absurd h3 (hx 2 (by decide))
  have h3_2 : ¬ x = nI 2 := h3_2
  refine And.intro (fun h3 => ?_) (fun h3_3 => ?_)
  · skip
    have h3 : x = nI 3 := h3
    exact absurd h3 (hx 3 (by decide))
  have h3_3 : ¬ x = nI 3 := h3_3
  refine And.intro (fun h3 => ?_) (fun h3_4 => ?_)
  · skip
    have h3 : x = nI 4 := h3
    exact absurd h3 (hx 4 (by decide))
  have h3_4 : ¬ x = nI 4 := h3_4
  refine And.intro (fun h3 => ?_) (fun h3_5 => ?_)
  · skip
    have h3 : x = nI 5 := h3
    exact absurd h3 (hx 5 (by decide))
  have h3_5 : ¬ x = nI 5 := h3_5
  refine And.intro (fun h3 => ?_) (fun h3_6 => ?_)
  · skip
    have h3 : x = nI 6 := h3
    exact absurd h3 (hx 6 (by decide))
  have h3_6 : ¬ x = nI 6 := h3_6
  refine And.intro (fun h3 => ?_) (fun h3_7 => ?_)
  · skip
    have h3 : x = nI 7 := h3
    exact absurd h3 (hx 7 (by decide))
  have h3_7 : ¬ x = nI 7 := h3_7
  refine And.intro (fun h3 => ?_) (fun h3_8 => ?_)
  · skip
    have h3 : x = nI 8 := h3
    exact absurd h3 (hx 8 (by decide))
  have h3_8 : ¬ x = nI 8 := h3_8
  refine And.intro (fun h3 => ?_) (fun h3_9 => ?_)
  · skip
    have h3 : x = nI 9 := h3
    exact absurd h3 (hx 9 (by decide))
  have h3_9 : ¬ x = nI 9 := h3_9
  refine And.intro (fun h3 => ?_) (fun h3_10 => ?_)
  · skip
    have h3 : x = nI 10 := h3
    exact absurd h3 (hx 10 (by decide))
  have h3_10 : ¬ x = nI 10 := h3_10
  refine And.intro (fun h3 => ?_) (fun h3_11 => ?_)
  · skip
    have h3 : x = nI 11 := h3
    exact absurd h3 (hx 11 (by decide))
  have h3_11 : ¬ x = nI 11 := h3_11
  refine And.intro (fun h3 => ?_) (fun h3_12 => ?_)
  · skip
    have h3 : x = nI 12 := h3
    exact absurd h3 (hx 12 (by decide))
  have h3_12 : ¬ x = nI 12 := h3_12
  refine And.intro (fun h3 => ?_) (fun h3_13 => ?_)
  · skip
    have h3 : x = nI 13 := h3
    exact absurd h3 (hx 13 (by decide))
  have h3_13 : ¬ x = nI 13 := h3_13
  refine Exists.intro ((-1)) (And.intro (by decide) ?_)
  exact ⟨rfl, rfl⟩
theorem l_callsAt {G : qx_G} {σ : qx_S} {S : qS} (hS : qx_mi σ 207 = S) {n : Nat} (e2 : S 2 = nI n) (hn : n ≤ 8) {q : Int32} : ∀ (m c : Nat), m = n - c → c ≤ n →
    qx_K G qc_T 0 RX12 YX12_callsAt 4 [.ref 197, .int q, .int (nI (q_ca S q c)), .int (nI c)] [] σ (qr (nI (q_ca S q n)) σ) := by
  intro m
  induction m using Nat.strongRecOn with
  | _ m ih =>
    intro c hm hc
    have u1 : S (140 + c) = q → q_ca S q (c + 1) = q_ca S q c + 1 := fun h => by show _ + (if _ then _ else _) = _; rw [if_pos h]
    have u2 : ¬ S (140 + c) = q → q_ca S q (c + 1) = q_ca S q c + 0 := fun h => by show _ + (if _ then _ else _) = _; rw [if_neg h]
    refine qy_wp_ok (c := CX12_callsAt) (cuts := [4]) vX12_callsAt wX12_callsAt 2000 4 _ _ _ ?_
    refine And.intro rfl (Exists.intro 207 (And.intro rfl ?_))
    refine Exists.intro (nI 2) (And.intro rfl ?_)
    refine Exists.intro (2) (Exists.intro (nI n) (And.intro rfl (And.intro ⟨2788, rfl, by decide, by decide⟩ (And.intro ((congrFun hS 2).trans e2) ?_))))
    refine And.intro (fun h11 => ?_) (fun h11 => ?_)
    · skip
      have h11 := nI_leT (a := n) (b := c) (by omega) (by omega) h11
      exact ⟨by rw [show c = n by omega], rfl⟩
    · skip
      have h11 := nI_leF (a := n) (b := c) (by omega) (by omega) h11
      refine And.intro rfl (Exists.intro 207 (And.intro rfl ?_))
      refine Exists.intro (nI 140) (And.intro rfl ?_)
      refine Exists.intro (nI (140 + c)) (And.intro (nI_add _ _) ?_)
      refine Exists.intro (140 + c) (Exists.intro (S (140 + c)) (And.intro rfl (And.intro ⟨2788, rfl, by omega, by decide⟩ (And.intro (congrFun hS (140 + c)) ?_))))
      refine And.intro (fun h26 => ?_) (fun h26 => ?_)
      · skip
        refine Exists.intro (nI 0) (And.intro rfl ?_)
        refine Exists.intro (nI (q_ca S q c + 0)) (And.intro (nI_add _ _) ?_)
        refine Exists.intro (nI (c + 1)) (And.intro (nI_add _ _) ?_)
        first | (rw [← u1 h26]; exact ih _ (by omega) (c + 1) rfl (by omega)) | (rw [← u2 h26]; exact ih _ (by omega) (c + 1) rfl (by omega))
      · skip
        refine Exists.intro (nI 1) (And.intro rfl ?_)
        refine Exists.intro (nI (q_ca S q c + 1)) (And.intro (nI_add _ _) ?_)
        refine Exists.intro (nI (c + 1)) (And.intro (nI_add _ _) ?_)
        first | (rw [← u1 h26]; exact ih _ (by omega) (c + 1) rfl (by omega)) | (rw [← u2 h26]; exact ih _ (by omega) (c + 1) rfl (by omega))
theorem m_callsAt {G : qx_G} {σ : qx_S} {S : qS} (hS : qx_mi σ 207 = S) {n : Nat} (e2 : S 2 = nI n) (hn : n ≤ 8) {q : Int32} : qx_M G qc_T 0 YX12_callsAt [.ref 197, .int q] σ (qr (nI (q_ca S q n)) σ) := by
  refine qx_M_in rfl (Nat.le_of_ble_eq_true rfl) ?_
  refine qy_wp_ok (c := CX12_callsAt) (cuts := [4]) vX12_callsAt wX12_callsAt 2000 0 _ _ _ ?_
  refine Exists.intro (nI 0) (And.intro rfl ?_)
  refine Exists.intro (nI 0) (And.intro rfl ?_)
  exact l_callsAt hS e2 hn _ 0 rfl (by omega)

