theorem m_oweOf {G : qx_G} {σ : qx_S} {a b : Nat} (ha : a < 10) (hb : b < 10) {v : Int32} (hv : qx_mi σ 207 (154 + 10 * a + b) = v) : qx_M G qc_T 0 YX12_oweOf [.ref 197, .int (nI a), .int (nI b)] σ (qr v σ) := by
  subst hv
  refine qx_M_in rfl (Nat.le_of_ble_eq_true rfl) ?_
  refine qy_wp_ok (c := CX12_oweOf) (cuts := []) vX12_oweOf wX12_oweOf 2000 0 _ _ _ ?_
  refine And.intro rfl (Exists.intro 207 (And.intro rfl ?_))
  refine Exists.intro (nI 154) (And.intro rfl ?_)
  refine Exists.intro (nI 10) (And.intro rfl ?_)
  refine Exists.intro (nI (10 * a)) (And.intro (pk_mul _ _) ?_)
  refine Exists.intro (nI (154 + 10 * a)) (And.intro (nI_add _ _) ?_)
  refine Exists.intro (nI (154 + 10 * a + b)) (And.intro (nI_add _ _) ?_)
  refine Exists.intro (154 + 10 * a + b) (Exists.intro (qx_mi σ 207 (154 + 10 * a + b)) (And.intro rfl (And.intro ⟨2788, rfl, by omega, by decide⟩ (And.intro rfl ?_))))
  exact ⟨rfl, rfl⟩
theorem m_at {G : qx_G} {σ : qx_S} {p : Nat} (hp : p < 10) {v : Int32} (hv : qx_mi σ 207 (10 + 5 * p) = v) : qx_M G qc_T 0 YX12_at [.ref 197, .int (nI p)] σ (qr v σ) := by
  subst hv
  refine qx_M_in rfl (Nat.le_of_ble_eq_true rfl) ?_
  refine qy_wp_ok (c := CX12_at) (cuts := []) vX12_at wX12_at 2000 0 _ _ _ ?_
  refine And.intro rfl (Exists.intro 207 (And.intro rfl ?_))
  refine Exists.intro (nI 10) (And.intro rfl ?_)
  refine Exists.intro (nI 5) (And.intro rfl ?_)
  refine Exists.intro (nI (5 * p)) (And.intro (pk_mul _ _) ?_)
  refine Exists.intro (nI (10 + 5 * p)) (And.intro (nI_add _ _) ?_)
  refine Exists.intro (10 + 5 * p) (Exists.intro (qx_mi σ 207 (10 + 5 * p)) (And.intro rfl (And.intro ⟨2788, rfl, by omega, by decide⟩ (And.intro rfl ?_))))
  exact ⟨rfl, rfl⟩
theorem m_personOf {G : qx_G} {σ : qx_S} {p k : Nat} (hp : p < 10) (hk : k < 5) {v : Int32} (hv : qx_mi σ 207 (10 + 5 * p + k) = v) : qx_M G qc_T 0 YX12_personOf [.ref 197, .int (nI p), .int (nI k)] σ (qr v σ) := by
  subst hv
  refine qx_M_in rfl (Nat.le_of_ble_eq_true rfl) ?_
  refine qy_wp_ok (c := CX12_personOf) (cuts := []) vX12_personOf wX12_personOf 2000 0 _ _ _ ?_
  refine And.intro rfl (Exists.intro 207 (And.intro rfl ?_))
  refine Exists.intro (nI 10) (And.intro rfl ?_)
  refine Exists.intro (nI 5) (And.intro rfl ?_)
  refine Exists.intro (nI (5 * p)) (And.intro (pk_mul _ _) ?_)
  refine Exists.intro (nI (10 + 5 * p)) (And.intro (nI_add _ _) ?_)
  refine Exists.intro (nI (10 + 5 * p + k)) (And.intro (nI_add _ _) ?_)
  refine Exists.intro (10 + 5 * p + k) (Exists.intro (qx_mi σ 207 (10 + 5 * p + k)) (And.intro rfl (And.intro ⟨2788, rfl, by omega, by decide⟩ (And.intro rfl ?_))))
  exact ⟨rfl, rfl⟩
theorem m_wishOf {G : qx_G} {σ : qx_S} {p q : Nat} (hp : p < 10) (hq : q < 8) {v : Int32} (hv : qx_mi σ 207 (60 + 8 * p + q) = v) : qx_M G qc_T 0 YX12_wishOf [.ref 197, .int (nI p), .int (nI q)] σ (qr v σ) := by
  subst hv
  refine qx_M_in rfl (Nat.le_of_ble_eq_true rfl) ?_
  refine qy_wp_ok (c := CX12_wishOf) (cuts := []) vX12_wishOf wX12_wishOf 2000 0 _ _ _ ?_
  refine And.intro rfl (Exists.intro 207 (And.intro rfl ?_))
  refine Exists.intro (nI 60) (And.intro rfl ?_)
  refine Exists.intro (nI 8) (And.intro rfl ?_)
  refine Exists.intro (nI (8 * p)) (And.intro (pk_mul _ _) ?_)
  refine Exists.intro (nI (60 + 8 * p)) (And.intro (nI_add _ _) ?_)
  refine Exists.intro (nI (60 + 8 * p + q)) (And.intro (nI_add _ _) ?_)
  refine Exists.intro (60 + 8 * p + q) (Exists.intro (qx_mi σ 207 (60 + 8 * p + q)) (And.intro rfl (And.intro ⟨2788, rfl, by omega, by decide⟩ (And.intro rfl ?_))))
  exact ⟨rfl, rfl⟩
theorem l_owesInAll {G : qx_G} {σ : qx_S} {S : qS} (hS : qx_mi σ 207 = S) {p n : Nat} (hp : p < 10) (hn : n ≤ 10) (e1 : S 1 = nI n) : ∀ (m k : Nat) (acc : Int32), m = n - k → k ≤ n → acc = q_sum (fun k => S (154 + 10 * p + k)) k →
   qx_K G qc_T 1 RX12 YX12_owesInAll 4 [.ref 197, .int (nI p), .int acc, .int (nI k)] [] σ (qr (q_sum (fun k => S (154 + 10 * p + k)) n) σ) := by
  intro m
  induction m using Nat.strongRecOn with
  | _ m ih =>
    intro k acc hm hk ha
    refine qy_wp_ok (c := CX12_owesInAll) (cuts := [4]) vX12_owesInAll wX12_owesInAll 2000 4 _ _ _ ?_
    refine And.intro rfl (Exists.intro 207 (And.intro rfl ?_))
    refine Exists.intro (nI 1) (And.intro rfl ?_)
    refine Exists.intro (1) (Exists.intro (nI n) (And.intro rfl (And.intro ⟨2788, rfl, by decide, by decide⟩ (And.intro ((congrFun hS 1).trans e1) ?_))))
    refine And.intro (fun h11 => ?_) (fun h11 => ?_)
    · skip
      have h11 := nI_leT (a := n) (b := k) (by omega) (by omega) h11
      exact ⟨by rw [ha, show k = n by omega], rfl⟩
    · skip
      have h11 := nI_leF (a := n) (b := k) (by omega) (by omega) h11
      refine And.intro rfl (Exists.intro _ (And.intro (by decide) (qx_M_mono (m_oweOf (a := p) (b := k) (by omega) (by omega) (congrFun hS (154 + 10 * p + k))) ?_)))
      rintro _ _ ⟨rfl, rfl⟩
      refine Exists.intro (acc + (S (154 + 10 * p + k))) (And.intro rfl ?_)
      refine Exists.intro (nI (k + 1)) (And.intro (nI_add _ _) ?_)
      exact ih (n - (k + 1)) (by omega) (k + 1) _ rfl (by omega) (by rw [ha]; rfl)
theorem m_owesInAll {G : qx_G} {σ : qx_S} {S : qS} (hS : qx_mi σ 207 = S) {p n : Nat} (hp : p < 10) (hn : n ≤ 10) (e1 : S 1 = nI n) : qx_M G qc_T 1 YX12_owesInAll [.ref 197, .int (nI p)] σ (qr (q_sum (fun k => S (154 + 10 * p + k)) n) σ) := by
  refine qx_M_in rfl (Nat.le_of_ble_eq_true rfl) ?_
  refine qy_wp_ok (c := CX12_owesInAll) (cuts := [4]) vX12_owesInAll wX12_owesInAll 2000 0 _ _ _ ?_
  refine Exists.intro (nI 0) (And.intro rfl ?_)
  refine Exists.intro (nI 0) (And.intro rfl ?_)
  exact l_owesInAll hS hp hn e1 _ 0 _ rfl (by omega) rfl
theorem l_owedInAll {G : qx_G} {σ : qx_S} {S : qS} (hS : qx_mi σ 207 = S) {p n : Nat} (hp : p < 10) (hn : n ≤ 10) (e1 : S 1 = nI n) : ∀ (m k : Nat) (acc : Int32), m = n - k → k ≤ n → acc = q_sum (fun k => S (154 + 10 * k + p)) k →
   qx_K G qc_T 1 RX12 YX12_owedInAll 4 [.ref 197, .int (nI p), .int acc, .int (nI k)] [] σ (qr (q_sum (fun k => S (154 + 10 * k + p)) n) σ) := by
  intro m
  induction m using Nat.strongRecOn with
  | _ m ih =>
    intro k acc hm hk ha
    refine qy_wp_ok (c := CX12_owedInAll) (cuts := [4]) vX12_owedInAll wX12_owedInAll 2000 4 _ _ _ ?_
    refine And.intro rfl (Exists.intro 207 (And.intro rfl ?_))
    refine Exists.intro (nI 1) (And.intro rfl ?_)
    refine Exists.intro (1) (Exists.intro (nI n) (And.intro rfl (And.intro ⟨2788, rfl, by decide, by decide⟩ (And.intro ((congrFun hS 1).trans e1) ?_))))
    refine And.intro (fun h11 => ?_) (fun h11 => ?_)
    · skip
      have h11 := nI_leT (a := n) (b := k) (by omega) (by omega) h11
      exact ⟨by rw [ha, show k = n by omega], rfl⟩
    · skip
      have h11 := nI_leF (a := n) (b := k) (by omega) (by omega) h11
      refine And.intro rfl (Exists.intro _ (And.intro (by decide) (qx_M_mono (m_oweOf (a := k) (b := p) (by omega) (by omega) (congrFun hS (154 + 10 * k + p))) ?_)))
      rintro _ _ ⟨rfl, rfl⟩
      refine Exists.intro (acc + (S (154 + 10 * k + p))) (And.intro rfl ?_)
      refine Exists.intro (nI (k + 1)) (And.intro (nI_add _ _) ?_)
      exact ih (n - (k + 1)) (by omega) (k + 1) _ rfl (by omega) (by rw [ha]; rfl)
theorem m_owedInAll {G : qx_G} {σ : qx_S} {S : qS} (hS : qx_mi σ 207 = S) {p n : Nat} (hp : p < 10) (hn : n ≤ 10) (e1 : S 1 = nI n) : qx_M G qc_T 1 YX12_owedInAll [.ref 197, .int (nI p)] σ (qr (q_sum (fun k => S (154 + 10 * k + p)) n) σ) := by
  refine qx_M_in rfl (Nat.le_of_ble_eq_true rfl) ?_
  refine qy_wp_ok (c := CX12_owedInAll) (cuts := [4]) vX12_owedInAll wX12_owedInAll 2000 0 _ _ _ ?_
  refine Exists.intro (nI 0) (And.intro rfl ?_)
  refine Exists.intro (nI 0) (And.intro rfl ?_)
  exact l_owedInAll hS hp hn e1 _ 0 _ rfl (by omega) rfl
theorem m_push {G : qx_G} {σ : qx_S} {n : Nat} {x : Int64} (hn : n < 64) (e : qx_mi σ 197 18 = nI n) : qx_M G qc_T 0 YX12_push [.ref 197, .long x] σ (qv (qx_wi (qx_wl σ 205 n x) 197 18 (nI (n + 1)))) := by
  refine qx_M_in rfl (Nat.le_of_ble_eq_true rfl) ?_
  refine qy_wp_ok (c := CX12_push) (cuts := []) vX12_push wX12_push 2000 0 _ _ _ ?_
  refine And.intro rfl (Exists.intro 205 (And.intro rfl ?_))
  refine And.intro rfl (Exists.intro 18 (Exists.intro (nI n) (And.intro rfl (And.intro e ?_))))
  refine Exists.intro (n) (Exists.intro (qx_wl σ 205 n x) (And.intro rfl (And.intro ⟨64, rfl, by omega, by decide⟩ (And.intro rfl ?_))))
  refine And.intro rfl (Exists.intro 18 (Exists.intro (nI n) (And.intro rfl (And.intro e ?_))))
  refine Exists.intro (nI 1) (And.intro rfl ?_)
  refine Exists.intro (nI (n + 1)) (And.intro (nI_add _ _) ?_)
  refine And.intro rfl (Exists.intro 18 (Exists.intro (qx_wi (qx_wl σ 205 n x) 197 18 (nI (n + 1))) (And.intro rfl (And.intro rfl ?_))))
  exact ⟨rfl, rfl⟩
theorem m_pop {G : qx_G} {σ : qx_S} {n : Nat} (hn : n < 64) (e : qx_mi σ 197 18 = nI (n + 1)) : qx_M G qc_T 0 YX12_pop [.ref 197] σ (fun r s => r = some (.long (qx_ml σ 205 n)) ∧ qx_wi σ 197 18 (nI n) = s) := by
  refine qx_M_in rfl (Nat.le_of_ble_eq_true rfl) ?_
  refine qy_wp_ok (c := CX12_pop) (cuts := []) vX12_pop wX12_pop 2000 0 _ _ _ ?_
  refine And.intro rfl (Exists.intro 18 (Exists.intro (nI (n + 1)) (And.intro rfl (And.intro e ?_))))
  refine Exists.intro (nI 1) (And.intro rfl ?_)
  refine Exists.intro (nI n) (And.intro (nI_sub (by omega)) ?_)
  refine And.intro rfl (Exists.intro 18 (Exists.intro (qx_wi σ 197 18 (nI n)) (And.intro rfl (And.intro rfl ?_))))
  refine And.intro rfl (Exists.intro 205 (And.intro rfl ?_))
  refine And.intro rfl (Exists.intro 18 (Exists.intro (nI n) (And.intro rfl (And.intro qw_eq ?_))))
  refine Exists.intro (n) (Exists.intro (qx_ml (qx_wi σ 197 18 (nI n)) 205 n) (And.intro rfl (And.intro ⟨64, rfl, by omega, by decide⟩ (And.intro rfl ?_))))
  exact ⟨rfl, rfl⟩
theorem m_one {G : qx_G} {σ : qx_S} {m : Nat} {x y : Int64} (h2 : 2 ≤ m) (h13 : m ≤ 13) (h11 : m ≠ 11) : qx_M G qc_T 0 YX12_one [.int (nI m), .long x, .long y] σ (fun r s => r = some (.long (q_op m x y)) ∧ σ = s) := by
  refine qx_M_in rfl (Nat.le_of_ble_eq_true rfl) ?_
  refine qy_wp_ok (c := CX12_one) (cuts := []) vX12_one wX12_one 2000 0 _ _ _ ?_
  refine And.intro (fun h1 => ?_) (fun h1_2 => ?_)
  · skip
    have h1 := nI_eqT (b := 2) (by omega) (by decide) h1
    refine Exists.intro (x + y) (And.intro rfl ?_)
    subst h1; exact ⟨rfl, rfl⟩
  have h1_2 := nI_neT (b := 2) (by omega) (by decide) h1_2
  refine And.intro (fun h1 => ?_) (fun h1_3 => ?_)
  · skip
    have h1 := nI_eqT (b := 3) (by omega) (by decide) h1
    refine Exists.intro (x - y) (And.intro rfl ?_)
    subst h1; exact ⟨rfl, rfl⟩
  have h1_3 := nI_neT (b := 3) (by omega) (by decide) h1_3
  refine And.intro (fun h1 => ?_) (fun h1_4 => ?_)
  · skip
    have h1 := nI_eqT (b := 4) (by omega) (by decide) h1
    refine Exists.intro (x * y) (And.intro rfl ?_)
    subst h1; exact ⟨rfl, rfl⟩
  have h1_4 := nI_neT (b := 4) (by omega) (by decide) h1_4
  refine And.intro (fun h1 => ?_) (fun h1_5 => ?_)
  · skip
    have h1 := nI_eqT (b := 5) (by omega) (by decide) h1
    refine Exists.intro (lN 0) (And.intro rfl ?_)
    refine Exists.intro (lg_cmp y (lN 0)) (And.intro rfl ?_)
    refine And.intro (fun h75 => ?_) (fun h75 => ?_)
    · skip
      have h75 := fun z => h75 ((lg_cmp_eq _ _).mpr z)
      refine And.intro (fun z => h75 z) (Exists.intro (x / y) (And.intro rfl ?_))
      subst h1; exact ⟨congrArg (fun z => some (Value.long z)) (by first | exact (if_neg h75).symm | exact (if_pos h75).symm), rfl⟩
    · skip
      have h75 := (lg_cmp_eq _ _).mp h75
      refine Exists.intro (lN 0) (And.intro rfl ?_)
      subst h1; exact ⟨congrArg (fun z => some (Value.long z)) (by first | exact (if_neg h75).symm | exact (if_pos h75).symm), rfl⟩
  have h1_5 := nI_neT (b := 5) (by omega) (by decide) h1_5
  refine And.intro (fun h1 => ?_) (fun h1_6 => ?_)
  · skip
    have h1 := nI_eqT (b := 6) (by omega) (by decide) h1
    refine Exists.intro (lg_cmp x y) (And.intro rfl ?_)
    refine And.intro (fun h89 => ?_) (fun h89 => ?_)
    · skip
      have h89 := (lg_cmp_ge _ _).mp h89
      refine Exists.intro (lN 0) (And.intro rfl ?_)
      subst h1; exact ⟨congrArg (fun z => some (Value.long z)) (by first | exact (if_pos h89).symm | exact (if_neg (Int64.not_lt.mpr h89)).symm | exact (if_pos (Int64.not_le.mp h89)).symm), rfl⟩
    · skip
      have h89 := fun z => h89 ((lg_cmp_ge _ _).mpr z)
      refine Exists.intro (lN 1) (And.intro rfl ?_)
      subst h1; exact ⟨congrArg (fun z => some (Value.long z)) (by first | exact (if_pos h89).symm | exact (if_neg (Int64.not_lt.mpr h89)).symm | exact (if_pos (Int64.not_le.mp h89)).symm), rfl⟩
  have h1_6 := nI_neT (b := 6) (by omega) (by decide) h1_6
  refine And.intro (fun h1 => ?_) (fun h1_7 => ?_)
  · skip
    have h1 := nI_eqT (b := 7) (by omega) (by decide) h1
    refine Exists.intro (lg_cmp x y) (And.intro rfl ?_)
    refine And.intro (fun h101 => ?_) (fun h101 => ?_)
    · skip
      have h101 := (lg_cmp_gt _ _).mp h101
      refine Exists.intro (lN 0) (And.intro rfl ?_)
      subst h1; exact ⟨congrArg (fun z => some (Value.long z)) (by first | exact (if_pos h101).symm | exact (if_neg (Int64.not_le.mpr h101)).symm | exact (if_pos (Int64.not_lt.mp h101)).symm), rfl⟩
    · skip
      have h101 := fun z => h101 ((lg_cmp_gt _ _).mpr z)
      refine Exists.intro (lN 1) (And.intro rfl ?_)
      subst h1; exact ⟨congrArg (fun z => some (Value.long z)) (by first | exact (if_pos h101).symm | exact (if_neg (Int64.not_le.mpr h101)).symm | exact (if_pos (Int64.not_lt.mp h101)).symm), rfl⟩
  have h1_7 := nI_neT (b := 7) (by omega) (by decide) h1_7
  refine And.intro (fun h1 => ?_) (fun h1_8 => ?_)
  · skip
    have h1 := nI_eqT (b := 8) (by omega) (by decide) h1
    refine Exists.intro (lg_cmp x y) (And.intro rfl ?_)
    refine And.intro (fun h113 => ?_) (fun h113 => ?_)
    · skip
      have h113 := fun z => h113 ((lg_cmp_eq _ _).mpr z)
      refine Exists.intro (lN 0) (And.intro rfl ?_)
      subst h1; exact ⟨congrArg (fun z => some (Value.long z)) (by first | exact (if_pos h113).symm | exact (if_neg h113).symm), rfl⟩
    · skip
      have h113 := (lg_cmp_eq _ _).mp h113
      refine Exists.intro (lN 1) (And.intro rfl ?_)
      subst h1; exact ⟨congrArg (fun z => some (Value.long z)) (by first | exact (if_pos h113).symm | exact (if_neg h113).symm), rfl⟩
  have h1_8 := nI_neT (b := 8) (by omega) (by decide) h1_8
  refine And.intro (fun h1 => ?_) (fun h1_9 => ?_)
  · skip
    have h1 := nI_eqT (b := 9) (by omega) (by decide) h1
    refine Exists.intro (lg_cmp x y) (And.intro rfl ?_)
    refine And.intro (fun h125 => ?_) (fun h125 => ?_)
    · skip
      have h125 := (lg_cmp_lt _ _).mp h125
      refine Exists.intro (lN 0) (And.intro rfl ?_)
      subst h1; exact ⟨congrArg (fun z => some (Value.long z)) (by first | exact (if_pos (Int64.not_lt.mp h125)).symm | exact (if_neg (Int64.not_le.mpr h125)).symm), rfl⟩
    · skip
      have h125 := fun z => h125 ((lg_cmp_lt _ _).mpr z)
      refine Exists.intro (lN 1) (And.intro rfl ?_)
      subst h1; exact ⟨congrArg (fun z => some (Value.long z)) (by first | exact (if_pos (Int64.not_lt.mp h125)).symm | exact (if_neg (Int64.not_le.mpr h125)).symm), rfl⟩
  have h1_9 := nI_neT (b := 9) (by omega) (by decide) h1_9
  refine And.intro (fun h1 => ?_) (fun h1_10 => ?_)
  · skip
    have h1 := nI_eqT (b := 10) (by omega) (by decide) h1
    refine Exists.intro (lg_cmp x y) (And.intro rfl ?_)
    refine And.intro (fun h137 => ?_) (fun h137 => ?_)
    · skip
      have h137 := (lg_cmp_le _ _).mp h137
      refine Exists.intro (lN 0) (And.intro rfl ?_)
      subst h1; exact ⟨congrArg (fun z => some (Value.long z)) (by first | exact (if_pos (Int64.not_le.mp h137)).symm | exact (if_neg (Int64.not_lt.mpr h137)).symm), rfl⟩
    · skip
      have h137 := fun z => h137 ((lg_cmp_le _ _).mpr z)
      refine Exists.intro (lN 1) (And.intro rfl ?_)
      subst h1; exact ⟨congrArg (fun z => some (Value.long z)) (by first | exact (if_pos (Int64.not_le.mp h137)).symm | exact (if_neg (Int64.not_lt.mpr h137)).symm), rfl⟩
  have h1_10 := nI_neT (b := 10) (by omega) (by decide) h1_10
  refine And.intro (fun h1 => ?_) (fun h1_11 => ?_)
  · skip
    have h1 := nI_eqT (b := 11) (by omega) (by decide) h1
    exact absurd h1 h11
  have h1_11 := nI_neT (b := 11) (by omega) (by decide) h1_11
  refine And.intro (fun h1 => ?_) (fun h1_12 => ?_)
  · skip
    have h1 := nI_eqT (b := 12) (by omega) (by decide) h1
    refine Exists.intro (x &&& y) (And.intro rfl ?_)
    subst h1; exact ⟨rfl, rfl⟩
  have h1_12 := nI_neT (b := 12) (by omega) (by decide) h1_12
  refine Exists.intro (x ||| y) (And.intro rfl ?_)
  obtain rfl : m = 13 := (by omega); exact ⟨rfl, rfl⟩

