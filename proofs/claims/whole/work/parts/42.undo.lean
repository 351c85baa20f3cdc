/-! THE REFERENCE: what can be undone -/
theorem up_ext {f g : qS} {j : Nat} {v : Int32} (h1 : f j = v) (h2 : ∀ i, i ≠ j → f i = g i) : va_up g j v = f := by
  funext i
  unfold va_up
  split
  · next h => rw [h, h1]
  · next h => exact (h2 i h).symm
def q_sh1 (S : qS) (k : Nat) : qS := fun i => if 348 ≤ i ∧ i + 122 < k then S (i + 122) else S i
def q_kr1 (S : qS) (t p : Nat) : qS := fun i => if t ≤ i ∧ i < t + p then S (10 + 5 * (i - t)) else if t + 110 ≤ i ∧ i < t + 110 + p then S (10 + 5 * (i - (t + 110)) + 4) else S i
def q_kr1b (S : qS) (t p : Nat) : qS := fun i => if t ≤ i ∧ i < t + p + 1 then S (10 + 5 * (i - t)) else if t + 110 ≤ i ∧ i < t + 110 + p then S (10 + 5 * (i - (t + 110)) + 4) else S i
def q_kr2 (S : qS) (t k : Nat) : qS := fun i => if t + 10 ≤ i ∧ i < t + 10 + k then S (154 + (i - (t + 10))) else q_kr1 S t 10 i
theorem q_sh1_0 (S : qS) : q_sh1 S 470 = S := by
  funext i
  unfold q_sh1
  rw [if_neg (by omega)]
theorem q_sh1_s (S : qS) {k : Nat} (h : 470 ≤ k) : va_up (q_sh1 S k) (k - 122) (q_sh1 S k k) = q_sh1 S (k + 1) := by
  refine up_ext ?_ (fun i hi => ?_)
  · unfold q_sh1
    rw [if_pos (by omega), if_neg (by omega)]
    congr 1
    omega
  · unfold q_sh1
    repeat' split
    all_goals first | rfl | omega
theorem q_sh1_e (S : qS) : q_sh1 S 2788 = q_sh S := by
  funext i
  unfold q_sh1 q_sh
  repeat' split
  all_goals first | rfl | omega
theorem q_kr1_0 (S : qS) (t : Nat) : q_kr1 S t 0 = S := by
  funext i
  unfold q_kr1
  rw [if_neg (by omega), if_neg (by omega)]
theorem q_kr1_s (S : qS) {t p : Nat} (ht : 348 ≤ t) (hp : p < 10) : va_up (q_kr1 S t p) (t + p) (S (10 + 5 * p)) = q_kr1b S t p := by
  refine up_ext ?_ (fun i hi => ?_)
  · unfold q_kr1b
    rw [if_pos (by omega)]
    congr 1
    omega
  · unfold q_kr1 q_kr1b
    repeat' split
    all_goals first | rfl | omega
theorem q_kr1b_s (S : qS) {t p : Nat} (ht : 348 ≤ t) (hp : p < 10) : va_up (q_kr1b S t p) (t + 110 + p) (S (10 + 5 * p + 4)) = q_kr1 S t (p + 1) := by
  refine up_ext ?_ (fun i hi => ?_)
  · unfold q_kr1
    rw [if_neg (by omega), if_pos (by omega)]
    congr 1
    omega
  · unfold q_kr1 q_kr1b
    repeat' split
    all_goals first | rfl | omega
theorem q_kr1_lo (S : qS) {t p i : Nat} (hi : i < t) : q_kr1 S t p i = S i := by
  unfold q_kr1
  rw [if_neg (by omega), if_neg (by omega)]
theorem q_kr1b_lo (S : qS) {t p i : Nat} (hi : i < t) : q_kr1b S t p i = S i := by
  unfold q_kr1b
  rw [if_neg (by omega), if_neg (by omega)]
theorem q_kr2_lo (S : qS) {t p i : Nat} (hi : i < t) : q_kr2 S t p i = S i := by
  unfold q_kr2
  rw [if_neg (by omega), q_kr1_lo S hi]
theorem q_kr2_0 (S : qS) (t : Nat) : q_kr2 S t 0 = q_kr1 S t 10 := by
  funext i
  unfold q_kr2
  rw [if_neg (by omega)]
theorem q_kr2_s (S : qS) {t k : Nat} (ht : 348 ≤ t) (hk : k < 100) : va_up (q_kr2 S t k) (t + 10 + k) (S (154 + k)) = q_kr2 S t (k + 1) := by
  refine up_ext ?_ (fun i hi => ?_)
  · unfold q_kr2
    rw [if_pos (by omega)]
    congr 1
    omega
  · unfold q_kr2
    repeat' split
    all_goals first | rfl | omega
theorem q_kr_e (S : qS) (u : Nat) : va_up (va_up (q_kr2 S (348 + 122 * u) 100) (348 + 122 * u + 120) (S 3)) (348 + 122 * u + 121) (S 6) = q_kr S u := by
  refine up_ext ?_ (fun i hi => ?_)
  · unfold q_kr
    rw [if_pos (by omega), if_neg (by omega), if_neg (by omega), if_neg (by omega), if_neg (by omega)]
  · unfold va_up q_kr q_kr2 q_kr1
    repeat' split
    all_goals first | rfl | omega | (congr 1; omega)
theorem l_kr3 {G : qx_G} {σ0 : qx_S} {T : qS} {u : Nat} (hu : u < 20) (e9 : T 9 = nI u) : ∀ (m k : Nat) (σ : qx_S), m = 100 - k → k ≤ 100 → ql [(207, none)] σ0 σ → qx_mi σ 207 = q_kr2 T (348 + 122 * u) k →
    qx_K G qc_T 1 RX12 YX12_keepsRing 116 [.ref 197, .int (nI (348 + 122 * u)), .int (nI k)] [] σ (fun r s => r = none ∧ ql [(207, none)] σ0 s ∧ qx_mi s 207 = va_up (q_kr T u) 9 (nI (u + 1))) := by
  intro m
  induction m using Nat.strongRecOn with
  | _ m ih =>
    intro k σ hm hk hf hS
    rcases Nat.lt_or_ge k 100 with hlt | hge
    · skip
      refine qy_wp_ok (c := CX12_keepsRing) (cuts := [116]) vX12_keepsRing wX12_keepsRing 2000 116 _ _ _ ?_
      refine Exists.intro (nI 100) (And.intro rfl ?_)
      refine And.intro (fun h119 => ?_) (fun h119 => ?_)
      · skip
        have h119 := nI_leT (a := 100) (b := k) (by decide) (by omega) h119
        exact absurd h119 (by omega)
      · skip
        have h119 := nI_leF (a := 100) (b := k) (by decide) (by omega) h119
        refine And.intro rfl (Exists.intro 207 (And.intro rfl ?_))
        refine Exists.intro (nI 10) (And.intro rfl ?_)
        refine Exists.intro (nI (348 + 122 * u + 10)) (And.intro (nI_add _ _) ?_)
        refine Exists.intro (nI (348 + 122 * u + 10 + k)) (And.intro (nI_add _ _) ?_)
        refine And.intro rfl (Exists.intro 207 (And.intro rfl ?_))
        refine Exists.intro (nI 154) (And.intro rfl ?_)
        refine Exists.intro (nI (154 + k)) (And.intro (nI_add _ _) ?_)
        refine Exists.intro (154 + k) (Exists.intro (T (154 + k)) (And.intro rfl (And.intro ⟨2788, rfl, by omega, by decide⟩ (And.intro ((congrFun hS _).trans (q_kr2_lo T (by omega))) ?_))))
        obtain ⟨σ1, eσ1⟩ : ∃ zs, zs = (qx_wi σ 207 (348 + 122 * u + 10 + k) (T (154 + k))) := ⟨_, rfl⟩
        have fσ1 := qn_wi eσ1
        refine Exists.intro (348 + 122 * u + 10 + k) (Exists.intro σ1 (And.intro rfl (And.intro ⟨2788, rfl, by omega, by decide⟩ (And.intro eσ1.symm ?_))))
        have hf_σ1 : ql [(207, none)] σ0 σ1 := hf.tr fσ1
        have hS_σ1 : qx_mi σ1 207 = q_kr2 T (348 + 122 * u) (k + 1) := (qn_rowS eσ1 hS).trans (q_kr2_s T (by omega) (by omega))
        refine Exists.intro (nI (k + 1)) (And.intro (nI_add _ _) ?_)
        exact ih _ (by omega) (k + 1) _ rfl (by omega) hf_σ1 hS_σ1
    · obtain rfl : k = 100 := by omega
      refine qy_wp_ok (c := CX12_keepsRing) (cuts := [116]) vX12_keepsRing wX12_keepsRing 2000 116 _ _ _ ?_
      refine Exists.intro (nI 100) (And.intro rfl ?_)
      refine And.intro (fun h119 => ?_) (fun h119 => ?_)
      · skip
        refine And.intro rfl (Exists.intro 207 (And.intro rfl ?_))
        refine Exists.intro (nI 120) (And.intro rfl ?_)
        refine Exists.intro (nI (348 + 122 * u + 120)) (And.intro (nI_add _ _) ?_)
        refine And.intro rfl (Exists.intro 207 (And.intro rfl ?_))
        refine Exists.intro (nI 3) (And.intro rfl ?_)
        refine Exists.intro (3) (Exists.intro (T 3) (And.intro rfl (And.intro ⟨2788, rfl, by decide, by decide⟩ (And.intro ((congrFun hS _).trans (q_kr2_lo T (by omega))) ?_))))
        obtain ⟨σ1, eσ1⟩ : ∃ zs, zs = (qx_wi σ 207 (348 + 122 * u + 120) (T 3)) := ⟨_, rfl⟩
        have fσ1 := qn_wi eσ1
        refine Exists.intro (348 + 122 * u + 120) (Exists.intro σ1 (And.intro rfl (And.intro ⟨2788, rfl, by omega, by decide⟩ (And.intro eσ1.symm ?_))))
        have hf_σ1 : ql [(207, none)] σ0 σ1 := hf.tr fσ1
        have hS_σ1 : qx_mi σ1 207 = va_up (q_kr2 T (348 + 122 * u) 100) (348 + 122 * u + 120) (T 3) := qn_rowS eσ1 hS
        refine And.intro rfl (Exists.intro 207 (And.intro rfl ?_))
        refine Exists.intro (nI 121) (And.intro rfl ?_)
        refine Exists.intro (nI (348 + 122 * u + 121)) (And.intro (nI_add _ _) ?_)
        refine And.intro rfl (Exists.intro 207 (And.intro rfl ?_))
        refine Exists.intro (nI 6) (And.intro rfl ?_)
        refine Exists.intro (6) (Exists.intro (T 6) (And.intro rfl (And.intro ⟨2788, rfl, by decide, by decide⟩ (And.intro ((congrFun hS_σ1 _).trans ((va_up_ne _ _ (by omega)).trans (q_kr2_lo T (by omega)))) ?_))))
        obtain ⟨σ2, eσ2⟩ : ∃ zs, zs = (qx_wi σ1 207 (348 + 122 * u + 121) (T 6)) := ⟨_, rfl⟩
        have fσ2 := qn_wi eσ2
        refine Exists.intro (348 + 122 * u + 121) (Exists.intro σ2 (And.intro rfl (And.intro ⟨2788, rfl, by omega, by decide⟩ (And.intro eσ2.symm ?_))))
        have hf_σ2 : ql [(207, none)] σ0 σ2 := hf_σ1.tr fσ2
        have hS_σ2 : qx_mi σ2 207 = q_kr T u := (qn_rowS eσ2 hS_σ1).trans (q_kr_e T u)
        refine And.intro rfl (Exists.intro 207 (And.intro rfl ?_))
        refine Exists.intro (nI 9) (And.intro rfl ?_)
        refine Exists.intro (9) (Exists.intro (nI u) (And.intro rfl (And.intro ⟨2788, rfl, by decide, by decide⟩ (And.intro ((congrFun hS_σ2 _).trans ((if_neg (by omega)).trans e9)) ?_))))
        refine Exists.intro (nI 1) (And.intro rfl ?_)
        refine Exists.intro (nI (u + 1)) (And.intro (nI_add _ _) ?_)
        obtain ⟨σ3, eσ3⟩ : ∃ zs, zs = (qx_wi σ2 207 9 (nI (u + 1))) := ⟨_, rfl⟩
        have fσ3 := qn_wi eσ3
        refine Exists.intro (9) (Exists.intro σ3 (And.intro rfl (And.intro ⟨2788, rfl, by decide, by decide⟩ (And.intro eσ3.symm ?_))))
        have hf_σ3 : ql [(207, none)] σ0 σ3 := hf_σ2.tr fσ3
        have hS_σ3 : qx_mi σ3 207 = va_up (q_kr T u) 9 (nI (u + 1)) := qn_rowS eσ3 hS_σ2
        exact ⟨rfl, hf_σ3, hS_σ3⟩
      · skip
        exact absurd (by decide) h119
theorem l_kr2 {G : qx_G} {σ0 : qx_S} {T : qS} {u : Nat} (hu : u < 20) (e9 : T 9 = nI u) : ∀ (m p : Nat) (σ : qx_S), m = 10 - p → p ≤ 10 → ql [(207, none)] σ0 σ → qx_mi σ 207 = q_kr1 T (348 + 122 * u) p →
    qx_K G qc_T 1 RX12 YX12_keepsRing 72 [.ref 197, .int (nI (348 + 122 * u)), .int (nI p)] [] σ (fun r s => r = none ∧ ql [(207, none)] σ0 s ∧ qx_mi s 207 = va_up (q_kr T u) 9 (nI (u + 1))) := by
  intro m
  induction m using Nat.strongRecOn with
  | _ m ih =>
    intro p σ hm hp hf hS
    rcases Nat.lt_or_ge p 10 with hlt | hge
    · skip
      refine qy_wp_ok (c := CX12_keepsRing) (cuts := [72]) vX12_keepsRing wX12_keepsRing 2000 72 _ _ _ ?_
      refine Exists.intro (nI 10) (And.intro rfl ?_)
      refine And.intro (fun h75 => ?_) (fun h75 => ?_)
      · skip
        have h75 := nI_leT (a := 10) (b := p) (by decide) (by omega) h75
        exact absurd h75 (by omega)
      · skip
        have h75 := nI_leF (a := 10) (b := p) (by decide) (by omega) h75
        refine And.intro rfl (Exists.intro 207 (And.intro rfl ?_))
        refine Exists.intro (nI (348 + 122 * u + p)) (And.intro (nI_add _ _) ?_)
        refine And.intro rfl (Exists.intro _ (And.intro (by decide) (qx_M_mono (m_at (p := p) (by omega) ((congrFun hS _).trans (q_kr1_lo T (by omega)))) ?_)))
        rintro _ _ ⟨rfl, rfl⟩
        obtain ⟨σ1, eσ1⟩ : ∃ zs, zs = (qx_wi σ 207 (348 + 122 * u + p) (T (10 + 5 * p))) := ⟨_, rfl⟩
        have fσ1 := qn_wi eσ1
        refine Exists.intro (348 + 122 * u + p) (Exists.intro σ1 (And.intro rfl (And.intro ⟨2788, rfl, by omega, by decide⟩ (And.intro eσ1.symm ?_))))
        have hf_σ1 : ql [(207, none)] σ0 σ1 := hf.tr fσ1
        have hS_σ1 : qx_mi σ1 207 = q_kr1b T (348 + 122 * u) p := (qn_rowS eσ1 hS).trans (q_kr1_s T (by omega) (by omega))
        refine And.intro rfl (Exists.intro 207 (And.intro rfl ?_))
        refine Exists.intro (nI 110) (And.intro rfl ?_)
        refine Exists.intro (nI (348 + 122 * u + 110)) (And.intro (nI_add _ _) ?_)
        refine Exists.intro (nI (348 + 122 * u + 110 + p)) (And.intro (nI_add _ _) ?_)
        refine Exists.intro (nI 4) (And.intro rfl ?_)
        refine And.intro rfl (Exists.intro _ (And.intro (by decide) (qx_M_mono (m_personOf (p := p) (k := 4) (by omega) (by omega) ((congrFun hS_σ1 _).trans (q_kr1b_lo T (by omega)))) ?_)))
        rintro _ _ ⟨rfl, rfl⟩
        obtain ⟨σ2, eσ2⟩ : ∃ zs, zs = (qx_wi σ1 207 (348 + 122 * u + 110 + p) (T (10 + 5 * p + 4))) := ⟨_, rfl⟩
        have fσ2 := qn_wi eσ2
        refine Exists.intro (348 + 122 * u + 110 + p) (Exists.intro σ2 (And.intro rfl (And.intro ⟨2788, rfl, by omega, by decide⟩ (And.intro eσ2.symm ?_))))
        have hf_σ2 : ql [(207, none)] σ0 σ2 := hf_σ1.tr fσ2
        have hS_σ2 : qx_mi σ2 207 = q_kr1 T (348 + 122 * u) (p + 1) := (qn_rowS eσ2 hS_σ1).trans (q_kr1b_s T (by omega) (by omega))
        refine Exists.intro (nI (p + 1)) (And.intro (nI_add _ _) ?_)
        exact ih _ (by omega) (p + 1) _ rfl (by omega) hf_σ2 hS_σ2
    · obtain rfl : p = 10 := by omega
      refine qy_wp_ok (c := CX12_keepsRing) (cuts := [116]) vX12_keepsRing wX12_keepsRing 2000 72 _ _ _ ?_
      refine Exists.intro (nI 10) (And.intro rfl ?_)
      refine And.intro (fun h75 => ?_) (fun h75 => ?_)
      · skip
        refine Exists.intro (nI 0) (And.intro rfl ?_)
        exact l_kr3 hu e9 _ 0 σ rfl (by omega) hf (hS.trans (q_kr2_0 T _).symm)
      · skip
        exact absurd (by decide) h75
theorem l_kr1 {G : qx_G} {σ0 : qx_S} {S : qS} (e9 : S 9 = nI 20) : ∀ (m k : Nat) (σ : qx_S), m = 2788 - k → 470 ≤ k → k ≤ 2788 → ql [(207, none)] σ0 σ → qx_mi σ 207 = q_sh1 S k →
    qx_K G qc_T 1 RX12 YX12_keepsRing 16 [.ref 197, .int (nI k), .retAddr 0] [] σ (fun r s => r = none ∧ ql [(207, none)] σ0 s ∧ qx_mi s 207 = va_up (q_kr (va_up (q_sh S) 9 (nI 19)) 19) 9 (nI 20)) := by
  intro m
  induction m using Nat.strongRecOn with
  | _ m ih =>
    intro k σ hm hk0 hk hf hS
    rcases Nat.lt_or_ge k 2788 with hlt | hge
    · skip
      refine qy_wp_ok (c := CX12_keepsRing) (cuts := [16, 55]) vX12_keepsRing wX12_keepsRing 2000 16 _ _ _ ?_
      refine Exists.intro (nI 2788) (And.intro rfl ?_)
      refine And.intro (fun h20 => ?_) (fun h20 => ?_)
      · skip
        have h20 := nI_leT (a := 2788) (b := k) (by decide) (by omega) h20
        exact absurd h20 (by omega)
      · skip
        have h20 := nI_leF (a := 2788) (b := k) (by decide) (by omega) h20
        refine And.intro rfl (Exists.intro 207 (And.intro rfl ?_))
        refine Exists.intro (nI 122) (And.intro rfl ?_)
        refine Exists.intro (nI (k - 122)) (And.intro (nI_sub (by omega)) ?_)
        refine And.intro rfl (Exists.intro 207 (And.intro rfl ?_))
        refine Exists.intro (k) (Exists.intro (q_sh1 S k k) (And.intro rfl (And.intro ⟨2788, rfl, by omega, by decide⟩ (And.intro (congrFun hS _) ?_))))
        obtain ⟨σ1, eσ1⟩ : ∃ zs, zs = (qx_wi σ 207 (k - 122) (q_sh1 S k k)) := ⟨_, rfl⟩
        have fσ1 := qn_wi eσ1
        refine Exists.intro (k - 122) (Exists.intro σ1 (And.intro rfl (And.intro ⟨2788, rfl, by omega, by decide⟩ (And.intro eσ1.symm ?_))))
        have hf_σ1 : ql [(207, none)] σ0 σ1 := hf.tr fσ1
        have hS_σ1 : qx_mi σ1 207 = q_sh1 S (k + 1) := (qn_rowS eσ1 hS).trans (q_sh1_s S hk0)
        refine Exists.intro (nI (k + 1)) (And.intro (nI_add _ _) ?_)
        exact ih _ (by omega) (k + 1) _ rfl (by omega) (by omega) hf_σ1 hS_σ1
    · obtain rfl : k = 2788 := by omega
      rw [q_sh1_e] at hS
      refine qy_wp_ok (c := CX12_keepsRing) (cuts := [16, 72]) vX12_keepsRing wX12_keepsRing 2000 16 _ _ _ ?_
      refine Exists.intro (nI 2788) (And.intro rfl ?_)
      refine And.intro (fun h20 => ?_) (fun h20 => ?_)
      · skip
        refine And.intro rfl (Exists.intro 207 (And.intro rfl ?_))
        refine Exists.intro (nI 9) (And.intro rfl ?_)
        refine Exists.intro (9) (Exists.intro (nI 20) (And.intro rfl (And.intro ⟨2788, rfl, by decide, by decide⟩ (And.intro ((congrFun hS 9).trans ((if_neg (by omega)).trans e9)) ?_))))
        refine Exists.intro (nI 1) (And.intro rfl ?_)
        refine Exists.intro (nI 19) (And.intro (by decide) ?_)
        obtain ⟨σ1, eσ1⟩ : ∃ zs, zs = (qx_wi σ 207 9 (nI 19)) := ⟨_, rfl⟩
        have fσ1 := qn_wi eσ1
        refine Exists.intro (9) (Exists.intro σ1 (And.intro rfl (And.intro ⟨2788, rfl, by decide, by decide⟩ (And.intro eσ1.symm ?_))))
        have hf_σ1 : ql [(207, none)] σ0 σ1 := hf.tr fσ1
        have hS_σ1 : qx_mi σ1 207 = va_up (q_sh S) 9 (nI 19) := qn_rowS eσ1 hS
        refine Exists.intro (nI 348) (And.intro rfl ?_)
        refine Exists.intro (nI 122) (And.intro rfl ?_)
        refine And.intro rfl (Exists.intro 207 (And.intro rfl ?_))
        refine Exists.intro (nI 9) (And.intro rfl ?_)
        refine Exists.intro (9) (Exists.intro (nI 19) (And.intro rfl (And.intro ⟨2788, rfl, by decide, by decide⟩ (And.intro (qn_eq eσ1) ?_))))
        refine Exists.intro (nI 2318) (And.intro rfl ?_)
        refine Exists.intro (nI 2666) (And.intro rfl ?_)
        refine Exists.intro (nI 0) (And.intro rfl ?_)
        exact l_kr2 (T := va_up (q_sh S) 9 (nI 19)) (u := 19) (by omega) (va_up_self _ _ _) _ 0 _ rfl (by omega) hf_σ1 (hS_σ1.trans (q_kr1_0 _ _).symm)
      · skip
        exact absurd (by decide) h20
theorem m_keepsRing {G : qx_G} {σ : qx_S} {S : qS} (hS : qx_mi σ 207 = S) {u : Nat} (hu : u ≤ 20) (e9 : S 9 = nI u) : qx_M G qc_T 1 YX12_keepsRing [.ref 197] σ (fun r s => r = none ∧ ql [(207, none)] σ s ∧ qx_mi s 207 = (if u = 20 then va_up (q_kr (va_up (q_sh S) 9 (nI 19)) 19) 9 (nI 20) else va_up (q_kr S u) 9 (nI (u + 1)))) := by
  by_cases h : u = 20
  · subst h
    rw [if_pos rfl]
    refine qx_M_in rfl (Nat.le_of_ble_eq_true rfl) ?_
    refine qy_wp_ok (c := CX12_keepsRing) (cuts := [16]) vX12_keepsRing wX12_keepsRing 2000 0 _ _ _ ?_
    refine And.intro rfl (Exists.intro 207 (And.intro rfl ?_))
    refine Exists.intro (nI 9) (And.intro rfl ?_)
    refine Exists.intro (9) (Exists.intro (nI 20) (And.intro rfl (And.intro ⟨2788, rfl, by decide, by decide⟩ (And.intro ((congrFun hS 9).trans e9) ?_))))
    refine Exists.intro (nI 20) (And.intro rfl ?_)
    refine And.intro (fun h9 => ?_) (fun h9 => ?_)
    · skip
      exact absurd (by decide) h9
    · skip
      refine Exists.intro (nI 470) (And.intro rfl ?_)
      exact l_kr1 e9 _ 470 σ rfl (by omega) (by omega) qf.rf (hS.trans (q_sh1_0 S).symm)
  · rw [if_neg h]
    refine qx_M_in rfl (Nat.le_of_ble_eq_true rfl) ?_
    refine qy_wp_ok (c := CX12_keepsRing) (cuts := [16, 72]) vX12_keepsRing wX12_keepsRing 2000 0 _ _ _ ?_
    refine And.intro rfl (Exists.intro 207 (And.intro rfl ?_))
    refine Exists.intro (nI 9) (And.intro rfl ?_)
    refine Exists.intro (9) (Exists.intro (nI u) (And.intro rfl (And.intro ⟨2788, rfl, by decide, by decide⟩ (And.intro ((congrFun hS 9).trans e9) ?_))))
    refine Exists.intro (nI 20) (And.intro rfl ?_)
    refine And.intro (fun h9 => ?_) (fun h9 => ?_)
    · skip
      have h9 := nI_neT (a := u) (b := 20) (by omega) (by decide) h9
      refine Exists.intro (nI 348) (And.intro rfl ?_)
      refine Exists.intro (nI 122) (And.intro rfl ?_)
      refine And.intro rfl (Exists.intro 207 (And.intro rfl ?_))
      refine Exists.intro (nI 9) (And.intro rfl ?_)
      refine Exists.intro (9) (Exists.intro (nI u) (And.intro rfl (And.intro ⟨2788, rfl, by decide, by decide⟩ (And.intro ((congrFun hS 9).trans e9) ?_))))
      refine Exists.intro (nI (122 * u)) (And.intro (pk_mul _ _) ?_)
      refine Exists.intro (nI (348 + 122 * u)) (And.intro (nI_add _ _) ?_)
      refine Exists.intro (nI 0) (And.intro rfl ?_)
      exact l_kr2 (by omega) e9 _ 0 σ rfl (by omega) qf.rf (hS.trans (q_kr1_0 _ _).symm)
    · skip
      have h9 := nI_eqT (a := u) (b := 20) (by omega) (by decide) h9
      exact absurd h9 h

