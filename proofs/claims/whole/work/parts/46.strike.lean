/-! THE REFERENCE: nothing is ever struck -/
/-- who owes is heavier -/
def iW (S : qS) : Prop := ∀ a b, a < s_n S 1 → b < s_n S 1 → 0 < S (154 + 10 * a + b) → S (10 + 5 * b + 1) < S (10 + 5 * a + 1)
theorem l_isInRow {G : qx_G} {σ : qx_S} {d : Nat → Nat} {k p : Nat} (hk : k ≤ 10) (hd : ∀ i, i < k → qx_mi σ 209 i = nI (d i) ∧ d i < 100) (hp : p < 100) : ∀ (m i : Nat), m = k - i → i ≤ k →
    qx_K G qc_T 0 RX12 YX12_isInRow 2 [.ref 197, .int (nI p), .int (nI k), .int (nI i)] [] σ (qr (bI (q_ex (fun i => decide (d i = p)) (k - i) i)) σ) := by
  intro m
  induction m using Nat.strongRecOn with
  | _ m ih =>
    intro i hm hi
    rcases Nat.lt_or_ge i k with hlt | hge
    · have e1 : k - i = (k - (i + 1)) + 1 := by omega
      have hdi := (hd i hlt).2
      refine qy_wp_ok (c := CX12_isInRow) (cuts := [2]) vX12_isInRow wX12_isInRow 2000 2 _ _ _ ?_
      refine And.intro (fun h4 => ?_) (fun h4 => ?_)
      · skip
        have h4 := nI_leT (a := k) (b := i) (by omega) (by omega) h4
        exact absurd h4 (by omega)
      · skip
        have h4 := nI_leF (a := k) (b := i) (by omega) (by omega) h4
        refine And.intro rfl (Exists.intro 209 (And.intro rfl ?_))
        refine Exists.intro (i) (Exists.intro (nI (d i)) (And.intro rfl (And.intro ⟨11, rfl, by omega, by decide⟩ (And.intro ((hd i hlt).1) ?_))))
        refine And.intro (fun h14 => ?_) (fun h14 => ?_)
        · skip
          have h14 := nI_neT (a := d i) (b := p) (by omega) (by omega) h14
          refine Exists.intro (nI (i + 1)) (And.intro (nI_add _ _) ?_)
          rw [e1, q_ex_f (decide_eq_false h14)]; exact ih _ (by omega) (i + 1) rfl (by omega)
        · skip
          have h14 := nI_eqT (a := d i) (b := p) (by omega) (by omega) h14
          refine Exists.intro (nI 1) (And.intro rfl ?_)
          refine And.intro (Or.inr rfl) ?_
          rw [e1]; exact ⟨congrArg (fun z => some (Value.int z)) (bI_true (q_ex_t (decide_eq_true h14))).symm, rfl⟩
    · obtain rfl : i = k := by omega
      rw [Nat.sub_self]
      refine qy_wp_ok (c := CX12_isInRow) (cuts := [2]) vX12_isInRow wX12_isInRow 2000 2 _ _ _ ?_
      refine And.intro (fun h4 => ?_) (fun h4 => ?_)
      · skip
        have h4 := nI_leT (a := i) (b := i) (by omega) (by omega) h4
        refine Exists.intro (nI 0) (And.intro rfl ?_)
        refine And.intro (Or.inl rfl) ?_
        exact ⟨rfl, rfl⟩
      · skip
        have h4 := nI_leF (a := i) (b := i) (by omega) (by omega) h4
        exact absurd h4 (by omega)
theorem m_isInRow {G : qx_G} {σ : qx_S} {d : Nat → Nat} {k p : Nat} (hk : k ≤ 10) (hd : ∀ i, i < k → qx_mi σ 209 i = nI (d i) ∧ d i < 100) (hp : p < 100) : qx_M G qc_T 0 YX12_isInRow [.ref 197, .int (nI p), .int (nI k)] σ (qr (bI (q_ex (fun i => decide (d i = p)) k 0)) σ) := by
  refine qx_M_in rfl (Nat.le_of_ble_eq_true rfl) ?_
  refine qy_wp_ok (c := CX12_isInRow) (cuts := [2]) vX12_isInRow wX12_isInRow 2000 0 _ _ _ ?_
  refine Exists.intro (nI 0) (And.intro rfl ?_)
  exact l_isInRow hk hd hp _ 0 rfl (by omega)
theorem l_findsRing {G : qx_G} {σ0 : qx_S} {S : qS} (g : gS S) (hW : iW S) {b n : Nat} (hb : b < s_n S 1) (hn : n ≤ s_n S 1) {Φ : qx_F} : ∀ (r t k : Nat) (d : Nat → Nat) (σ : qx_S), r = n - 1 - k → t = s_n S 1 - d k → 1 ≤ k → k ≤ n - 1 → ql [(209, none)] σ0 σ → qx_mi σ 207 = S → (∀ i, i ≤ k → qx_mi σ 209 i = nI (d i) ∧ d i < s_n S 1) → (∀ i, i < k → d i = b ∨ S (10 + 5 * d i + 1) < S (10 + 5 * b + 1)) →
    (∀ s, ql [(209, none)] σ0 s → qx_mi s 207 = S → (∀ i, i < k → qx_mi s 209 i = nI (d i)) → qx_K G qc_T 1 RX12 YX12_findsRing 16 [.ref 197, .int (nI b), .int (nI n), .int (nI (k - 1)), .retAddr 0] [] s Φ) →
    qx_K G qc_T 1 RX12 YX12_findsRing 16 [.ref 197, .int (nI b), .int (nI n), .int (nI k), .retAddr 0] [] σ Φ := by
  have h10 := g.2.1.2
  intro r
  induction r using Nat.strongRecOn with
  | _ r ihr =>
    intro t
    induction t using Nat.strongRecOn with
    | _ t iht =>
      intro k d σ hr ht hk1 hkn hf hS hd hch hcont
      have dk := (hd k (Nat.le_refl _)).2
      have dk1 := (hd (k - 1) (by omega)).2
      refine qy_wp_ok (c := CX12_findsRing) (cuts := [16]) vX12_findsRing wX12_findsRing 2000 16 _ _ _ ?_
      refine And.intro (fun h17 => ?_) (fun h17 => ?_)
      · skip
        have h17 := nI_leT (a := k) (b := 0) (by omega) (by decide) h17
        exact absurd h17 (by omega)
      · skip
        have h17 := nI_leF (a := k) (b := 0) (by omega) (by decide) h17
        refine And.intro rfl (Exists.intro 209 (And.intro rfl ?_))
        refine Exists.intro (k) (Exists.intro (nI (d k)) (And.intro rfl (And.intro ⟨11, rfl, by omega, by decide⟩ (And.intro ((hd k (Nat.le_refl _)).1) ?_))))
        refine Exists.intro (nI 1) (And.intro rfl ?_)
        refine Exists.intro (nI (d k + 1)) (And.intro (nI_add _ _) ?_)
        obtain ⟨σ1, eσ1⟩ : ∃ zs, zs = (qx_wi σ 209 k (nI (d k + 1))) := ⟨_, rfl⟩
        have fσ1 := qn_wi eσ1
        refine Exists.intro (k) (Exists.intro σ1 (And.intro rfl (And.intro ⟨11, rfl, by omega, by decide⟩ (And.intro eσ1.symm ?_))))
        have hS_σ1 : qx_mi σ1 207 = S := (fσ1.row 207 (fun _ => rfl)).trans hS
        have hf_σ1 : ql [(209, none)] σ0 σ1 := hf.tr fσ1
        have hd1 : ∀ i, i < k → qx_mi σ1 209 i = nI (d i) := fun i hi => (qn_ne eσ1 (Or.inr (by omega))).trans (hd i (by omega)).1
        have st : ∀ s, ql [(209, none)] σ0 s → qx_mi s 207 = S → (∀ i, i < k → qx_mi s 209 i = nI (d i)) → qx_mi s 209 k = nI (d k + 1) → d k + 1 < s_n S 1 → qx_K G qc_T 1 RX12 YX12_findsRing 16 [.ref 197, .int (nI b), .int (nI n), .int (nI k), .retAddr 0] [] s Φ := by
          intro s y1 y2 y3 y4 y5
          refine iht (s_n S 1 - (d k + 1)) (by omega) k (fun i => if i = k then d k + 1 else d i) s hr (by rw [if_pos rfl]) hk1 hkn y1 y2 (fun i hi => ?_) (fun i hi => ?_) (fun s' z1 z2 z3 => hcont s' z1 z2 (fun i hi => ?_))
          · by_cases e : i = k
            · rw [if_pos e, e]; exact ⟨y4, y5⟩
            · rw [if_neg e]; exact ⟨y3 i (by omega), (hd i hi).2⟩
          · rw [if_neg (by omega)]; exact hch i hi
          · have := z3 i hi; rw [if_neg (by omega)] at this; exact this
        have pu : ∀ s, ql [(209, none)] σ0 s → qx_mi s 207 = S → (∀ i, i < k → qx_mi s 209 i = nI (d i)) → qx_mi s 209 k = nI (d k + 1) → qx_mi s 209 (k + 1) = nI b → 0 < S (154 + 10 * d (k - 1) + (d k + 1)) → d k + 1 < s_n S 1 → k + 1 ≤ n - 1 → qx_K G qc_T 1 RX12 YX12_findsRing 16 [.ref 197, .int (nI b), .int (nI n), .int (nI (k + 1)), .retAddr 0] [] s Φ := by
          intro s y1 y2 y3 y4 y5 y6 y7 y8
          refine ihr (n - 1 - (k + 1)) (by omega) (s_n S 1 - b) (k + 1) (fun i => if i = k + 1 then b else if i = k then d k + 1 else d i) s rfl (by rw [if_pos rfl]) (by omega) y8 y1 y2 (fun i hi => ?_) (fun i hi => ?_) (fun s' z1 z2 z3 => ?_)
          · by_cases e : i = k + 1
            · rw [if_pos e, e]; exact ⟨y5, hb⟩
            · rw [if_neg e]
              by_cases e2 : i = k
              · rw [if_pos e2, e2]; exact ⟨y4, y7⟩
              · rw [if_neg e2]; exact ⟨y3 i (by omega), (hd i (by omega)).2⟩
          · rw [if_neg (by omega)]
            by_cases e2 : i = k
            · rw [if_pos e2]
              right
              have w1 := hW (d (k - 1)) (d k + 1) dk1 y7 y6
              rcases hch (k - 1) (by omega) with e | e
              · rw [e] at w1; exact w1
              · exact Int32.lt_trans w1 e
            · rw [if_neg e2]; exact hch i (by omega)
          · rw [Nat.add_sub_cancel]
            refine st s' z1 z2 (fun i hi => ?_) ?_ y7
            · have := z3 i (by omega); rw [if_neg (by omega), if_neg (by omega)] at this; exact this
            · have := z3 k (by omega); rw [if_neg (by omega), if_pos rfl] at this; exact this
        refine And.intro rfl (Exists.intro 209 (And.intro rfl ?_))
        refine Exists.intro (k) (Exists.intro (nI (d k + 1)) (And.intro rfl (And.intro ⟨11, rfl, by omega, by decide⟩ (And.intro (qn_eq eσ1) ?_))))
        refine And.intro rfl (Exists.intro 207 (And.intro rfl ?_))
        refine Exists.intro (nI 1) (And.intro rfl ?_)
        refine Exists.intro (1) (Exists.intro (nI (s_n S 1)) (And.intro rfl (And.intro ⟨2788, rfl, by decide, by decide⟩ (And.intro ((congrFun hS_σ1 1).trans g.2.1.1) ?_))))
        refine And.intro (fun h46 => ?_) (fun h46 => ?_)
        · skip
          have h46 := nI_ltT (a := d k + 1) (b := s_n S 1) (by omega) (by omega) h46
          refine And.intro rfl (Exists.intro 209 (And.intro rfl ?_))
          refine Exists.intro (nI 1) (And.intro rfl ?_)
          refine Exists.intro (nI (k - 1)) (And.intro (nI_sub (by omega)) ?_)
          refine Exists.intro (k - 1) (Exists.intro (nI (d (k - 1))) (And.intro rfl (And.intro ⟨11, rfl, by omega, by decide⟩ (And.intro ((qn_ne eσ1 (Or.inr (by omega))).trans ((hd (k - 1) (by omega)).1)) ?_))))
          refine And.intro rfl (Exists.intro _ (And.intro (by decide) (qx_M_mono (m_oweOf (a := (d (k - 1))) (b := (d k + 1)) (by omega) (by omega) (congrFun hS_σ1 (154 + 10 * (d (k - 1)) + (d k + 1)))) ?_)))
          rintro _ _ ⟨rfl, rfl⟩
          refine And.intro (fun h69 => ?_) (fun h69 => ?_)
          · skip
            refine qx_K_le (ls := [.ref 197, .int (nI b), .int (nI n), .int (nI k), .retAddr 0]) ⟨Or.inr rfl, Or.inr rfl, Or.inr rfl, Or.inr rfl, Or.inl rfl, trivial⟩ ?_
            first | exact hcont _ hf_σ1 hS_σ1 hd1 | exact st _ hf_σ1 hS_σ1 hd1 (qn_eq eσ1) (by omega) | exact pu _ hf_σ1 hS_σ1 (fun i hi => (qn_ne eσ2 (Or.inr (by omega))).trans (hd1 i hi)) ((qn_ne eσ2 (Or.inr (by omega))).trans (qn_eq eσ1)) (qn_eq eσ2) (Int32.not_le.mp h69) (by omega) (by omega)
          · skip
            refine And.intro rfl (Exists.intro _ (And.intro (by decide) (qx_M_mono (m_isInRow (d := d) (by omega) (fun i hi => ⟨hd1 i hi, Nat.lt_of_lt_of_le (hd i (by omega)).2 (by omega)⟩) (by omega)) ?_)))
            rintro _ _ ⟨rfl, rfl⟩
            refine And.intro (fun h79 => ?_) (fun h79 => ?_)
            · skip
              have h79 := bI_t h79
              refine qx_K_le (ls := [.ref 197, .int (nI b), .int (nI n), .int (nI k), .retAddr 0]) ⟨Or.inr rfl, Or.inr rfl, Or.inr rfl, Or.inr rfl, Or.inl rfl, trivial⟩ ?_
              first | exact hcont _ hf_σ1 hS_σ1 hd1 | exact st _ hf_σ1 hS_σ1 hd1 (qn_eq eσ1) (by omega) | exact pu _ hf_σ1 hS_σ1 (fun i hi => (qn_ne eσ2 (Or.inr (by omega))).trans (hd1 i hi)) ((qn_ne eσ2 (Or.inr (by omega))).trans (qn_eq eσ1)) (qn_eq eσ2) (Int32.not_le.mp h69) (by omega) (by omega)
            · skip
              have h79 := bI_f h79
              refine Exists.intro (nI 1) (And.intro rfl ?_)
              refine Exists.intro (nI (n - 1)) (And.intro (nI_sub (by omega)) ?_)
              refine And.intro (fun h86 => ?_) (fun h86 => ?_)
              · skip
                have h86 := nI_neT (a := k) (b := n - 1) (by omega) (by omega) h86
                refine Exists.intro (nI (k + 1)) (And.intro (nI_add _ _) ?_)
                refine And.intro rfl (Exists.intro 209 (And.intro rfl ?_))
                obtain ⟨σ2, eσ2⟩ : ∃ zs, zs = (qx_wi σ1 209 (k + 1) (nI b)) := ⟨_, rfl⟩
                have fσ2 := qn_wi eσ2
                refine Exists.intro (k + 1) (Exists.intro σ2 (And.intro rfl (And.intro ⟨11, rfl, by omega, by decide⟩ (And.intro eσ2.symm ?_))))
                have hS_σ2 : qx_mi σ2 207 = S := (fσ2.row 207 (fun _ => rfl)).trans hS_σ1
                have hf_σ2 : ql [(209, none)] σ0 σ2 := hf_σ1.tr fσ2
                refine qx_K_le (ls := [.ref 197, .int (nI b), .int (nI n), .int (nI (k + 1)), .retAddr 0]) ⟨Or.inr rfl, Or.inr rfl, Or.inr rfl, Or.inr rfl, Or.inl rfl, trivial⟩ ?_
                first | exact hcont _ hf_σ2 hS_σ2 hd1 | exact st _ hf_σ2 hS_σ2 hd1 (qn_eq eσ1) (by omega) | exact pu _ hf_σ2 hS_σ2 (fun i hi => (qn_ne eσ2 (Or.inr (by omega))).trans (hd1 i hi)) ((qn_ne eσ2 (Or.inr (by omega))).trans (qn_eq eσ1)) (qn_eq eσ2) (Int32.not_le.mp h69) (by omega) (by omega)
              · skip
                have h86 := nI_eqT (a := k) (b := n - 1) (by omega) (by omega) h86
                refine And.intro rfl (Exists.intro _ (And.intro (by decide) (qx_M_mono (m_oweOf (a := (d k + 1)) (b := b) (by omega) (by omega) (congrFun hS_σ1 (154 + 10 * (d k + 1) + b))) ?_)))
                rintro _ _ ⟨rfl, rfl⟩
                refine And.intro (fun h96 => ?_) (fun h96 => ?_)
                · skip
                  refine qx_K_le (ls := [.ref 197, .int (nI b), .int (nI n), .int (nI k), .retAddr 0]) ⟨Or.inr rfl, Or.inr rfl, Or.inr rfl, Or.inr rfl, Or.inl rfl, trivial⟩ ?_
                  first | exact hcont _ hf_σ1 hS_σ1 hd1 | exact st _ hf_σ1 hS_σ1 hd1 (qn_eq eσ1) (by omega) | exact pu _ hf_σ1 hS_σ1 (fun i hi => (qn_ne eσ2 (Or.inr (by omega))).trans (hd1 i hi)) ((qn_ne eσ2 (Or.inr (by omega))).trans (qn_eq eσ1)) (qn_eq eσ2) (Int32.not_le.mp h69) (by omega) (by omega)
                · skip
                  exfalso
                  have w1 := hW (d (k - 1)) (d k + 1) dk1 (by omega) (Int32.not_le.mp h69)
                  have w2 := hW (d k + 1) b (by omega) hb (Int32.not_le.mp h96)
                  rcases hch (k - 1) (by omega) with e | e
                  · rw [e] at w1; exact Int32.lt_irrefl (Int32.lt_trans w1 w2)
                  · exact Int32.lt_irrefl (Int32.lt_trans (Int32.lt_trans w1 e) w2)
        · skip
          have h46 := nI_ltF (a := d k + 1) (b := s_n S 1) (by omega) (by omega) h46
          refine Exists.intro (nI (k - 1)) (And.intro (nI_dec 1 (by omega)) ?_)
          refine qx_K_le (ls := [.ref 197, .int (nI b), .int (nI n), .int (nI (k - 1)), .retAddr 0]) ⟨Or.inr rfl, Or.inr rfl, Or.inr rfl, Or.inr rfl, Or.inl rfl, trivial⟩ ?_
          first | exact hcont _ hf_σ1 hS_σ1 hd1 | exact st _ hf_σ1 hS_σ1 hd1 (qn_eq eσ1) (by omega) | exact pu _ hf_σ1 hS_σ1 (fun i hi => (qn_ne eσ2 (Or.inr (by omega))).trans (hd1 i hi)) ((qn_ne eσ2 (Or.inr (by omega))).trans (qn_eq eσ1)) (qn_eq eσ2) (Int32.not_le.mp h69) (by omega) (by omega)
theorem m_findsRing {G : qx_G} {σ : qx_S} {S : qS} (hS : qx_mi σ 207 = S) (g : gS S) (hW : iW S) {b n : Nat} (hb : b < s_n S 1) (h2 : 2 ≤ n) (hn : n ≤ s_n S 1) : qx_M G qc_T 1 YX12_findsRing [.ref 197, .int (nI b), .int (nI n)] σ (fun r s => r = some (.int (bI false)) ∧ ql [(209, none)] σ s) := by
  have h10 := g.2.1.2
  have hf : ql [(209, none)] σ σ := qf.rf
  refine qx_M_in rfl (Nat.le_of_ble_eq_true rfl) ?_
  refine qy_wp_ok (c := CX12_findsRing) (cuts := [16]) vX12_findsRing wX12_findsRing 2000 0 _ _ _ ?_
  refine Exists.intro (nI 1) (And.intro rfl ?_)
  refine And.intro rfl (Exists.intro 209 (And.intro rfl ?_))
  refine Exists.intro (nI 0) (And.intro rfl ?_)
  obtain ⟨σ1, eσ1⟩ : ∃ zs, zs = (qx_wi σ 209 0 (nI b)) := ⟨_, rfl⟩
  have fσ1 := qn_wi eσ1
  refine Exists.intro (0) (Exists.intro σ1 (And.intro rfl (And.intro ⟨11, rfl, by decide, by decide⟩ (And.intro eσ1.symm ?_))))
  have hS_σ1 : qx_mi σ1 207 = S := (fσ1.row 207 (fun _ => rfl)).trans hS
  have hf_σ1 : ql [(209, none)] σ σ1 := hf.tr fσ1
  refine And.intro rfl (Exists.intro 209 (And.intro rfl ?_))
  refine Exists.intro (nI 1) (And.intro rfl ?_)
  obtain ⟨σ2, eσ2⟩ : ∃ zs, zs = (qx_wi σ1 209 1 (nI b)) := ⟨_, rfl⟩
  have fσ2 := qn_wi eσ2
  refine Exists.intro (1) (Exists.intro σ2 (And.intro rfl (And.intro ⟨11, rfl, by decide, by decide⟩ (And.intro eσ2.symm ?_))))
  have hS_σ2 : qx_mi σ2 207 = S := (fσ2.row 207 (fun _ => rfl)).trans hS_σ1
  have hf_σ2 : ql [(209, none)] σ σ2 := hf_σ1.tr fσ2
  refine l_findsRing g hW hb hn _ _ 1 (fun _ => b) _ rfl rfl (by omega) (by omega) hf_σ2 hS_σ2 (fun i hi => ⟨?_, hb⟩) (fun i hi => Or.inl rfl) (fun s y1 y2 y3 => ?_)
  · rcases Nat.lt_or_ge i 1 with z | z
    · obtain rfl : i = 0 := by omega
      exact ((qn_ne eσ2 (Or.inr (by decide))).trans (qn_eq eσ1))
    · obtain rfl : i = 1 := by omega
      exact (qn_eq eσ2)
  · refine qy_wp_ok (c := CX12_findsRing) (cuts := []) vX12_findsRing wX12_findsRing 2000 16 _ _ _ ?_
    refine And.intro (fun _ => ?_) (fun z => absurd (by decide) z)
    refine Exists.intro (nI 0) (And.intro rfl ?_)
    exact And.intro (Or.inl rfl) ⟨rfl, y1⟩
theorem l_shortest2 {G : qx_G} {σ0 : qx_S} {S : qS} (g : gS S) (hW : iW S) {n : Nat} (h2 : 2 ≤ n) (hn : n ≤ s_n S 1) {Φ : qx_F} : ∀ (m p : Nat) (σ : qx_S), m = s_n S 1 - p → p ≤ s_n S 1 → ql [(209, none)] σ0 σ → qx_mi σ 207 = S →
    (∀ s, ql [(209, none)] σ0 s → qx_mi s 207 = S → qx_K G qc_T 2 RX12 YX12_shortestRing 41 [.ref 197, .int (nI n), .retAddr 0] [] s Φ) →
    qx_K G qc_T 2 RX12 YX12_shortestRing 14 [.ref 197, .int (nI n), .int (nI p)] [] σ Φ := by
  intro m
  have h10 := g.2.1.2
  induction m using Nat.strongRecOn with
  | _ m ih =>
    intro p σ hm hp hf hS hk
    refine qy_wp_ok (c := CX12_shortestRing) (cuts := [14, 41]) vX12_shortestRing wX12_shortestRing 2000 14 _ _ _ ?_
    refine And.intro rfl (Exists.intro 207 (And.intro rfl ?_))
    refine Exists.intro (nI 1) (And.intro rfl ?_)
    refine Exists.intro (1) (Exists.intro (nI (s_n S 1)) (And.intro rfl (And.intro ⟨2788, rfl, by decide, by decide⟩ (And.intro ((congrFun hS 1).trans g.2.1.1) ?_))))
    refine And.intro (fun h21 => ?_) (fun h21 => ?_)
    · skip
      have h21 := nI_leT (a := s_n S 1) (b := p) (by omega) (by omega) h21
      refine qx_K_le (ls := [.ref 197, .int (nI n), .retAddr 0]) ⟨Or.inr rfl, Or.inr rfl, Or.inl rfl, trivial⟩ ?_
      exact hk σ hf hS
    · skip
      have h21 := nI_leF (a := s_n S 1) (b := p) (by omega) (by omega) h21
      refine And.intro rfl (Exists.intro _ (And.intro (by decide) (qx_M_mono (m_findsRing hS g hW (by omega) h2 hn) ?_)))
      rintro _ σ1 ⟨rfl, fσ1⟩
      have hS_σ1 : qx_mi σ1 207 = S := (fσ1.row 207 (fun _ => rfl)).trans hS
      have hf_σ1 : ql [(209, none)] σ0 σ1 := hf.tr fσ1
      refine And.intro (fun h30 => ?_) (fun h30 => ?_)
      · skip
        have h30 := bI_f h30
        refine Exists.intro (nI (p + 1)) (And.intro (nI_add _ _) ?_)
        exact ih _ (by omega) (p + 1) _ rfl (by omega) hf_σ1 hS_σ1 hk
      · skip
        have h30 := bI_t h30
        cases h30
theorem l_shortest1 {G : qx_G} {σ0 : qx_S} {S : qS} (g : gS S) (hW : iW S) : ∀ (m n : Nat) (σ : qx_S), m = s_n S 1 + 2 - n → 2 ≤ n → n ≤ s_n S 1 + 2 → ql [(209, none)] σ0 σ → qx_mi σ 207 = S →
    qx_K G qc_T 2 RX12 YX12_shortestRing 2 [.ref 197, .int (nI n), .retAddr 0] [] σ (fun r s => r = some (.int (nI 0)) ∧ ql [(209, none)] σ0 s) := by
  intro m
  have h10 := g.2.1.2
  induction m using Nat.strongRecOn with
  | _ m ih =>
    intro n σ hm h2 hn hf hS
    refine qy_wp_ok (c := CX12_shortestRing) (cuts := [2, 14]) vX12_shortestRing wX12_shortestRing 2000 2 _ _ _ ?_
    refine And.intro rfl (Exists.intro 207 (And.intro rfl ?_))
    refine Exists.intro (nI 1) (And.intro rfl ?_)
    refine Exists.intro (1) (Exists.intro (nI (s_n S 1)) (And.intro rfl (And.intro ⟨2788, rfl, by decide, by decide⟩ (And.intro ((congrFun hS 1).trans g.2.1.1) ?_))))
    refine And.intro (fun h9 => ?_) (fun h9 => ?_)
    · skip
      have h9 := nI_ltT (a := s_n S 1) (b := n) (by omega) (by omega) h9
      refine Exists.intro (nI 0) (And.intro rfl ?_)
      exact ⟨rfl, hf⟩
    · skip
      have h9 := nI_ltF (a := s_n S 1) (b := n) (by omega) (by omega) h9
      refine Exists.intro (nI 0) (And.intro rfl ?_)
      refine l_shortest2 g hW h2 (by omega) _ 0 σ rfl (by omega) hf hS (fun s y1 y2 => ?_)
      refine qy_wp_ok (c := CX12_shortestRing) (cuts := [2]) vX12_shortestRing wX12_shortestRing 2000 41 _ _ _ ?_
      refine Exists.intro (nI (n + 1)) (And.intro (nI_add _ _) ?_)
      exact ih _ (by omega) (n + 1) s rfl (by omega) (by omega) y1 y2
theorem m_shortestRing {G : qx_G} {σ : qx_S} {S : qS} (hS : qx_mi σ 207 = S) (g : gS S) (hW : iW S) : qx_M G qc_T 2 YX12_shortestRing [.ref 197] σ (fun r s => r = some (.int (nI 0)) ∧ ql [(209, none)] σ s) := by
  have h10 := g.2.1.2
  refine qx_M_in rfl (Nat.le_of_ble_eq_true rfl) ?_
  refine qy_wp_ok (c := CX12_shortestRing) (cuts := [2]) vX12_shortestRing wX12_shortestRing 2000 0 _ _ _ ?_
  refine Exists.intro (nI 2) (And.intro rfl ?_)
  exact l_shortest1 g hW _ 2 σ rfl (by omega) (by omega) qf.rf hS
theorem m_strike_no {G : qx_G} {σ : qx_S} {S : qS} (hS : qx_mi σ 207 = S) (e0 : S 0 = nI 0) : qx_M G qc_T 3 YX12_strike [.ref 197] σ (qr (-1) σ) := by
  refine qx_M_in rfl (Nat.le_of_ble_eq_true rfl) ?_
  refine qy_wp_ok (c := CX12_strike) (cuts := [16]) vX12_strike wX12_strike 2000 0 _ _ _ ?_
  refine And.intro rfl (Exists.intro _ (And.intro (by decide) (qx_M_mono (m_isCountry hS e0 (by omega)) ?_)))
  rintro _ _ ⟨rfl, rfl⟩
  refine And.intro (fun h4 => ?_) (fun h4 => ?_)
  · skip
    have h4 := bI_t h4
    exact absurd (h4.symm.trans ((by decide : decide (0 < 0) = false))) (by decide)
  · skip
    have h4 := bI_f h4
    refine Exists.intro ((-1)) (And.intro (by decide) ?_)
    exact ⟨rfl, rfl⟩
theorem m_strike_ok {G : qx_G} {σ : qx_S} {S : qS} (hS : qx_mi σ 207 = S) (g : gS S) (hW : iW S) (hc : 0 < s_n S 0) : qx_M G qc_T 3 YX12_strike [.ref 197] σ (fun r s => r = some (.int (nI 0)) ∧ ql [(209, none)] σ s) := by
  refine qx_M_in rfl (Nat.le_of_ble_eq_true rfl) ?_
  refine qy_wp_ok (c := CX12_strike) (cuts := []) vX12_strike wX12_strike 2000 0 _ _ _ ?_
  refine And.intro rfl (Exists.intro _ (And.intro (by decide) (qx_M_mono (m_isCountry hS g.1.1 g.1.2) ?_)))
  rintro _ _ ⟨rfl, rfl⟩
  refine And.intro (fun h4 => ?_) (fun h4 => ?_)
  · skip
    have h4 := bI_t h4
    refine Exists.intro (nI 0) (And.intro rfl ?_)
    refine And.intro rfl (Exists.intro _ (And.intro (by decide) (qx_M_mono (m_shortestRing hS g hW) ?_)))
    rintro _ σ1 ⟨rfl, fσ1⟩
    refine And.intro (fun h17 => ?_) (fun h17 => ?_)
    · skip
      exact ⟨rfl, fσ1⟩
    · skip
      exact absurd (by decide) h17
  · skip
    have h4 := bI_f h4
    exact absurd (h4.symm.trans (decide_eq_true hc)) (by decide)

