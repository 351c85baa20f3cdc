/-! THE REFERENCE: MOST -/
theorem m_isOf {G : qx_G} {σ : qx_S} {s k : Nat} (hs : s < 2147483648) (hk : k < 32) : qx_M G qc_T 0 YX12_isOf [.int (nI s), .int (nI k)] σ (qr (bI (s.testBit k)) σ) := by
  have hl : s / 2 ^ k &&& 1 ≤ 1 := Nat.and_le_right
  refine qx_M_in rfl (Nat.le_of_ble_eq_true rfl) ?_
  refine qy_wp_ok (c := CX12_isOf) (cuts := []) vX12_isOf wX12_isOf 2000 0 _ _ _ ?_
  refine Exists.intro (nI (s / 2 ^ k)) (And.intro (nI_shr (by omega) (by omega)) ?_)
  refine Exists.intro (nI 1) (And.intro rfl ?_)
  refine Exists.intro (nI ((s / 2 ^ k) &&& 1)) (And.intro (nI_and _ _) ?_)
  refine Exists.intro (nI 1) (And.intro rfl ?_)
  refine And.intro (fun h6 => ?_) (fun h6 => ?_)
  · skip
    have h6 := nI_neT (a := (s / 2 ^ k) &&& 1) (b := 1) (by omega) (by decide) h6
    refine Exists.intro (nI 0) (And.intro rfl ?_)
    refine And.intro (Or.inl rfl) ?_
    first | exact ⟨congrArg (fun z => some (Value.int z)) (bI_true (q_tb.mp h6)).symm, rfl⟩ | exact ⟨congrArg (fun z => some (Value.int z)) (bI_false (Bool.eq_false_iff.mpr (fun y => h6 (q_tb.mpr y)))).symm, rfl⟩
  · skip
    have h6 := nI_eqT (a := (s / 2 ^ k) &&& 1) (b := 1) (by omega) (by decide) h6
    refine Exists.intro (nI 1) (And.intro rfl ?_)
    refine And.intro (Or.inr rfl) ?_
    first | exact ⟨congrArg (fun z => some (Value.int z)) (bI_true (q_tb.mp h6)).symm, rfl⟩ | exact ⟨congrArg (fun z => some (Value.int z)) (bI_false (Bool.eq_false_iff.mpr (fun y => h6 (q_tb.mpr y)))).symm, rfl⟩
theorem m_takes {G : qx_G} {σ : qx_S} {n a b : Nat} (hn : n < 5) (ha : a < 10) (hb : b < 10) {v : Bool} (hv : qx_mi σ 212 (100 * n + 10 * a + b) = bI v) : qx_M G qc_T 0 YX12_takes [.ref 197, .int (nI n), .int (nI a), .int (nI b)] σ (qr (bI v) σ) := by
  refine qx_M_in rfl (Nat.le_of_ble_eq_true rfl) ?_
  refine qy_wp_ok (c := CX12_takes) (cuts := []) vX12_takes wX12_takes 2000 0 _ _ _ ?_
  refine And.intro rfl (Exists.intro 212 (And.intro rfl ?_))
  refine Exists.intro (nI 100) (And.intro rfl ?_)
  refine Exists.intro (nI (100 * n)) (And.intro (pk_mul _ _) ?_)
  refine Exists.intro (nI 10) (And.intro rfl ?_)
  refine Exists.intro (nI (10 * a)) (And.intro (pk_mul _ _) ?_)
  refine Exists.intro (nI (100 * n + 10 * a)) (And.intro (nI_add _ _) ?_)
  refine Exists.intro (nI (100 * n + 10 * a + b)) (And.intro (nI_add _ _) ?_)
  refine Exists.intro (100 * n + 10 * a + b) (Exists.intro (bI v) (And.intro rfl (And.intro (Or.inr ⟨500, rfl, by omega, by decide⟩) (And.intro hv ?_))))
  refine And.intro (bI_01 _) ?_
  exact ⟨rfl, rfl⟩
/-- the best so far -/
def mB (σ : qx_S) (b : q_T3) : Prop := qx_mi σ 197 34 = b.1 ∧ qx_mi σ 197 35 = nI b.2.1 ∧ qx_mi σ 197 36 = nI b.2.2
abbrev lB : List (Nat × Option Nat) := [(197, some 34), (197, some 35), (197, some 36)]
theorem m_offers {G : qx_G} {σ : qx_S} {D : Nat → q_T3} {set inn n num : Nat} {gd : Int32} {b : q_T3} (hs : set < 1024) (hn : n ≤ 4) (h1 : qx_mi σ 214 (q_wo set inn) = (D (q_wo set inn)).1) (hg2 : qx_mi σ 215 (q_wo set inn) = nI (D (q_wo set inn)).2.1) (hm : (D (q_wo set inn)).2.1 ≤ 5000) (hbm : b.2.1 ≤ 5000) (hB : mB σ b) : qx_M G qc_T 0 YX12_offers [.ref 197, .int (nI set), .int (nI inn), .int gd, .int (nI n), .int (nI num)] σ (fun r s => r = none ∧ ql lB σ s ∧ mB s (q_of1 D set b (inn, gd, n, num))) := by
  have hw := q_wo_le set inn
  have hf : ql lB σ σ := qf.rf
  have u1 : gd + (D (q_wo set inn)).1 < b.1 → q_of1 D set b (inn, gd, n, num) = b := fun h => if_pos (Or.inl h)
  have u2 : gd + (D (q_wo set inn)).1 = b.1 → b.2.1 ≤ n + (D (q_wo set inn)).2.1 → q_of1 D set b (inn, gd, n, num) = b := fun h h' => if_pos (Or.inr ⟨h, h'⟩)
  have u3 : ¬ gd + (D (q_wo set inn)).1 < b.1 → (gd + (D (q_wo set inn)).1 = b.1 → ¬ b.2.1 ≤ n + (D (q_wo set inn)).2.1) → q_of1 D set b (inn, gd, n, num) = (gd + (D (q_wo set inn)).1, n + (D (q_wo set inn)).2.1, num) := fun h h' => if_neg (fun z => z.elim h (fun y => h' y.1 y.2))
  refine qx_M_in rfl (Nat.le_of_ble_eq_true rfl) ?_
  refine qy_wp_ok (c := CX12_offers) (cuts := []) vX12_offers wX12_offers 2000 0 _ _ _ ?_
  refine Exists.intro ((-1)) (And.intro (by decide) ?_)
  refine Exists.intro ((nI inn) ^^^ (-1)) (And.intro rfl ?_)
  refine Exists.intro (nI (q_wo set inn)) (And.intro (nI_andn set inn (by omega)) ?_)
  refine And.intro rfl (Exists.intro 214 (And.intro rfl ?_))
  refine Exists.intro (q_wo set inn) (Exists.intro ((D (q_wo set inn)).1) (And.intro rfl (And.intro ⟨1024, rfl, by omega, by decide⟩ (And.intro h1 ?_))))
  refine Exists.intro (gd + ((D (q_wo set inn)).1)) (And.intro rfl ?_)
  refine And.intro rfl (Exists.intro 215 (And.intro rfl ?_))
  refine Exists.intro (q_wo set inn) (Exists.intro (nI ((D (q_wo set inn)).2.1)) (And.intro rfl (And.intro ⟨1024, rfl, by omega, by decide⟩ (And.intro hg2 ?_))))
  refine Exists.intro (nI (n + ((D (q_wo set inn)).2.1))) (And.intro (nI_add _ _) ?_)
  refine And.intro rfl (Exists.intro 34 (Exists.intro b.1 (And.intro rfl (And.intro hB.1 ?_))))
  refine And.intro (fun h36 => ?_) (fun h36 => ?_)
  · skip
    first | exact ⟨rfl, hf, by rw [u1 h36]; exact hB⟩ | exact ⟨rfl, hf, by rw [u2 h45 h54]; exact hB⟩
  · skip
    refine And.intro rfl (Exists.intro 34 (Exists.intro b.1 (And.intro rfl (And.intro hB.1 ?_))))
    refine And.intro (fun h45 => ?_) (fun h45 => ?_)
    · skip
      obtain ⟨σ1, eσ1⟩ : ∃ zs, zs = (qx_wi σ 197 34 (gd + ((D (q_wo set inn)).1))) := ⟨_, rfl⟩
      have fσ1 := qn_wif eσ1
      refine And.intro rfl (Exists.intro 34 (Exists.intro σ1 (And.intro rfl (And.intro eσ1.symm ?_))))
      have hf_σ1 : ql lB σ σ1 := hf.tr (fσ1.mn rfl)
      obtain ⟨σ2, eσ2⟩ : ∃ zs, zs = (qx_wi σ1 197 35 (nI (n + ((D (q_wo set inn)).2.1)))) := ⟨_, rfl⟩
      have fσ2 := qn_wif eσ2
      refine And.intro rfl (Exists.intro 35 (Exists.intro σ2 (And.intro rfl (And.intro eσ2.symm ?_))))
      have hf_σ2 : ql lB σ σ2 := hf_σ1.tr (fσ2.mn rfl)
      obtain ⟨σ3, eσ3⟩ : ∃ zs, zs = (qx_wi σ2 197 36 (nI num)) := ⟨_, rfl⟩
      have fσ3 := qn_wif eσ3
      refine And.intro rfl (Exists.intro 36 (Exists.intro σ3 (And.intro rfl (And.intro eσ3.symm ?_))))
      have hf_σ3 : ql lB σ σ3 := hf_σ2.tr (fσ3.mn rfl)
      first | exact ⟨rfl, hf_σ3, by rw [u3 h36 (fun _ => by omega)]; exact ⟨((qn_ne eσ3 (Or.inr (by decide))).trans ((qn_ne eσ2 (Or.inr (by decide))).trans (qn_eq eσ1))), ((qn_ne eσ3 (Or.inr (by decide))).trans (qn_eq eσ2)), (qn_eq eσ3)⟩⟩ | exact ⟨rfl, hf_σ3, by rw [u3 h36 (fun z => absurd z h45)]; exact ⟨((qn_ne eσ3 (Or.inr (by decide))).trans ((qn_ne eσ2 (Or.inr (by decide))).trans (qn_eq eσ1))), ((qn_ne eσ3 (Or.inr (by decide))).trans (qn_eq eσ2)), (qn_eq eσ3)⟩⟩
    · skip
      refine And.intro rfl (Exists.intro 35 (Exists.intro (nI b.2.1) (And.intro rfl (And.intro hB.2.1 ?_))))
      refine And.intro (fun h54 => ?_) (fun h54 => ?_)
      · skip
        have h54 := nI_ltT (a := n + ((D (q_wo set inn)).2.1)) (b := b.2.1) (by omega) (by omega) h54
        obtain ⟨σ1, eσ1⟩ : ∃ zs, zs = (qx_wi σ 197 34 (gd + ((D (q_wo set inn)).1))) := ⟨_, rfl⟩
        have fσ1 := qn_wif eσ1
        refine And.intro rfl (Exists.intro 34 (Exists.intro σ1 (And.intro rfl (And.intro eσ1.symm ?_))))
        have hf_σ1 : ql lB σ σ1 := hf.tr (fσ1.mn rfl)
        obtain ⟨σ2, eσ2⟩ : ∃ zs, zs = (qx_wi σ1 197 35 (nI (n + ((D (q_wo set inn)).2.1)))) := ⟨_, rfl⟩
        have fσ2 := qn_wif eσ2
        refine And.intro rfl (Exists.intro 35 (Exists.intro σ2 (And.intro rfl (And.intro eσ2.symm ?_))))
        have hf_σ2 : ql lB σ σ2 := hf_σ1.tr (fσ2.mn rfl)
        obtain ⟨σ3, eσ3⟩ : ∃ zs, zs = (qx_wi σ2 197 36 (nI num)) := ⟨_, rfl⟩
        have fσ3 := qn_wif eσ3
        refine And.intro rfl (Exists.intro 36 (Exists.intro σ3 (And.intro rfl (And.intro eσ3.symm ?_))))
        have hf_σ3 : ql lB σ σ3 := hf_σ2.tr (fσ3.mn rfl)
        first | exact ⟨rfl, hf_σ3, by rw [u3 h36 (fun _ => by omega)]; exact ⟨((qn_ne eσ3 (Or.inr (by decide))).trans ((qn_ne eσ2 (Or.inr (by decide))).trans (qn_eq eσ1))), ((qn_ne eσ3 (Or.inr (by decide))).trans (qn_eq eσ2)), (qn_eq eσ3)⟩⟩ | exact ⟨rfl, hf_σ3, by rw [u3 h36 (fun z => absurd z h45)]; exact ⟨((qn_ne eσ3 (Or.inr (by decide))).trans ((qn_ne eσ2 (Or.inr (by decide))).trans (qn_eq eσ1))), ((qn_ne eσ3 (Or.inr (by decide))).trans (qn_eq eσ2)), (qn_eq eσ3)⟩⟩
      · skip
        have h54 := nI_ltF (a := n + ((D (q_wo set inn)).2.1)) (b := b.2.1) (by omega) (by omega) h54
        first | exact ⟨rfl, hf, by rw [u1 h36]; exact hB⟩ | exact ⟨rfl, hf, by rw [u2 h45 h54]; exact hB⟩

