/-! THE REFERENCE: words, likes, laws -/
theorem m_words0 {G : qx_G} {σ : qx_S} {S : qS} (hS : qx_mi σ 207 = S) (e1 : S 1 = nI (s_n S 1)) (he1 : s_n S 1 ≤ 10) {p a to : Nat} (hp : p < 10) (hto : to < 8) (ha : S (10 + 5 * p) = nI a) : qx_M G qc_T 2 YX12_words [.ref 197, .int (nI p), .int (nI to), .int (-1), .int (nI 0)] σ (fun r s => r = none ∧ ql [(206, none)] σ s ∧ ∀ v, v < 12 → qx_ml s 206 v = q_w S p a to none 0 v) := by
  have hf : ql [(206, none)] σ σ := qf.rf
  refine qx_M_in rfl (Nat.le_of_ble_eq_true rfl) ?_
  refine qy_wp_ok (c := CX12_words) (cuts := []) vX12_words wX12_words 2000 0 _ _ _ ?_
  refine And.intro rfl (Exists.intro 206 (And.intro rfl ?_))
  refine Exists.intro (nI 0) (And.intro rfl ?_)
  refine Exists.intro ((nI p).toInt64) (And.intro rfl ?_)
  obtain ⟨σ1, eσ1⟩ : ∃ s, s = (qx_wl σ 206 0 ((nI p).toInt64)) := ⟨_, rfl⟩
  have fσ1 := qn_wl eσ1
  refine Exists.intro (0) (Exists.intro σ1 (And.intro rfl (And.intro ⟨12, rfl, by decide, by decide⟩ (And.intro eσ1.symm ?_))))
  have hS_σ1 : qx_mi σ1 207 = S := (fσ1.row 207 (fun _ => rfl)).trans hS
  have hf_σ1 : ql [(206, none)] σ σ1 := hf.tr fσ1
  refine And.intro rfl (Exists.intro 206 (And.intro rfl ?_))
  refine Exists.intro (nI 1) (And.intro rfl ?_)
  refine Exists.intro (nI 1) (And.intro rfl ?_)
  refine And.intro rfl (Exists.intro _ (And.intro (by decide) (qx_M_mono (m_personOf (p := p) (k := 1) (by omega) (by omega) (congrFun hS_σ1 (10 + 5 * p + 1))) ?_)))
  rintro _ _ ⟨rfl, rfl⟩
  refine Exists.intro ((S (10 + 5 * p + 1)).toInt64) (And.intro rfl ?_)
  obtain ⟨σ2, eσ2⟩ : ∃ s, s = (qx_wl σ1 206 1 ((S (10 + 5 * p + 1)).toInt64)) := ⟨_, rfl⟩
  have fσ2 := qn_wl eσ2
  refine Exists.intro (1) (Exists.intro σ2 (And.intro rfl (And.intro ⟨12, rfl, by decide, by decide⟩ (And.intro eσ2.symm ?_))))
  have hS_σ2 : qx_mi σ2 207 = S := (fσ2.row 207 (fun _ => rfl)).trans hS_σ1
  have hf_σ2 : ql [(206, none)] σ σ2 := hf_σ1.tr fσ2
  refine And.intro rfl (Exists.intro 206 (And.intro rfl ?_))
  refine Exists.intro (nI 2) (And.intro rfl ?_)
  refine Exists.intro (nI 2) (And.intro rfl ?_)
  refine And.intro rfl (Exists.intro _ (And.intro (by decide) (qx_M_mono (m_personOf (p := p) (k := 2) (by omega) (by omega) (congrFun hS_σ2 (10 + 5 * p + 2))) ?_)))
  rintro _ _ ⟨rfl, rfl⟩
  refine Exists.intro ((S (10 + 5 * p + 2)).toInt64) (And.intro rfl ?_)
  obtain ⟨σ3, eσ3⟩ : ∃ s, s = (qx_wl σ2 206 2 ((S (10 + 5 * p + 2)).toInt64)) := ⟨_, rfl⟩
  have fσ3 := qn_wl eσ3
  refine Exists.intro (2) (Exists.intro σ3 (And.intro rfl (And.intro ⟨12, rfl, by decide, by decide⟩ (And.intro eσ3.symm ?_))))
  have hS_σ3 : qx_mi σ3 207 = S := (fσ3.row 207 (fun _ => rfl)).trans hS_σ2
  have hf_σ3 : ql [(206, none)] σ σ3 := hf_σ2.tr fσ3
  refine And.intro rfl (Exists.intro 206 (And.intro rfl ?_))
  refine Exists.intro (nI 3) (And.intro rfl ?_)
  refine And.intro rfl (Exists.intro _ (And.intro (by decide) (qx_M_mono (m_at (p := p) (by omega) ((congrFun hS_σ3 _).trans ha)) ?_)))
  rintro _ _ ⟨rfl, rfl⟩
  refine Exists.intro ((nI a).toInt64) (And.intro rfl ?_)
  obtain ⟨σ4, eσ4⟩ : ∃ s, s = (qx_wl σ3 206 3 ((nI a).toInt64)) := ⟨_, rfl⟩
  have fσ4 := qn_wl eσ4
  refine Exists.intro (3) (Exists.intro σ4 (And.intro rfl (And.intro ⟨12, rfl, by decide, by decide⟩ (And.intro eσ4.symm ?_))))
  have hS_σ4 : qx_mi σ4 207 = S := (fσ4.row 207 (fun _ => rfl)).trans hS_σ3
  have hf_σ4 : ql [(206, none)] σ σ4 := hf_σ3.tr fσ4
  refine And.intro rfl (Exists.intro 206 (And.intro rfl ?_))
  refine Exists.intro (nI 4) (And.intro rfl ?_)
  refine Exists.intro ((nI to).toInt64) (And.intro rfl ?_)
  obtain ⟨σ5, eσ5⟩ : ∃ s, s = (qx_wl σ4 206 4 ((nI to).toInt64)) := ⟨_, rfl⟩
  have fσ5 := qn_wl eσ5
  refine Exists.intro (4) (Exists.intro σ5 (And.intro rfl (And.intro ⟨12, rfl, by decide, by decide⟩ (And.intro eσ5.symm ?_))))
  have hS_σ5 : qx_mi σ5 207 = S := (fσ5.row 207 (fun _ => rfl)).trans hS_σ4
  have hf_σ5 : ql [(206, none)] σ σ5 := hf_σ4.tr fσ5
  refine And.intro rfl (Exists.intro 206 (And.intro rfl ?_))
  refine Exists.intro (nI 5) (And.intro rfl ?_)
  refine And.intro rfl (Exists.intro _ (And.intro (by decide) (qx_M_mono (m_wishOf (p := p) (q := to) (by omega) (by omega) (congrFun hS_σ5 (60 + 8 * p + to))) ?_)))
  rintro _ _ ⟨rfl, rfl⟩
  refine Exists.intro ((S (60 + 8 * p + to)).toInt64) (And.intro rfl ?_)
  obtain ⟨σ6, eσ6⟩ : ∃ s, s = (qx_wl σ5 206 5 ((S (60 + 8 * p + to)).toInt64)) := ⟨_, rfl⟩
  have fσ6 := qn_wl eσ6
  refine Exists.intro (5) (Exists.intro σ6 (And.intro rfl (And.intro ⟨12, rfl, by decide, by decide⟩ (And.intro eσ6.symm ?_))))
  have hS_σ6 : qx_mi σ6 207 = S := (fσ6.row 207 (fun _ => rfl)).trans hS_σ5
  have hf_σ6 : ql [(206, none)] σ σ6 := hf_σ5.tr fσ6
  refine And.intro rfl (Exists.intro 206 (And.intro rfl ?_))
  refine Exists.intro (nI 6) (And.intro rfl ?_)
  refine And.intro (fun h74 => ?_) (fun h74 => ?_)
  · skip
    exact absurd h74 (by decide)
  · skip
    refine Exists.intro (lN 99) (And.intro (by decide) ?_)
    obtain ⟨σ7, eσ7⟩ : ∃ s, s = (qx_wl σ6 206 6 (lN 99)) := ⟨_, rfl⟩
    have fσ7 := qn_wl eσ7
    refine Exists.intro (6) (Exists.intro σ7 (And.intro rfl (And.intro ⟨12, rfl, by decide, by decide⟩ (And.intro eσ7.symm ?_))))
    have hS_σ7 : qx_mi σ7 207 = S := (fσ7.row 207 (fun _ => rfl)).trans hS_σ6
    have hf_σ7 : ql [(206, none)] σ σ7 := hf_σ6.tr fσ7
    refine And.intro rfl (Exists.intro 206 (And.intro rfl ?_))
    refine Exists.intro (nI 7) (And.intro rfl ?_)
    refine And.intro (fun h93 => ?_) (fun h93 => ?_)
    · skip
      exact absurd h93 (by decide)
    · skip
      refine Exists.intro (lN 0) (And.intro rfl ?_)
      obtain ⟨σ8, eσ8⟩ : ∃ s, s = (qx_wl σ7 206 7 (lN 0)) := ⟨_, rfl⟩
      have fσ8 := qn_wl eσ8
      refine Exists.intro (7) (Exists.intro σ8 (And.intro rfl (And.intro ⟨12, rfl, by decide, by decide⟩ (And.intro eσ8.symm ?_))))
      have hS_σ8 : qx_mi σ8 207 = S := (fσ8.row 207 (fun _ => rfl)).trans hS_σ7
      have hf_σ8 : ql [(206, none)] σ σ8 := hf_σ7.tr fσ8
      refine And.intro rfl (Exists.intro 206 (And.intro rfl ?_))
      refine Exists.intro (nI 8) (And.intro rfl ?_)
      refine Exists.intro (lN 0) (And.intro (by decide) ?_)
      obtain ⟨σ9, eσ9⟩ : ∃ s, s = (qx_wl σ8 206 8 (lN 0)) := ⟨_, rfl⟩
      have fσ9 := qn_wl eσ9
      refine Exists.intro (8) (Exists.intro σ9 (And.intro rfl (And.intro ⟨12, rfl, by decide, by decide⟩ (And.intro eσ9.symm ?_))))
      have hS_σ9 : qx_mi σ9 207 = S := (fσ9.row 207 (fun _ => rfl)).trans hS_σ8
      have hf_σ9 : ql [(206, none)] σ σ9 := hf_σ8.tr fσ9
      refine And.intro rfl (Exists.intro 206 (And.intro rfl ?_))
      refine Exists.intro (nI 9) (And.intro rfl ?_)
      refine And.intro rfl (Exists.intro _ (And.intro (by decide) (qx_M_mono (m_owesInAll (p := p) hS_σ9 (by omega) (by omega) e1) ?_)))
      rintro _ _ ⟨rfl, rfl⟩
      refine Exists.intro ((q_sum (fun k => S (154 + 10 * p + k)) (s_n S 1)).toInt64) (And.intro rfl ?_)
      obtain ⟨σ10, eσ10⟩ : ∃ s, s = (qx_wl σ9 206 9 ((q_sum (fun k => S (154 + 10 * p + k)) (s_n S 1)).toInt64)) := ⟨_, rfl⟩
      have fσ10 := qn_wl eσ10
      refine Exists.intro (9) (Exists.intro σ10 (And.intro rfl (And.intro ⟨12, rfl, by decide, by decide⟩ (And.intro eσ10.symm ?_))))
      have hS_σ10 : qx_mi σ10 207 = S := (fσ10.row 207 (fun _ => rfl)).trans hS_σ9
      have hf_σ10 : ql [(206, none)] σ σ10 := hf_σ9.tr fσ10
      refine And.intro rfl (Exists.intro 206 (And.intro rfl ?_))
      refine Exists.intro (nI 10) (And.intro rfl ?_)
      refine And.intro rfl (Exists.intro 207 (And.intro rfl ?_))
      refine Exists.intro (nI 3) (And.intro rfl ?_)
      refine Exists.intro (3) (Exists.intro (S 3) (And.intro rfl (And.intro ⟨2788, rfl, by decide, by decide⟩ (And.intro (congrFun hS_σ10 3) ?_))))
      refine Exists.intro ((S 3).toInt64) (And.intro rfl ?_)
      obtain ⟨σ11, eσ11⟩ : ∃ s, s = (qx_wl σ10 206 10 ((S 3).toInt64)) := ⟨_, rfl⟩
      have fσ11 := qn_wl eσ11
      refine Exists.intro (10) (Exists.intro σ11 (And.intro rfl (And.intro ⟨12, rfl, by decide, by decide⟩ (And.intro eσ11.symm ?_))))
      have hS_σ11 : qx_mi σ11 207 = S := (fσ11.row 207 (fun _ => rfl)).trans hS_σ10
      have hf_σ11 : ql [(206, none)] σ σ11 := hf_σ10.tr fσ11
      refine And.intro rfl (Exists.intro 206 (And.intro rfl ?_))
      refine Exists.intro (nI 11) (And.intro rfl ?_)
      refine Exists.intro (nI 4) (And.intro rfl ?_)
      refine And.intro rfl (Exists.intro _ (And.intro (by decide) (qx_M_mono (m_personOf (p := p) (k := 4) (by omega) (by omega) (congrFun hS_σ11 (10 + 5 * p + 4))) ?_)))
      rintro _ _ ⟨rfl, rfl⟩
      refine Exists.intro ((S (10 + 5 * p + 4)).toInt64) (And.intro rfl ?_)
      obtain ⟨σ12, eσ12⟩ : ∃ s, s = (qx_wl σ11 206 11 ((S (10 + 5 * p + 4)).toInt64)) := ⟨_, rfl⟩
      have fσ12 := qn_wl eσ12
      refine Exists.intro (11) (Exists.intro σ12 (And.intro rfl (And.intro ⟨12, rfl, by decide, by decide⟩ (And.intro eσ12.symm ?_))))
      have hS_σ12 : qx_mi σ12 207 = S := (fσ12.row 207 (fun _ => rfl)).trans hS_σ11
      have hf_σ12 : ql [(206, none)] σ σ12 := hf_σ11.tr fσ12
      refine ⟨rfl, hf_σ12, fun v hv => ?_⟩
      match v, hv with
      | 0, _ => exact ((qn_lne eσ12 (Or.inr (by decide))).trans ((qn_lne eσ11 (Or.inr (by decide))).trans ((qn_lne eσ10 (Or.inr (by decide))).trans ((qn_lne eσ9 (Or.inr (by decide))).trans ((qn_lne eσ8 (Or.inr (by decide))).trans ((qn_lne eσ7 (Or.inr (by decide))).trans ((qn_lne eσ6 (Or.inr (by decide))).trans ((qn_lne eσ5 (Or.inr (by decide))).trans ((qn_lne eσ4 (Or.inr (by decide))).trans ((qn_lne eσ3 (Or.inr (by decide))).trans ((qn_lne eσ2 (Or.inr (by decide))).trans (qn_leq eσ1))))))))))))
      | 1, _ => exact ((qn_lne eσ12 (Or.inr (by decide))).trans ((qn_lne eσ11 (Or.inr (by decide))).trans ((qn_lne eσ10 (Or.inr (by decide))).trans ((qn_lne eσ9 (Or.inr (by decide))).trans ((qn_lne eσ8 (Or.inr (by decide))).trans ((qn_lne eσ7 (Or.inr (by decide))).trans ((qn_lne eσ6 (Or.inr (by decide))).trans ((qn_lne eσ5 (Or.inr (by decide))).trans ((qn_lne eσ4 (Or.inr (by decide))).trans ((qn_lne eσ3 (Or.inr (by decide))).trans (qn_leq eσ2)))))))))))
      | 2, _ => exact ((qn_lne eσ12 (Or.inr (by decide))).trans ((qn_lne eσ11 (Or.inr (by decide))).trans ((qn_lne eσ10 (Or.inr (by decide))).trans ((qn_lne eσ9 (Or.inr (by decide))).trans ((qn_lne eσ8 (Or.inr (by decide))).trans ((qn_lne eσ7 (Or.inr (by decide))).trans ((qn_lne eσ6 (Or.inr (by decide))).trans ((qn_lne eσ5 (Or.inr (by decide))).trans ((qn_lne eσ4 (Or.inr (by decide))).trans (qn_leq eσ3))))))))))
      | 3, _ => exact ((qn_lne eσ12 (Or.inr (by decide))).trans ((qn_lne eσ11 (Or.inr (by decide))).trans ((qn_lne eσ10 (Or.inr (by decide))).trans ((qn_lne eσ9 (Or.inr (by decide))).trans ((qn_lne eσ8 (Or.inr (by decide))).trans ((qn_lne eσ7 (Or.inr (by decide))).trans ((qn_lne eσ6 (Or.inr (by decide))).trans ((qn_lne eσ5 (Or.inr (by decide))).trans (qn_leq eσ4)))))))))
      | 4, _ => exact ((qn_lne eσ12 (Or.inr (by decide))).trans ((qn_lne eσ11 (Or.inr (by decide))).trans ((qn_lne eσ10 (Or.inr (by decide))).trans ((qn_lne eσ9 (Or.inr (by decide))).trans ((qn_lne eσ8 (Or.inr (by decide))).trans ((qn_lne eσ7 (Or.inr (by decide))).trans ((qn_lne eσ6 (Or.inr (by decide))).trans (qn_leq eσ5))))))))
      | 5, _ => exact ((qn_lne eσ12 (Or.inr (by decide))).trans ((qn_lne eσ11 (Or.inr (by decide))).trans ((qn_lne eσ10 (Or.inr (by decide))).trans ((qn_lne eσ9 (Or.inr (by decide))).trans ((qn_lne eσ8 (Or.inr (by decide))).trans ((qn_lne eσ7 (Or.inr (by decide))).trans (qn_leq eσ6)))))))
      | 6, _ => exact ((qn_lne eσ12 (Or.inr (by decide))).trans ((qn_lne eσ11 (Or.inr (by decide))).trans ((qn_lne eσ10 (Or.inr (by decide))).trans ((qn_lne eσ9 (Or.inr (by decide))).trans ((qn_lne eσ8 (Or.inr (by decide))).trans (qn_leq eσ7))))))
      | 7, _ => exact ((qn_lne eσ12 (Or.inr (by decide))).trans ((qn_lne eσ11 (Or.inr (by decide))).trans ((qn_lne eσ10 (Or.inr (by decide))).trans ((qn_lne eσ9 (Or.inr (by decide))).trans (qn_leq eσ8)))))
      | 8, _ => exact ((qn_lne eσ12 (Or.inr (by decide))).trans ((qn_lne eσ11 (Or.inr (by decide))).trans ((qn_lne eσ10 (Or.inr (by decide))).trans (qn_leq eσ9))))
      | 9, _ => exact ((qn_lne eσ12 (Or.inr (by decide))).trans ((qn_lne eσ11 (Or.inr (by decide))).trans (qn_leq eσ10)))
      | 10, _ => exact ((qn_lne eσ12 (Or.inr (by decide))).trans (qn_leq eσ11))
      | 11, _ => exact (qn_leq eσ12)

