/-! THE REFERENCE: words, likes, laws -/
theorem m_words0 {G : qx_G} {σ : qx_S} {S : qS} (hS : qx_mi σ 207 = S) (e1 : S 1 = nI (s_n S 1)) (he1 : s_n S 1 ≤ 10) {p a to : Nat} (hp : p < 10) (hto : to < 8) (ha : S (10 + 5 * p) = nI a) : qx_M G qc_T 2 YX12_words [.ref 197, .int (nI p), .int (nI to), .int (-1), .int (nI 0)] σ (fun r s => r = none ∧ ql [(206, none)] σ s ∧ ∀ v, v < 12 → qx_ml s 206 v = q_w S p a to none 0 v) := by
  have hf : ql [(206, none)] σ σ := qf.rf
  refine qx_M_in rfl (Nat.le_of_ble_eq_true rfl) ?_
  refine qy_wp_ok (c := CX12_words) (cuts := []) vX12_words wX12_words 2000 0 _ _ _ ?_
  refine And.intro rfl (Exists.intro 206 (And.intro rfl ?_))
  refine Exists.intro (nI 0) (And.intro rfl ?_)
  refine Exists.intro ((nI p).toInt64) (And.intro rfl ?_)
  obtain ⟨σ1, eσ1⟩ : ∃ zs, zs = (qx_wl σ 206 0 ((nI p).toInt64)) := ⟨_, rfl⟩
  have fσ1 := qn_wl eσ1
  refine Exists.intro (0) (Exists.intro σ1 (And.intro rfl (And.intro ⟨12, rfl, by decide, by decide⟩ (And.intro eσ1.symm ?_))))
  have hS_σ1 : qx_mi σ1 207 = S := (fσ1.row 207 (fun _ => rfl)).trans hS
  have hf_σ1 : ql [(206, none)] σ σ1 := hf.tr fσ1
  refine And.intro rfl (Exists.intro 206 (And.intro rfl ?_))
  refine Exists.intro (nI 1) (And.intro rfl ?_)
  refine Exists.intro (nI 1) (And.intro rfl ?_)
  refine And.intro rfl (Exists.intro _ (And.intro (by decide) (qx_M_mono (m_personOf (p := p) (k := 1) (by omega) (by omega) (congrFun hS_σ1 (10 + 5 * p + 1))) ?_)))
  rintro _ _ ⟨rfl, rfl⟩
  refine Exists.intro ((S (10 + 5 * p + 1)).toInt64) (And.intro rfl ?_)
  obtain ⟨σ2, eσ2⟩ : ∃ zs, zs = (qx_wl σ1 206 1 ((S (10 + 5 * p + 1)).toInt64)) := ⟨_, rfl⟩
  have fσ2 := qn_wl eσ2
  refine Exists.intro (1) (Exists.intro σ2 (And.intro rfl (And.intro ⟨12, rfl, by decide, by decide⟩ (And.intro eσ2.symm ?_))))
  have hS_σ2 : qx_mi σ2 207 = S := (fσ2.row 207 (fun _ => rfl)).trans hS_σ1
  have hf_σ2 : ql [(206, none)] σ σ2 := hf_σ1.tr fσ2
  refine And.intro rfl (Exists.intro 206 (And.intro rfl ?_))
  refine Exists.intro (nI 2) (And.intro rfl ?_)
  refine Exists.intro (nI 2) (And.intro rfl ?_)
  refine And.intro rfl (Exists.intro _ (And.intro (by decide) (qx_M_mono (m_personOf (p := p) (k := 2) (by omega) (by omega) (congrFun hS_σ2 (10 + 5 * p + 2))) ?_)))
  rintro _ _ ⟨rfl, rfl⟩
  refine Exists.intro ((S (10 + 5 * p + 2)).toInt64) (And.intro rfl ?_)
  obtain ⟨σ3, eσ3⟩ : ∃ zs, zs = (qx_wl σ2 206 2 ((S (10 + 5 * p + 2)).toInt64)) := ⟨_, rfl⟩
  have fσ3 := qn_wl eσ3
  refine Exists.intro (2) (Exists.intro σ3 (And.intro rfl (And.intro ⟨12, rfl, by decide, by decide⟩ (And.intro eσ3.symm ?_))))
  have hS_σ3 : qx_mi σ3 207 = S := (fσ3.row 207 (fun _ => rfl)).trans hS_σ2
  have hf_σ3 : ql [(206, none)] σ σ3 := hf_σ2.tr fσ3
  refine And.intro rfl (Exists.intro 206 (And.intro rfl ?_))
  refine Exists.intro (nI 3) (And.intro rfl ?_)
  refine And.intro rfl (Exists.intro _ (And.intro (by decide) (qx_M_mono (m_at (p := p) (by omega) ((congrFun hS_σ3 _).trans ha)) ?_)))
  rintro _ _ ⟨rfl, rfl⟩
  refine Exists.intro ((nI a).toInt64) (And.intro rfl ?_)
  obtain ⟨σ4, eσ4⟩ : ∃ zs, zs = (qx_wl σ3 206 3 ((nI a).toInt64)) := ⟨_, rfl⟩
  have fσ4 := qn_wl eσ4
  refine Exists.intro (3) (Exists.intro σ4 (And.intro rfl (And.intro ⟨12, rfl, by decide, by decide⟩ (And.intro eσ4.symm ?_))))
  have hS_σ4 : qx_mi σ4 207 = S := (fσ4.row 207 (fun _ => rfl)).trans hS_σ3
  have hf_σ4 : ql [(206, none)] σ σ4 := hf_σ3.tr fσ4
  refine And.intro rfl (Exists.intro 206 (And.intro rfl ?_))
  refine Exists.intro (nI 4) (And.intro rfl ?_)
  refine Exists.intro ((nI to).toInt64) (And.intro rfl ?_)
  obtain ⟨σ5, eσ5⟩ : ∃ zs, zs = (qx_wl σ4 206 4 ((nI to).toInt64)) := ⟨_, rfl⟩
  have fσ5 := qn_wl eσ5
  refine Exists.intro (4) (Exists.intro σ5 (And.intro rfl (And.intro ⟨12, rfl, by decide, by decide⟩ (And.intro eσ5.symm ?_))))
  have hS_σ5 : qx_mi σ5 207 = S := (fσ5.row 207 (fun _ => rfl)).trans hS_σ4
  have hf_σ5 : ql [(206, none)] σ σ5 := hf_σ4.tr fσ5
  refine And.intro rfl (Exists.intro 206 (And.intro rfl ?_))
  refine Exists.intro (nI 5) (And.intro rfl ?_)
  refine And.intro rfl (Exists.intro _ (And.intro (by decide) (qx_M_mono (m_wishOf (p := p) (q := to) (by omega) (by omega) (congrFun hS_σ5 (60 + 8 * p + to))) ?_)))
  rintro _ _ ⟨rfl, rfl⟩
  refine Exists.intro ((S (60 + 8 * p + to)).toInt64) (And.intro rfl ?_)
  obtain ⟨σ6, eσ6⟩ : ∃ zs, zs = (qx_wl σ5 206 5 ((S (60 + 8 * p + to)).toInt64)) := ⟨_, rfl⟩
  have fσ6 := qn_wl eσ6
  refine Exists.intro (5) (Exists.intro σ6 (And.intro rfl (And.intro ⟨12, rfl, by decide, by decide⟩ (And.intro eσ6.symm ?_))))
  have hS_σ6 : qx_mi σ6 207 = S := (fσ6.row 207 (fun _ => rfl)).trans hS_σ5
  have hf_σ6 : ql [(206, none)] σ σ6 := hf_σ5.tr fσ6
  refine And.intro rfl (Exists.intro 206 (And.intro rfl ?_))
  refine Exists.intro (nI 6) (And.intro rfl ?_)
  refine And.intro (fun h74 => ?_) (fun h74 => ?_)
  · skip
    exact absurd h74 (by decide)
  · skip
    refine Exists.intro (lN 99) (And.intro (by decide) ?_)
    obtain ⟨σ7, eσ7⟩ : ∃ zs, zs = (qx_wl σ6 206 6 (lN 99)) := ⟨_, rfl⟩
    have fσ7 := qn_wl eσ7
    refine Exists.intro (6) (Exists.intro σ7 (And.intro rfl (And.intro ⟨12, rfl, by decide, by decide⟩ (And.intro eσ7.symm ?_))))
    have hS_σ7 : qx_mi σ7 207 = S := (fσ7.row 207 (fun _ => rfl)).trans hS_σ6
    have hf_σ7 : ql [(206, none)] σ σ7 := hf_σ6.tr fσ7
    refine And.intro rfl (Exists.intro 206 (And.intro rfl ?_))
    refine Exists.intro (nI 7) (And.intro rfl ?_)
    refine And.intro (fun h93 => ?_) (fun h93 => ?_)
    · skip
      exact absurd h93 (by decide)
    · skip
      refine Exists.intro (lN 0) (And.intro rfl ?_)
      obtain ⟨σ8, eσ8⟩ : ∃ zs, zs = (qx_wl σ7 206 7 (lN 0)) := ⟨_, rfl⟩
      have fσ8 := qn_wl eσ8
      refine Exists.intro (7) (Exists.intro σ8 (And.intro rfl (And.intro ⟨12, rfl, by decide, by decide⟩ (And.intro eσ8.symm ?_))))
      have hS_σ8 : qx_mi σ8 207 = S := (fσ8.row 207 (fun _ => rfl)).trans hS_σ7
      have hf_σ8 : ql [(206, none)] σ σ8 := hf_σ7.tr fσ8
      refine And.intro rfl (Exists.intro 206 (And.intro rfl ?_))
      refine Exists.intro (nI 8) (And.intro rfl ?_)
      refine Exists.intro (lN 0) (And.intro (by decide) ?_)
      obtain ⟨σ9, eσ9⟩ : ∃ zs, zs = (qx_wl σ8 206 8 (lN 0)) := ⟨_, rfl⟩
      have fσ9 := qn_wl eσ9
      refine Exists.intro (8) (Exists.intro σ9 (And.intro rfl (And.intro ⟨12, rfl, by decide, by decide⟩ (And.intro eσ9.symm ?_))))
      have hS_σ9 : qx_mi σ9 207 = S := (fσ9.row 207 (fun _ => rfl)).trans hS_σ8
      have hf_σ9 : ql [(206, none)] σ σ9 := hf_σ8.tr fσ9
      refine And.intro rfl (Exists.intro 206 (And.intro rfl ?_))
      refine Exists.intro (nI 9) (And.intro rfl ?_)
      refine And.intro rfl (Exists.intro _ (And.intro (by decide) (qx_M_mono (m_owesInAll (p := p) hS_σ9 (by omega) (by omega) e1) ?_)))
      rintro _ _ ⟨rfl, rfl⟩
      refine Exists.intro ((q_sum (fun k => S (154 + 10 * p + k)) (s_n S 1)).toInt64) (And.intro rfl ?_)
      obtain ⟨σ10, eσ10⟩ : ∃ zs, zs = (qx_wl σ9 206 9 ((q_sum (fun k => S (154 + 10 * p + k)) (s_n S 1)).toInt64)) := ⟨_, rfl⟩
      have fσ10 := qn_wl eσ10
      refine Exists.intro (9) (Exists.intro σ10 (And.intro rfl (And.intro ⟨12, rfl, by decide, by decide⟩ (And.intro eσ10.symm ?_))))
      have hS_σ10 : qx_mi σ10 207 = S := (fσ10.row 207 (fun _ => rfl)).trans hS_σ9
      have hf_σ10 : ql [(206, none)] σ σ10 := hf_σ9.tr fσ10
      refine And.intro rfl (Exists.intro 206 (And.intro rfl ?_))
      refine Exists.intro (nI 10) (And.intro rfl ?_)
      refine And.intro rfl (Exists.intro 207 (And.intro rfl ?_))
      refine Exists.intro (nI 3) (And.intro rfl ?_)
      refine Exists.intro (3) (Exists.intro (S 3) (And.intro rfl (And.intro ⟨2788, rfl, by decide, by decide⟩ (And.intro (congrFun hS_σ10 3) ?_))))
      refine Exists.intro ((S 3).toInt64) (And.intro rfl ?_)
      obtain ⟨σ11, eσ11⟩ : ∃ zs, zs = (qx_wl σ10 206 10 ((S 3).toInt64)) := ⟨_, rfl⟩
      have fσ11 := qn_wl eσ11
      refine Exists.intro (10) (Exists.intro σ11 (And.intro rfl (And.intro ⟨12, rfl, by decide, by decide⟩ (And.intro eσ11.symm ?_))))
      have hS_σ11 : qx_mi σ11 207 = S := (fσ11.row 207 (fun _ => rfl)).trans hS_σ10
      have hf_σ11 : ql [(206, none)] σ σ11 := hf_σ10.tr fσ11
      refine And.intro rfl (Exists.intro 206 (And.intro rfl ?_))
      refine Exists.intro (nI 11) (And.intro rfl ?_)
      refine Exists.intro (nI 4) (And.intro rfl ?_)
      refine And.intro rfl (Exists.intro _ (And.intro (by decide) (qx_M_mono (m_personOf (p := p) (k := 4) (by omega) (by omega) (congrFun hS_σ11 (10 + 5 * p + 4))) ?_)))
      rintro _ _ ⟨rfl, rfl⟩
      refine Exists.intro ((S (10 + 5 * p + 4)).toInt64) (And.intro rfl ?_)
      obtain ⟨σ12, eσ12⟩ : ∃ zs, zs = (qx_wl σ11 206 11 ((S (10 + 5 * p + 4)).toInt64)) := ⟨_, rfl⟩
      have fσ12 := qn_wl eσ12
      refine Exists.intro (11) (Exists.intro σ12 (And.intro rfl (And.intro ⟨12, rfl, by decide, by decide⟩ (And.intro eσ12.symm ?_))))
      have hS_σ12 : qx_mi σ12 207 = S := (fσ12.row 207 (fun _ => rfl)).trans hS_σ11
      have hf_σ12 : ql [(206, none)] σ σ12 := hf_σ11.tr fσ12
      refine ⟨rfl, hf_σ12, fun v hv => ?_⟩
      match v, hv with
      | 0, _ => exact ((qn_lne eσ12 (Or.inr (by decide))).trans ((qn_lne eσ11 (Or.inr (by decide))).trans ((qn_lne eσ10 (Or.inr (by decide))).trans ((qn_lne eσ9 (Or.inr (by decide))).trans ((qn_lne eσ8 (Or.inr (by decide))).trans ((qn_lne eσ7 (Or.inr (by decide))).trans ((qn_lne eσ6 (Or.inr (by decide))).trans ((qn_lne eσ5 (Or.inr (by decide))).trans ((qn_lne eσ4 (Or.inr (by decide))).trans ((qn_lne eσ3 (Or.inr (by decide))).trans ((qn_lne eσ2 (Or.inr (by decide))).trans (qn_leq eσ1))))))))))))
      | 1, _ => exact ((qn_lne eσ12 (Or.inr (by decide))).trans ((qn_lne eσ11 (Or.inr (by decide))).trans ((qn_lne eσ10 (Or.inr (by decide))).trans ((qn_lne eσ9 (Or.inr (by decide))).trans ((qn_lne eσ8 (Or.inr (by decide))).trans ((qn_lne eσ7 (Or.inr (by decide))).trans ((qn_lne eσ6 (Or.inr (by decide))).trans ((qn_lne eσ5 (Or.inr (by decide))).trans ((qn_lne eσ4 (Or.inr (by decide))).trans ((qn_lne eσ3 (Or.inr (by decide))).trans (qn_leq eσ2)))))))))))
      | 2, _ => exact ((qn_lne eσ12 (Or.inr (by decide))).trans ((qn_lne eσ11 (Or.inr (by decide))).trans ((qn_lne eσ10 (Or.inr (by decide))).trans ((qn_lne eσ9 (Or.inr (by decide))).trans ((qn_lne eσ8 (Or.inr (by decide))).trans ((qn_lne eσ7 (Or.inr (by decide))).trans ((qn_lne eσ6 (Or.inr (by decide))).trans ((qn_lne eσ5 (Or.inr (by decide))).trans ((qn_lne eσ4 (Or.inr (by decide))).trans (qn_leq eσ3))))))))))
      | 3, _ => exact ((qn_lne eσ12 (Or.inr (by decide))).trans ((qn_lne eσ11 (Or.inr (by decide))).trans ((qn_lne eσ10 (Or.inr (by decide))).trans ((qn_lne eσ9 (Or.inr (by decide))).trans ((qn_lne eσ8 (Or.inr (by decide))).trans ((qn_lne eσ7 (Or.inr (by decide))).trans ((qn_lne eσ6 (Or.inr (by decide))).trans ((qn_lne eσ5 (Or.inr (by decide))).trans (qn_leq eσ4)))))))))
      | 4, _ => exact ((qn_lne eσ12 (Or.inr (by decide))).trans ((qn_lne eσ11 (Or.inr (by decide))).trans ((qn_lne eσ10 (Or.inr (by decide))).trans ((qn_lne eσ9 (Or.inr (by decide))).trans ((qn_lne eσ8 (Or.inr (by decide))).trans ((qn_lne eσ7 (Or.inr (by decide))).trans ((qn_lne eσ6 (Or.inr (by decide))).trans (qn_leq eσ5))))))))
      | 5, _ => exact ((qn_lne eσ12 (Or.inr (by decide))).trans ((qn_lne eσ11 (Or.inr (by decide))).trans ((qn_lne eσ10 (Or.inr (by decide))).trans ((qn_lne eσ9 (Or.inr (by decide))).trans ((qn_lne eσ8 (Or.inr (by decide))).trans ((qn_lne eσ7 (Or.inr (by decide))).trans (qn_leq eσ6)))))))
      | 6, _ => exact ((qn_lne eσ12 (Or.inr (by decide))).trans ((qn_lne eσ11 (Or.inr (by decide))).trans ((qn_lne eσ10 (Or.inr (by decide))).trans ((qn_lne eσ9 (Or.inr (by decide))).trans ((qn_lne eσ8 (Or.inr (by decide))).trans (qn_leq eσ7))))))
      | 7, _ => exact ((qn_lne eσ12 (Or.inr (by decide))).trans ((qn_lne eσ11 (Or.inr (by decide))).trans ((qn_lne eσ10 (Or.inr (by decide))).trans ((qn_lne eσ9 (Or.inr (by decide))).trans (qn_leq eσ8)))))
      | 8, _ => exact ((qn_lne eσ12 (Or.inr (by decide))).trans ((qn_lne eσ11 (Or.inr (by decide))).trans ((qn_lne eσ10 (Or.inr (by decide))).trans (qn_leq eσ9))))
      | 9, _ => exact ((qn_lne eσ12 (Or.inr (by decide))).trans ((qn_lne eσ11 (Or.inr (by decide))).trans (qn_leq eσ10)))
      | 10, _ => exact ((qn_lne eσ12 (Or.inr (by decide))).trans (qn_leq eσ11))
      | 11, _ => exact (qn_leq eσ12)
theorem m_words1 {G : qx_G} {σ : qx_S} {S : qS} (hS : qx_mi σ 207 = S) (e1 : S 1 = nI (s_n S 1)) (he1 : s_n S 1 ≤ 10) {p a to o ring : Nat} (hp : p < 10) (ho : o < 10) (hto : to < 8) (ha : S (10 + 5 * p) = nI a) : qx_M G qc_T 2 YX12_words [.ref 197, .int (nI p), .int (nI to), .int (nI o), .int (nI ring)] σ (fun r s => r = none ∧ ql [(206, none)] σ s ∧ ∀ v, v < 12 → qx_ml s 206 v = q_w S p a to (some o) ring v) := by
  have hf : ql [(206, none)] σ σ := qf.rf
  refine qx_M_in rfl (Nat.le_of_ble_eq_true rfl) ?_
  refine qy_wp_ok (c := CX12_words) (cuts := []) vX12_words wX12_words 2000 0 _ _ _ ?_
  refine And.intro rfl (Exists.intro 206 (And.intro rfl ?_))
  refine Exists.intro (nI 0) (And.intro rfl ?_)
  refine Exists.intro ((nI p).toInt64) (And.intro rfl ?_)
  obtain ⟨σ1, eσ1⟩ : ∃ zs, zs = (qx_wl σ 206 0 ((nI p).toInt64)) := ⟨_, rfl⟩
  have fσ1 := qn_wl eσ1
  refine Exists.intro (0) (Exists.intro σ1 (And.intro rfl (And.intro ⟨12, rfl, by decide, by decide⟩ (And.intro eσ1.symm ?_))))
  have hS_σ1 : qx_mi σ1 207 = S := (fσ1.row 207 (fun _ => rfl)).trans hS
  have hf_σ1 : ql [(206, none)] σ σ1 := hf.tr fσ1
  refine And.intro rfl (Exists.intro 206 (And.intro rfl ?_))
  refine Exists.intro (nI 1) (And.intro rfl ?_)
  refine Exists.intro (nI 1) (And.intro rfl ?_)
  refine And.intro rfl (Exists.intro _ (And.intro (by decide) (qx_M_mono (m_personOf (p := p) (k := 1) (by omega) (by omega) (congrFun hS_σ1 (10 + 5 * p + 1))) ?_)))
  rintro _ _ ⟨rfl, rfl⟩
  refine Exists.intro ((S (10 + 5 * p + 1)).toInt64) (And.intro rfl ?_)
  obtain ⟨σ2, eσ2⟩ : ∃ zs, zs = (qx_wl σ1 206 1 ((S (10 + 5 * p + 1)).toInt64)) := ⟨_, rfl⟩
  have fσ2 := qn_wl eσ2
  refine Exists.intro (1) (Exists.intro σ2 (And.intro rfl (And.intro ⟨12, rfl, by decide, by decide⟩ (And.intro eσ2.symm ?_))))
  have hS_σ2 : qx_mi σ2 207 = S := (fσ2.row 207 (fun _ => rfl)).trans hS_σ1
  have hf_σ2 : ql [(206, none)] σ σ2 := hf_σ1.tr fσ2
  refine And.intro rfl (Exists.intro 206 (And.intro rfl ?_))
  refine Exists.intro (nI 2) (And.intro rfl ?_)
  refine Exists.intro (nI 2) (And.intro rfl ?_)
  refine And.intro rfl (Exists.intro _ (And.intro (by decide) (qx_M_mono (m_personOf (p := p) (k := 2) (by omega) (by omega) (congrFun hS_σ2 (10 + 5 * p + 2))) ?_)))
  rintro _ _ ⟨rfl, rfl⟩
  refine Exists.intro ((S (10 + 5 * p + 2)).toInt64) (And.intro rfl ?_)
  obtain ⟨σ3, eσ3⟩ : ∃ zs, zs = (qx_wl σ2 206 2 ((S (10 + 5 * p + 2)).toInt64)) := ⟨_, rfl⟩
  have fσ3 := qn_wl eσ3
  refine Exists.intro (2) (Exists.intro σ3 (And.intro rfl (And.intro ⟨12, rfl, by decide, by decide⟩ (And.intro eσ3.symm ?_))))
  have hS_σ3 : qx_mi σ3 207 = S := (fσ3.row 207 (fun _ => rfl)).trans hS_σ2
  have hf_σ3 : ql [(206, none)] σ σ3 := hf_σ2.tr fσ3
  refine And.intro rfl (Exists.intro 206 (And.intro rfl ?_))
  refine Exists.intro (nI 3) (And.intro rfl ?_)
  refine And.intro rfl (Exists.intro _ (And.intro (by decide) (qx_M_mono (m_at (p := p) (by omega) ((congrFun hS_σ3 _).trans ha)) ?_)))
  rintro _ _ ⟨rfl, rfl⟩
  refine Exists.intro ((nI a).toInt64) (And.intro rfl ?_)
  obtain ⟨σ4, eσ4⟩ : ∃ zs, zs = (qx_wl σ3 206 3 ((nI a).toInt64)) := ⟨_, rfl⟩
  have fσ4 := qn_wl eσ4
  refine Exists.intro (3) (Exists.intro σ4 (And.intro rfl (And.intro ⟨12, rfl, by decide, by decide⟩ (And.intro eσ4.symm ?_))))
  have hS_σ4 : qx_mi σ4 207 = S := (fσ4.row 207 (fun _ => rfl)).trans hS_σ3
  have hf_σ4 : ql [(206, none)] σ σ4 := hf_σ3.tr fσ4
  refine And.intro rfl (Exists.intro 206 (And.intro rfl ?_))
  refine Exists.intro (nI 4) (And.intro rfl ?_)
  refine Exists.intro ((nI to).toInt64) (And.intro rfl ?_)
  obtain ⟨σ5, eσ5⟩ : ∃ zs, zs = (qx_wl σ4 206 4 ((nI to).toInt64)) := ⟨_, rfl⟩
  have fσ5 := qn_wl eσ5
  refine Exists.intro (4) (Exists.intro σ5 (And.intro rfl (And.intro ⟨12, rfl, by decide, by decide⟩ (And.intro eσ5.symm ?_))))
  have hS_σ5 : qx_mi σ5 207 = S := (fσ5.row 207 (fun _ => rfl)).trans hS_σ4
  have hf_σ5 : ql [(206, none)] σ σ5 := hf_σ4.tr fσ5
  refine And.intro rfl (Exists.intro 206 (And.intro rfl ?_))
  refine Exists.intro (nI 5) (And.intro rfl ?_)
  refine And.intro rfl (Exists.intro _ (And.intro (by decide) (qx_M_mono (m_wishOf (p := p) (q := to) (by omega) (by omega) (congrFun hS_σ5 (60 + 8 * p + to))) ?_)))
  rintro _ _ ⟨rfl, rfl⟩
  refine Exists.intro ((S (60 + 8 * p + to)).toInt64) (And.intro rfl ?_)
  obtain ⟨σ6, eσ6⟩ : ∃ zs, zs = (qx_wl σ5 206 5 ((S (60 + 8 * p + to)).toInt64)) := ⟨_, rfl⟩
  have fσ6 := qn_wl eσ6
  refine Exists.intro (5) (Exists.intro σ6 (And.intro rfl (And.intro ⟨12, rfl, by decide, by decide⟩ (And.intro eσ6.symm ?_))))
  have hS_σ6 : qx_mi σ6 207 = S := (fσ6.row 207 (fun _ => rfl)).trans hS_σ5
  have hf_σ6 : ql [(206, none)] σ σ6 := hf_σ5.tr fσ6
  refine And.intro rfl (Exists.intro 206 (And.intro rfl ?_))
  refine Exists.intro (nI 6) (And.intro rfl ?_)
  refine And.intro (fun h74 => ?_) (fun h74 => ?_)
  · skip
    have h74 := nI_leT (a := 0) (b := o) (by decide) (by omega) h74
    refine Exists.intro ((nI o).toInt64) (And.intro rfl ?_)
    obtain ⟨σ7, eσ7⟩ : ∃ zs, zs = (qx_wl σ6 206 6 ((nI o).toInt64)) := ⟨_, rfl⟩
    have fσ7 := qn_wl eσ7
    refine Exists.intro (6) (Exists.intro σ7 (And.intro rfl (And.intro ⟨12, rfl, by decide, by decide⟩ (And.intro eσ7.symm ?_))))
    have hS_σ7 : qx_mi σ7 207 = S := (fσ7.row 207 (fun _ => rfl)).trans hS_σ6
    have hf_σ7 : ql [(206, none)] σ σ7 := hf_σ6.tr fσ7
    refine And.intro rfl (Exists.intro 206 (And.intro rfl ?_))
    refine Exists.intro (nI 7) (And.intro rfl ?_)
    refine And.intro (fun h93 => ?_) (fun h93 => ?_)
    · skip
      have h93 := nI_leT (a := 0) (b := o) (by decide) (by omega) h93
      refine Exists.intro (nI 1) (And.intro rfl ?_)
      refine And.intro rfl (Exists.intro _ (And.intro (by decide) (qx_M_mono (m_personOf (p := o) (k := 1) (by omega) (by omega) (congrFun hS_σ7 (10 + 5 * o + 1))) ?_)))
      rintro _ _ ⟨rfl, rfl⟩
      refine Exists.intro ((S (10 + 5 * o + 1)).toInt64) (And.intro rfl ?_)
      obtain ⟨σ8, eσ8⟩ : ∃ zs, zs = (qx_wl σ7 206 7 ((S (10 + 5 * o + 1)).toInt64)) := ⟨_, rfl⟩
      have fσ8 := qn_wl eσ8
      refine Exists.intro (7) (Exists.intro σ8 (And.intro rfl (And.intro ⟨12, rfl, by decide, by decide⟩ (And.intro eσ8.symm ?_))))
      have hS_σ8 : qx_mi σ8 207 = S := (fσ8.row 207 (fun _ => rfl)).trans hS_σ7
      have hf_σ8 : ql [(206, none)] σ σ8 := hf_σ7.tr fσ8
      refine And.intro rfl (Exists.intro 206 (And.intro rfl ?_))
      refine Exists.intro (nI 8) (And.intro rfl ?_)
      refine Exists.intro ((nI ring).toInt64) (And.intro rfl ?_)
      obtain ⟨σ9, eσ9⟩ : ∃ zs, zs = (qx_wl σ8 206 8 ((nI ring).toInt64)) := ⟨_, rfl⟩
      have fσ9 := qn_wl eσ9
      refine Exists.intro (8) (Exists.intro σ9 (And.intro rfl (And.intro ⟨12, rfl, by decide, by decide⟩ (And.intro eσ9.symm ?_))))
      have hS_σ9 : qx_mi σ9 207 = S := (fσ9.row 207 (fun _ => rfl)).trans hS_σ8
      have hf_σ9 : ql [(206, none)] σ σ9 := hf_σ8.tr fσ9
      refine And.intro rfl (Exists.intro 206 (And.intro rfl ?_))
      refine Exists.intro (nI 9) (And.intro rfl ?_)
      refine And.intro rfl (Exists.intro _ (And.intro (by decide) (qx_M_mono (m_owesInAll (p := p) hS_σ9 (by omega) (by omega) e1) ?_)))
      rintro _ _ ⟨rfl, rfl⟩
      refine Exists.intro ((q_sum (fun k => S (154 + 10 * p + k)) (s_n S 1)).toInt64) (And.intro rfl ?_)
      obtain ⟨σ10, eσ10⟩ : ∃ zs, zs = (qx_wl σ9 206 9 ((q_sum (fun k => S (154 + 10 * p + k)) (s_n S 1)).toInt64)) := ⟨_, rfl⟩
      have fσ10 := qn_wl eσ10
      refine Exists.intro (9) (Exists.intro σ10 (And.intro rfl (And.intro ⟨12, rfl, by decide, by decide⟩ (And.intro eσ10.symm ?_))))
      have hS_σ10 : qx_mi σ10 207 = S := (fσ10.row 207 (fun _ => rfl)).trans hS_σ9
      have hf_σ10 : ql [(206, none)] σ σ10 := hf_σ9.tr fσ10
      refine And.intro rfl (Exists.intro 206 (And.intro rfl ?_))
      refine Exists.intro (nI 10) (And.intro rfl ?_)
      refine And.intro rfl (Exists.intro 207 (And.intro rfl ?_))
      refine Exists.intro (nI 3) (And.intro rfl ?_)
      refine Exists.intro (3) (Exists.intro (S 3) (And.intro rfl (And.intro ⟨2788, rfl, by decide, by decide⟩ (And.intro (congrFun hS_σ10 3) ?_))))
      refine Exists.intro ((S 3).toInt64) (And.intro rfl ?_)
      obtain ⟨σ11, eσ11⟩ : ∃ zs, zs = (qx_wl σ10 206 10 ((S 3).toInt64)) := ⟨_, rfl⟩
      have fσ11 := qn_wl eσ11
      refine Exists.intro (10) (Exists.intro σ11 (And.intro rfl (And.intro ⟨12, rfl, by decide, by decide⟩ (And.intro eσ11.symm ?_))))
      have hS_σ11 : qx_mi σ11 207 = S := (fσ11.row 207 (fun _ => rfl)).trans hS_σ10
      have hf_σ11 : ql [(206, none)] σ σ11 := hf_σ10.tr fσ11
      refine And.intro rfl (Exists.intro 206 (And.intro rfl ?_))
      refine Exists.intro (nI 11) (And.intro rfl ?_)
      refine Exists.intro (nI 4) (And.intro rfl ?_)
      refine And.intro rfl (Exists.intro _ (And.intro (by decide) (qx_M_mono (m_personOf (p := p) (k := 4) (by omega) (by omega) (congrFun hS_σ11 (10 + 5 * p + 4))) ?_)))
      rintro _ _ ⟨rfl, rfl⟩
      refine Exists.intro ((S (10 + 5 * p + 4)).toInt64) (And.intro rfl ?_)
      obtain ⟨σ12, eσ12⟩ : ∃ zs, zs = (qx_wl σ11 206 11 ((S (10 + 5 * p + 4)).toInt64)) := ⟨_, rfl⟩
      have fσ12 := qn_wl eσ12
      refine Exists.intro (11) (Exists.intro σ12 (And.intro rfl (And.intro ⟨12, rfl, by decide, by decide⟩ (And.intro eσ12.symm ?_))))
      have hS_σ12 : qx_mi σ12 207 = S := (fσ12.row 207 (fun _ => rfl)).trans hS_σ11
      have hf_σ12 : ql [(206, none)] σ σ12 := hf_σ11.tr fσ12
      refine ⟨rfl, hf_σ12, fun v hv => ?_⟩
      match v, hv with
      | 0, _ => exact ((qn_lne eσ12 (Or.inr (by decide))).trans ((qn_lne eσ11 (Or.inr (by decide))).trans ((qn_lne eσ10 (Or.inr (by decide))).trans ((qn_lne eσ9 (Or.inr (by decide))).trans ((qn_lne eσ8 (Or.inr (by decide))).trans ((qn_lne eσ7 (Or.inr (by decide))).trans ((qn_lne eσ6 (Or.inr (by decide))).trans ((qn_lne eσ5 (Or.inr (by decide))).trans ((qn_lne eσ4 (Or.inr (by decide))).trans ((qn_lne eσ3 (Or.inr (by decide))).trans ((qn_lne eσ2 (Or.inr (by decide))).trans (qn_leq eσ1))))))))))))
      | 1, _ => exact ((qn_lne eσ12 (Or.inr (by decide))).trans ((qn_lne eσ11 (Or.inr (by decide))).trans ((qn_lne eσ10 (Or.inr (by decide))).trans ((qn_lne eσ9 (Or.inr (by decide))).trans ((qn_lne eσ8 (Or.inr (by decide))).trans ((qn_lne eσ7 (Or.inr (by decide))).trans ((qn_lne eσ6 (Or.inr (by decide))).trans ((qn_lne eσ5 (Or.inr (by decide))).trans ((qn_lne eσ4 (Or.inr (by decide))).trans ((qn_lne eσ3 (Or.inr (by decide))).trans (qn_leq eσ2)))))))))))
      | 2, _ => exact ((qn_lne eσ12 (Or.inr (by decide))).trans ((qn_lne eσ11 (Or.inr (by decide))).trans ((qn_lne eσ10 (Or.inr (by decide))).trans ((qn_lne eσ9 (Or.inr (by decide))).trans ((qn_lne eσ8 (Or.inr (by decide))).trans ((qn_lne eσ7 (Or.inr (by decide))).trans ((qn_lne eσ6 (Or.inr (by decide))).trans ((qn_lne eσ5 (Or.inr (by decide))).trans ((qn_lne eσ4 (Or.inr (by decide))).trans (qn_leq eσ3))))))))))
      | 3, _ => exact ((qn_lne eσ12 (Or.inr (by decide))).trans ((qn_lne eσ11 (Or.inr (by decide))).trans ((qn_lne eσ10 (Or.inr (by decide))).trans ((qn_lne eσ9 (Or.inr (by decide))).trans ((qn_lne eσ8 (Or.inr (by decide))).trans ((qn_lne eσ7 (Or.inr (by decide))).trans ((qn_lne eσ6 (Or.inr (by decide))).trans ((qn_lne eσ5 (Or.inr (by decide))).trans (qn_leq eσ4)))))))))
      | 4, _ => exact ((qn_lne eσ12 (Or.inr (by decide))).trans ((qn_lne eσ11 (Or.inr (by decide))).trans ((qn_lne eσ10 (Or.inr (by decide))).trans ((qn_lne eσ9 (Or.inr (by decide))).trans ((qn_lne eσ8 (Or.inr (by decide))).trans ((qn_lne eσ7 (Or.inr (by decide))).trans ((qn_lne eσ6 (Or.inr (by decide))).trans (qn_leq eσ5))))))))
      | 5, _ => exact ((qn_lne eσ12 (Or.inr (by decide))).trans ((qn_lne eσ11 (Or.inr (by decide))).trans ((qn_lne eσ10 (Or.inr (by decide))).trans ((qn_lne eσ9 (Or.inr (by decide))).trans ((qn_lne eσ8 (Or.inr (by decide))).trans ((qn_lne eσ7 (Or.inr (by decide))).trans (qn_leq eσ6)))))))
      | 6, _ => exact ((qn_lne eσ12 (Or.inr (by decide))).trans ((qn_lne eσ11 (Or.inr (by decide))).trans ((qn_lne eσ10 (Or.inr (by decide))).trans ((qn_lne eσ9 (Or.inr (by decide))).trans ((qn_lne eσ8 (Or.inr (by decide))).trans (qn_leq eσ7))))))
      | 7, _ => exact ((qn_lne eσ12 (Or.inr (by decide))).trans ((qn_lne eσ11 (Or.inr (by decide))).trans ((qn_lne eσ10 (Or.inr (by decide))).trans ((qn_lne eσ9 (Or.inr (by decide))).trans (qn_leq eσ8)))))
      | 8, _ => exact ((qn_lne eσ12 (Or.inr (by decide))).trans ((qn_lne eσ11 (Or.inr (by decide))).trans ((qn_lne eσ10 (Or.inr (by decide))).trans (qn_leq eσ9))))
      | 9, _ => exact ((qn_lne eσ12 (Or.inr (by decide))).trans ((qn_lne eσ11 (Or.inr (by decide))).trans (qn_leq eσ10)))
      | 10, _ => exact ((qn_lne eσ12 (Or.inr (by decide))).trans (qn_leq eσ11))
      | 11, _ => exact (qn_leq eσ12)
    · skip
      have h93 := nI_leF (a := 0) (b := o) (by decide) (by omega) h93
      exact absurd h93 (by omega)
  · skip
    have h74 := nI_leF (a := 0) (b := o) (by decide) (by omega) h74
    exact absurd h74 (by omega)
/-- what the reference's likes rest on -/
def mX (σ : qx_S) (S : qS) (rf : Option qR) (ly : Option (Nat × Nat)) : Prop := qx_mi σ 207 = S ∧ S 1 = nI (s_n S 1) ∧ s_n S 1 ≤ 10 ∧ (match rf with
  | none => S 7 = -1
  | some R => ∃ t, t < 6 ∧ S 7 = nI t ∧ mR1 σ t R) ∧ (match ly with
  | none => qx_mi σ 197 21 = -1
  | some q => qx_mi σ 197 21 = nI q.1 ∧ qx_mi σ 197 22 = nI q.2 ∧ q.1 < 10 ∧ q.2 < 8)
def mxk (l : List (Nat × Option Nat)) : Bool := l.all (fun q => !(Nat.beq q.1 207) && !(Nat.beq q.1 199) && !(Nat.beq q.1 201) && !(Nat.beq q.1 202) && (!(Nat.beq q.1 197) || (match q.2 with
  | none => false
  | some k => !(Nat.beq k 21) && !(Nat.beq k 22) && !(Nat.beq k 2))))
theorem mxk_row {l : List (Nat × Option Nat)} (h : mxk l = true) {a : Nat} (ha : a = 207 ∨ a = 199 ∨ a = 201 ∨ a = 202) (j : Nat) : pL l a j = false := by
  cases hl : pL l a j with
  | false => rfl
  | true =>
    exfalso
    obtain ⟨q, hq, h1⟩ := List.any_eq_true.mp hl
    have h2 := List.all_eq_true.mp h q hq
    simp only [Bool.and_eq_true] at h1 h2
    have e1 := Nat.eq_of_beq_eq_true h1.1
    rw [e1] at h2
    rcases ha with rfl | rfl | rfl | rfl
    · exact absurd h2.1.1.1.1 (by decide)
    · exact absurd h2.1.1.1.2 (by decide)
    · exact absurd h2.1.1.2 (by decide)
    · exact absurd h2.1.2 (by decide)
theorem mxk_f {l : List (Nat × Option Nat)} (h : mxk l = true) {k : Nat} (hk : k = 21 ∨ k = 22 ∨ k = 2) : pL l 197 k = false := by
  cases hl : pL l 197 k with
  | false => rfl
  | true =>
    exfalso
    obtain ⟨⟨q1, q2⟩, hq, h1⟩ := List.any_eq_true.mp hl
    have h2 := List.all_eq_true.mp h _ hq
    simp only [Bool.and_eq_true] at h1 h2
    have e1 := Nat.eq_of_beq_eq_true h1.1
    subst e1
    cases q2 with
    | none => exact absurd h2.2 (by decide)
    | some z =>
      have e2 := Nat.eq_of_beq_eq_true h1.2
      subst e2
      rcases hk with rfl | rfl | rfl <;> exact absurd h2.2 (by decide)
theorem mX.fr {σ σ' : qx_S} {S : qS} {rf : Option qR} {ly : Option (Nat × Nat)} {l : List (Nat × Option Nat)} (h : mX σ S rf ly) (hf : ql l σ σ') (hk : mxk l = true) : mX σ' S rf ly := by
  obtain ⟨h1, h2, h3, h4, h5⟩ := h
  refine ⟨(hf.row 207 (mxk_row hk (Or.inl rfl))).trans h1, h2, h3, ?_, ?_⟩
  · cases rf with
    | none => exact h4
    | some R =>
      obtain ⟨t, k1, k2, k3⟩ := h4
      exact ⟨t, k1, k2, k3.fr hf (mxk_row hk (Or.inr (Or.inl rfl))) (mxk_row hk (Or.inr (Or.inr (Or.inl rfl)))) (mxk_row hk (Or.inr (Or.inr (Or.inr rfl))))⟩
  · cases ly with
    | none => exact (hf.i 197 21 (mxk_f hk (Or.inl rfl))).trans h5
    | some q => exact ⟨(hf.i 197 21 (mxk_f hk (Or.inl rfl))).trans h5.1, (hf.i 197 22 (mxk_f hk (Or.inr (Or.inl rfl)))).trans h5.2.1, h5.2.2⟩
theorem m_holds {G : qx_G} {σ : qx_S} {t : Nat} {R : qR} (ht : t < 6) (hR : mR1 σ t R) {w : Nat → Int64} (hw : ∀ v, v < 12 → qx_ml σ 206 v = w v) {c : Nat} (hc : c < q_nc R) : qx_M G qc_T 2 YX12_holds [.ref 197, .int (nI t), .int (nI (60 * t + 5 * c))] σ (fun r s => r = some (.int (bI (q_tst R w c))) ∧ ql lK σ s) := by
  obtain ⟨k1, k2, k3, k4, k5⟩ := hR.2.2.2 c hc
  obtain ⟨g1, g2, g3, g4, g5, g6⟩ := hR.1.2.2.2 c hc
  have g0 := hR.1.1
  have gl := hR.1.2.1
  by_cases hz : q_tf R c = q_to R c
  · rw [if_pos hz] at k4
    refine qx_M_in rfl (Nat.le_of_ble_eq_true rfl) ?_
    refine qy_wp_ok (c := CX12_holds) (cuts := []) vX12_holds wX12_holds 2000 0 _ _ _ ?_
    refine And.intro rfl (Exists.intro 201 (And.intro rfl ?_))
    refine Exists.intro (nI 3) (And.intro rfl ?_)
    refine Exists.intro (nI (60 * t + 5 * c + 3)) (And.intro (nI_add _ _) ?_)
    refine Exists.intro (60 * t + 5 * c + 3) (Exists.intro (-1) (And.intro rfl (And.intro ⟨360, rfl, by omega, by decide⟩ (And.intro k4 ?_))))
    refine And.intro (fun h8 => ?_) (fun h8 => ?_)
    · skip
      refine Exists.intro (nI 1) (And.intro rfl ?_)
      refine And.intro (Or.inr rfl) ?_
      exact ⟨congrArg (fun z => some (Value.int z)) (bI_true (by unfold q_tst; rw [decide_eq_true hz]; rfl)).symm, qf.rf⟩
    · skip
      exact absurd (by decide) h8
  · rw [if_neg hz] at k4
    have hw2 : q_tst R w c = decide (ev (q_cd R) w (q_tf R c) (q_to R c) = lN 1) := by unfold q_tst; rw [decide_eq_false hz]; rfl
    refine qx_M_in rfl (Nat.le_of_ble_eq_true rfl) ?_
    refine qy_wp_ok (c := CX12_holds) (cuts := []) vX12_holds wX12_holds 2000 0 _ _ _ ?_
    refine And.intro rfl (Exists.intro 201 (And.intro rfl ?_))
    refine Exists.intro (nI 3) (And.intro rfl ?_)
    refine Exists.intro (nI (60 * t + 5 * c + 3)) (And.intro (nI_add _ _) ?_)
    refine Exists.intro (60 * t + 5 * c + 3) (Exists.intro (nI (q_tf R c)) (And.intro rfl (And.intro ⟨360, rfl, by omega, by decide⟩ (And.intro k4 ?_))))
    refine And.intro (fun h8 => ?_) (fun h8 => ?_)
    · skip
      have h8 := nI_ltT (a := q_tf R c) (b := 0) (by omega) (by decide) h8
      exact absurd h8 (by omega)
    · skip
      have h8 := nI_ltF (a := q_tf R c) (b := 0) (by omega) (by decide) h8
      refine And.intro rfl (Exists.intro 201 (And.intro rfl ?_))
      refine Exists.intro (nI 3) (And.intro rfl ?_)
      refine Exists.intro (nI (60 * t + 5 * c + 3)) (And.intro (nI_add _ _) ?_)
      refine Exists.intro (60 * t + 5 * c + 3) (Exists.intro (nI (q_tf R c)) (And.intro rfl (And.intro ⟨360, rfl, by omega, by decide⟩ (And.intro k4 ?_))))
      refine And.intro rfl (Exists.intro 201 (And.intro rfl ?_))
      refine Exists.intro (nI 4) (And.intro rfl ?_)
      refine Exists.intro (nI (60 * t + 5 * c + 4)) (And.intro (nI_add _ _) ?_)
      refine Exists.intro (60 * t + 5 * c + 4) (Exists.intro (nI (q_to R c)) (And.intro rfl (And.intro ⟨360, rfl, by omega, by decide⟩ (And.intro k5 ?_))))
      refine And.intro rfl (Exists.intro _ (And.intro (by decide) (qx_M_mono (m_reckons ht hR hw (g6 (by omega)) g3) ?_)))
      rintro _ σ1 ⟨rfl, fσ1⟩
      refine Exists.intro (lN 1) (And.intro rfl ?_)
      refine Exists.intro (lg_cmp (ev (q_cd R) w (q_tf R c) (q_to R c)) (lN 1)) (And.intro rfl ?_)
      refine And.intro (fun h34 => ?_) (fun h34 => ?_)
      · skip
        have h34 := fun z => h34 ((lg_cmp_eq _ _).mpr z)
        refine Exists.intro (nI 0) (And.intro rfl ?_)
        refine And.intro (Or.inl rfl) ?_
        first | exact ⟨congrArg (fun z => some (Value.int z)) (bI_true (by rw [hw2]; exact decide_eq_true h34)).symm, fσ1⟩ | exact ⟨congrArg (fun z => some (Value.int z)) (bI_false (by rw [hw2]; exact decide_eq_false h34)).symm, fσ1⟩
      · skip
        have h34 := (lg_cmp_eq _ _).mp h34
        refine Exists.intro (nI 1) (And.intro rfl ?_)
        refine And.intro (Or.inr rfl) ?_
        first | exact ⟨congrArg (fun z => some (Value.int z)) (bI_true (by rw [hw2]; exact decide_eq_true h34)).symm, fσ1⟩ | exact ⟨congrArg (fun z => some (Value.int z)) (bI_false (by rw [hw2]; exact decide_eq_false h34)).symm, fσ1⟩
theorem l_likes {G : qx_G} {σ0 : qx_S} {t : Nat} {R : qR} (ht : t < 6) {w : Nat → Int64} {p q : Nat} (hp : p < 10) (hq : q < 8) {z : Int32} (hz : qx_mi σ0 207 (60 + 8 * p + q) = z) : ∀ (m c : Nat) (σ : qx_S), m = q_nc R - c → c ≤ q_nc R → ql lE σ0 σ → mR1 σ t R → (∀ v, v < 12 → qx_ml σ 206 v = w v) →
    qx_K G qc_T 3 RX12 YX12_likes 54 [.ref 197, .int (nI p), .int (nI q), .int (nI t), .int (nI c), .retAddr 0, .retAddr 0, .retAddr 0] [] σ (fun r s => r = some (.int (q_lkc R w z (q_nc R - c) c)) ∧ ql lE σ0 s) := by
  intro m
  induction m using Nat.strongRecOn with
  | _ m ih =>
    intro c σ hm hc hf hR hw
    have g0 := hR.1.1
    have gl := hR.1.2.1
    rcases Nat.lt_or_ge c (q_nc R) with hlt | hge
    · obtain ⟨k1, k2, k3, k4, k5⟩ := hR.2.2.2 c hlt
      obtain ⟨g1, g2, g3, g4, g5, g6⟩ := hR.1.2.2.2 c hlt
      have e1 : q_nc R - c = (q_nc R - (c + 1)) + 1 := by omega
      have hnext : ∀ s, (q_bar R c = false → q_tst R w c = false) → ql lE σ0 s → mR1 s t R → (∀ v, v < 12 → qx_ml s 206 v = w v) → qx_K G qc_T 3 RX12 YX12_likes 54 [.ref 197, .int (nI p), .int (nI q), .int (nI t), .int (nI (c + 1)), .retAddr 0, .retAddr 0, .retAddr 0] [] s (fun r s => r = some (.int (q_lkc R w z (q_nc R - c) c)) ∧ ql lE σ0 s) := by
        intro s h1 h2 h3 h4
        rw [e1]
        have e2 : q_lkc R w z (q_nc R - (c + 1) + 1) c = q_lkc R w z (q_nc R - (c + 1)) (c + 1) := by
          show (if _ then _ else _) = _
          rw [if_neg]
          rintro ⟨y1, y2⟩
          rw [h1 y1] at y2
          cases y2
        rw [e2]
        exact ih (q_nc R - (c + 1)) (by omega) (c + 1) s rfl (by omega) h2 h3 h4
      cases hb : q_bar R c with
      | true =>
        rw [hb] at k1
        refine qy_wp_ok (c := CX12_likes) (cuts := [54]) vX12_likes wX12_likes 2000 54 _ _ _ ?_
        refine And.intro rfl (Exists.intro 202 (And.intro rfl ?_))
        refine Exists.intro (t) (Exists.intro (nI (q_nc R)) (And.intro rfl (And.intro ⟨6, rfl, by omega, by decide⟩ (And.intro hR.2.1 ?_))))
        refine And.intro (fun h62 => ?_) (fun h62 => ?_)
        · skip
          have h62 := nI_leT (a := q_nc R) (b := c) (by omega) (by omega) h62
          exact absurd h62 (by omega)
        · skip
          have h62 := nI_leF (a := q_nc R) (b := c) (by omega) (by omega) h62
          refine Exists.intro (nI 60) (And.intro rfl ?_)
          refine Exists.intro (nI (60 * t)) (And.intro (pk_mul _ _) ?_)
          refine Exists.intro (nI 5) (And.intro rfl ?_)
          refine Exists.intro (nI (5 * c)) (And.intro (pk_mul _ _) ?_)
          refine Exists.intro (nI (60 * t + 5 * c)) (And.intro (nI_add _ _) ?_)
          refine And.intro rfl (Exists.intro 201 (And.intro rfl ?_))
          refine Exists.intro (60 * t + 5 * c) (Exists.intro (nI 0) (And.intro rfl (And.intro ⟨360, rfl, by omega, by decide⟩ (And.intro k1 ?_))))
          refine Exists.intro (nI 1) (And.intro rfl ?_)
          refine And.intro (fun h84 => ?_) (fun h84 => ?_)
          · skip
            refine Exists.intro (nI (c + 1)) (And.intro (nI_add _ _) ?_)
            refine qx_K_le (ls := [.ref 197, .int (nI p), .int (nI q), .int (nI t), .int (nI (c + 1)), .retAddr 0, .retAddr 0, .retAddr 0]) ⟨Or.inr rfl, Or.inr rfl, Or.inr rfl, Or.inr rfl, Or.inr rfl, Or.inl rfl, Or.inr rfl, Or.inr rfl, trivial⟩ ?_
            exact hnext _ (fun y => by rw [hb] at y; cases y) hf hR hw
          · skip
            exact absurd h84 (by decide)
      | false =>
        rw [hb] at k1
        have e3 : q_tst R w c = true → q_lkc R w z (q_nc R - c) c = q_hold (ev (q_cd R) w (q_fr R c) (q_tf R c)) := by
          intro y
          rw [e1]
          show (if _ then _ else _) = _
          rw [if_pos ⟨hb, y⟩]
        refine qy_wp_ok (c := CX12_likes) (cuts := [54]) vX12_likes wX12_likes 2000 54 _ _ _ ?_
        refine And.intro rfl (Exists.intro 202 (And.intro rfl ?_))
        refine Exists.intro (t) (Exists.intro (nI (q_nc R)) (And.intro rfl (And.intro ⟨6, rfl, by omega, by decide⟩ (And.intro hR.2.1 ?_))))
        refine And.intro (fun h62 => ?_) (fun h62 => ?_)
        · skip
          have h62 := nI_leT (a := q_nc R) (b := c) (by omega) (by omega) h62
          exact absurd h62 (by omega)
        · skip
          have h62 := nI_leF (a := q_nc R) (b := c) (by omega) (by omega) h62
          refine Exists.intro (nI 60) (And.intro rfl ?_)
          refine Exists.intro (nI (60 * t)) (And.intro (pk_mul _ _) ?_)
          refine Exists.intro (nI 5) (And.intro rfl ?_)
          refine Exists.intro (nI (5 * c)) (And.intro (pk_mul _ _) ?_)
          refine Exists.intro (nI (60 * t + 5 * c)) (And.intro (nI_add _ _) ?_)
          refine And.intro rfl (Exists.intro 201 (And.intro rfl ?_))
          refine Exists.intro (60 * t + 5 * c) (Exists.intro (nI 1) (And.intro rfl (And.intro ⟨360, rfl, by omega, by decide⟩ (And.intro k1 ?_))))
          refine Exists.intro (nI 1) (And.intro rfl ?_)
          refine And.intro (fun h84 => ?_) (fun h84 => ?_)
          · skip
            exact absurd (by decide) h84
          · skip
            refine And.intro rfl (Exists.intro _ (And.intro (by decide) (qx_M_mono (m_holds ht hR hw (by omega)) ?_)))
            rintro _ σ1 ⟨rfl, fσ1⟩
            have hf_σ1 : ql lE σ0 σ1 := hf.tr (fσ1.mn rfl)
            have hR_σ1 : mR1 σ1 t R := hR.fr fσ1 (fun _ => rfl) (fun _ => rfl) (fun _ => rfl)
            have hw_σ1 : ∀ v, v < 12 → qx_ml σ1 206 v = w v := (fun v hv => (fσ1.l 206 v rfl).trans (hw v hv))
            refine And.intro (fun h94 => ?_) (fun h94 => ?_)
            · skip
              have h94 := bI_t h94
              refine And.intro rfl (Exists.intro 201 (And.intro rfl ?_))
              refine Exists.intro (nI 1) (And.intro rfl ?_)
              refine Exists.intro (nI (60 * t + 5 * c + 1)) (And.intro (nI_add _ _) ?_)
              refine Exists.intro (60 * t + 5 * c + 1) (Exists.intro (nI (q_fr R c)) (And.intro rfl (And.intro ⟨360, rfl, by omega, by decide⟩ (And.intro ((fσ1.i _ _ rfl).trans (k2)) ?_))))
              refine And.intro rfl (Exists.intro 201 (And.intro rfl ?_))
              refine Exists.intro (nI 2) (And.intro rfl ?_)
              refine Exists.intro (nI (60 * t + 5 * c + 2)) (And.intro (nI_add _ _) ?_)
              refine Exists.intro (60 * t + 5 * c + 2) (Exists.intro (nI (q_tf R c)) (And.intro rfl (And.intro ⟨360, rfl, by omega, by decide⟩ (And.intro ((fσ1.i _ _ rfl).trans (k3)) ?_))))
              refine And.intro rfl (Exists.intro _ (And.intro (by decide) (qx_M_mono (m_reckons ht hR_σ1 hw_σ1 (g5 hb) (Nat.le_trans g2 g3)) ?_)))
              rintro _ σ2 ⟨rfl, fσ2⟩
              have hf_σ2 : ql lE σ0 σ2 := hf_σ1.tr (fσ2.mn rfl)
              have hR_σ2 : mR1 σ2 t R := hR_σ1.fr fσ2 (fun _ => rfl) (fun _ => rfl) (fun _ => rfl)
              have hw_σ2 : ∀ v, v < 12 → qx_ml σ2 206 v = w v := (fun v hv => (fσ2.l 206 v rfl).trans (hw_σ1 v hv))
              refine Exists.intro ((-999)) (And.intro (by decide) ?_)
              refine Exists.intro (lg_cmp (ev (q_cd R) w (q_fr R c) (q_tf R c)) (-999)) (And.intro rfl ?_)
              refine And.intro (fun h131 => ?_) (fun h131 => ?_)
              · skip
                have h131 := (lg_cmp_ge _ _).mp h131
                refine Exists.intro (lN 999) (And.intro (by decide) ?_)
                refine Exists.intro (lg_cmp (ev (q_cd R) w (q_fr R c) (q_tf R c)) (lN 999)) (And.intro rfl ?_)
                refine And.intro (fun h146 => ?_) (fun h146 => ?_)
                · skip
                  have h146 := (lg_cmp_le _ _).mp h146
                  refine Exists.intro ((ev (q_cd R) w (q_fr R c) (q_tf R c)).toInt32) (And.intro rfl ?_)
                  refine ⟨congrArg (fun z => some (Value.int z)) ?_, hf_σ2⟩
                  rw [e3 h94]
                  unfold q_hold
                  first | rw [if_pos (Int64.not_le.mp h131)] | rw [if_neg (Int64.not_lt.mpr h131), if_pos (Int64.not_le.mp h146)] | rw [if_neg (Int64.not_lt.mpr h131), if_neg (Int64.not_lt.mpr h146)]
                  done
                · skip
                  have h146 := fun z => h146 ((lg_cmp_le _ _).mpr z)
                  refine Exists.intro (nI 999) (And.intro rfl ?_)
                  refine ⟨congrArg (fun z => some (Value.int z)) ?_, hf_σ2⟩
                  rw [e3 h94]
                  unfold q_hold
                  first | rw [if_pos (Int64.not_le.mp h131)] | rw [if_neg (Int64.not_lt.mpr h131), if_pos (Int64.not_le.mp h146)] | rw [if_neg (Int64.not_lt.mpr h131), if_neg (Int64.not_lt.mpr h146)]
                  done
              · skip
                have h131 := fun z => h131 ((lg_cmp_ge _ _).mpr z)
                refine Exists.intro ((-999)) (And.intro (by decide) ?_)
                refine ⟨congrArg (fun z => some (Value.int z)) ?_, hf_σ2⟩
                rw [e3 h94]
                unfold q_hold
                first | rw [if_pos (Int64.not_le.mp h131)] | rw [if_neg (Int64.not_lt.mpr h131), if_pos (Int64.not_le.mp h146)] | rw [if_neg (Int64.not_lt.mpr h131), if_neg (Int64.not_lt.mpr h146)]
                done
            · skip
              have h94 := bI_f h94
              refine Exists.intro (nI (c + 1)) (And.intro (nI_add _ _) ?_)
              refine qx_K_le (ls := [.ref 197, .int (nI p), .int (nI q), .int (nI t), .int (nI (c + 1)), .retAddr 0, .retAddr 0, .retAddr 0]) ⟨Or.inr rfl, Or.inr rfl, Or.inr rfl, Or.inr rfl, Or.inr rfl, Or.inl rfl, Or.inr rfl, Or.inr rfl, trivial⟩ ?_
              exact hnext _ (fun y => h94) hf_σ1 hR_σ1 hw_σ1
    · obtain rfl : c = q_nc R := by omega
      rw [Nat.sub_self]
      refine qy_wp_ok (c := CX12_likes) (cuts := [54]) vX12_likes wX12_likes 2000 54 _ _ _ ?_
      refine And.intro rfl (Exists.intro 202 (And.intro rfl ?_))
      refine Exists.intro (t) (Exists.intro (nI (q_nc R)) (And.intro rfl (And.intro ⟨6, rfl, by omega, by decide⟩ (And.intro hR.2.1 ?_))))
      refine And.intro (fun h62 => ?_) (fun h62 => ?_)
      · skip
        have h62 := nI_leT (a := q_nc R) (b := q_nc R) (by omega) (by omega) h62
        refine And.intro rfl (Exists.intro _ (And.intro (by decide) (qx_M_mono (m_wishOf (p := p) (q := q) (by omega) (by omega) ((hf.i _ _ rfl).trans hz)) ?_)))
        rintro _ _ ⟨rfl, rfl⟩
        exact ⟨rfl, hf⟩
      · skip
        have h62 := nI_leF (a := q_nc R) (b := q_nc R) (by omega) (by omega) h62
        exact absurd h62 (by omega)
theorem m_likes {G : qx_G} {σ : qx_S} {S : qS} {rf : Option qR} {ly : Option (Nat × Nat)} (hX : mX σ S rf ly) {p a q : Nat} (hp : p < 10) (hq : q < 8) (ha : S (10 + 5 * p) = nI a) : qx_M G qc_T 3 YX12_likes [.ref 197, .int (nI p), .int (nI q)] σ (fun r s => r = some (.int (q_ll S rf ly p a q)) ∧ ql lE σ s) := by
  have hS := hX.1
  have e1 := hX.2.1
  have he1 := hX.2.2.1
  have main : ∀ x : Int32, qx_mi σ 197 21 = x → ¬ nI p = x → qx_M G qc_T 3 YX12_likes [.ref 197, .int (nI p), .int (nI q)] σ (fun r s => r = some (.int (q_lk S rf p a q)) ∧ ql lE σ s) := by
    intro x hx hne
    have h4 := hX.2.2.2.1
    cases rf with
    | none =>
      dsimp only at h4
      refine qx_M_in rfl (Nat.le_of_ble_eq_true rfl) ?_
      refine qy_wp_ok (c := CX12_likes) (cuts := [54]) vX12_likes wX12_likes 2000 0 _ _ _ ?_
      refine And.intro rfl (Exists.intro 21 (Exists.intro x (And.intro rfl (And.intro hx ?_))))
      refine And.intro (fun h5 => ?_) (fun h5 => ?_)
      · skip
        refine And.intro rfl (Exists.intro 207 (And.intro rfl ?_))
        refine Exists.intro (nI 7) (And.intro rfl ?_)
        refine Exists.intro (7) (Exists.intro (-1) (And.intro rfl (And.intro ⟨2788, rfl, by decide, by decide⟩ (And.intro ((congrFun hS 7).trans h4) ?_))))
        refine And.intro (fun h33 => ?_) (fun h33 => ?_)
        · skip
          exact absurd h33 (by decide)
        · skip
          refine And.intro rfl (Exists.intro _ (And.intro (by decide) (qx_M_mono (m_wishOf (p := p) (q := q) (by omega) (by omega) (congrFun hS (60 + 8 * p + q))) ?_)))
          rintro _ _ ⟨rfl, rfl⟩
          exact ⟨rfl, qf.rf⟩
      · skip
        exact absurd h5 hne
    | some R =>
      obtain ⟨t, ht, h7, hR⟩ := h4
      refine qx_M_in rfl (Nat.le_of_ble_eq_true rfl) ?_
      refine qy_wp_ok (c := CX12_likes) (cuts := [54]) vX12_likes wX12_likes 2000 0 _ _ _ ?_
      refine And.intro rfl (Exists.intro 21 (Exists.intro x (And.intro rfl (And.intro hx ?_))))
      refine And.intro (fun h5 => ?_) (fun h5 => ?_)
      · skip
        refine And.intro rfl (Exists.intro 207 (And.intro rfl ?_))
        refine Exists.intro (nI 7) (And.intro rfl ?_)
        refine Exists.intro (7) (Exists.intro (nI t) (And.intro rfl (And.intro ⟨2788, rfl, by decide, by decide⟩ (And.intro ((congrFun hS 7).trans h7) ?_))))
        refine And.intro (fun h33 => ?_) (fun h33 => ?_)
        · skip
          have h33 := nI_leT (a := 0) (b := t) (by decide) (by omega) h33
          refine Exists.intro ((-1)) (And.intro (by decide) ?_)
          refine Exists.intro (nI 0) (And.intro rfl ?_)
          refine And.intro rfl (Exists.intro _ (And.intro (by decide) (qx_M_mono (m_words0 (p := p) (a := a) (to := q) hS e1 he1 hp hq ha) ?_)))
          rintro _ σ1 ⟨rfl, fσ1, gσ1⟩
          refine Exists.intro (nI 0) (And.intro rfl ?_)
          exact qx_K_mono (l_likes (z := S (60 + 8 * p + q)) (σ0 := σ) ht hp hq (congrFun hS _) _ 0 σ1 rfl (by omega) (fσ1.mn rfl) (hR.fr fσ1 (fun _ => rfl) (fun _ => rfl) (fun _ => rfl)) gσ1) (fun r s h => h)
        · skip
          have h33 := nI_leF (a := 0) (b := t) (by decide) (by omega) h33
          exact absurd h33 (by omega)
      · skip
        exact absurd h5 hne
  have h5 := hX.2.2.2.2
  cases ly with
  | none => exact main (-1) h5 (by intro e; have := congrArg Int32.toInt e; rw [nI_toInt (by omega)] at this; rw [show (-1 : Int32).toInt = -1 from rfl] at this; omega)
  | some y =>
    obtain ⟨l, z⟩ := y
    obtain ⟨y1, y2, y3, y4⟩ := h5
    dsimp only at y1 y2 y3 y4
    by_cases hpl : p = l
    · subst hpl
      refine qx_M_in rfl (Nat.le_of_ble_eq_true rfl) ?_
      refine qy_wp_ok (c := CX12_likes) (cuts := [54]) vX12_likes wX12_likes 2000 0 _ _ _ ?_
      refine And.intro rfl (Exists.intro 21 (Exists.intro (nI p) (And.intro rfl (And.intro y1 ?_))))
      refine And.intro (fun h5 => ?_) (fun h5 => ?_)
      · skip
        have h5 := nI_neT (a := p) (b := p) (by omega) (by omega) h5
        exact absurd rfl h5
      · skip
        have h5 := nI_eqT (a := p) (b := p) (by omega) (by omega) h5
        refine And.intro rfl (Exists.intro 22 (Exists.intro (nI z) (And.intro rfl (And.intro y2 ?_))))
        refine And.intro (fun h13 => ?_) (fun h13 => ?_)
        · skip
          have h13 := nI_neT (a := q) (b := z) (by omega) (by omega) h13
          refine Exists.intro (nI 0) (And.intro rfl ?_)
          refine ⟨congrArg (fun z => some (Value.int z)) ?_, qf.rf⟩
          show _ = if p = p then (if q = z then nI 999 else nI 0) else _
          rw [if_pos rfl]
          first | rw [if_pos h13] | rw [if_neg h13]
        · skip
          have h13 := nI_eqT (a := q) (b := z) (by omega) (by omega) h13
          refine Exists.intro (nI 999) (And.intro rfl ?_)
          refine ⟨congrArg (fun z => some (Value.int z)) ?_, qf.rf⟩
          show _ = if p = p then (if q = z then nI 999 else nI 0) else _
          rw [if_pos rfl]
          first | rw [if_pos h13] | rw [if_neg h13]
    · refine qx_M_mono (main (nI l) y1 (fun e => hpl (nI_eqT (by omega) (by omega) e))) (fun r s h => ⟨?_, h.2⟩)
      rw [h.1]
      show _ = some (Value.int (if p = l then (if q = z then nI 999 else nI 0) else _))
      rw [if_neg hpl]

