/-! THE REFERENCE: country, its text -/
def q_wz (D : qS) (pe : Nat) : Nat → qS
  | 0 => D
  | n + 1 => va_up (q_wz D pe n) (60 + 8 * pe + n) (nI 0)
theorem q_wz_lo (D : qS) (pe : Nat) : ∀ n i, i < 60 → q_wz D pe n i = D i
  | 0, _, _ => rfl
  | n + 1, i, h => by
    show va_up (q_wz D pe n) (60 + 8 * pe + n) (nI 0) i = D i
    rw [va_up_ne _ _ (by omega)]
    exact q_wz_lo D pe n i h
def q_np (D : qS) (pe : Nat) : qS := va_up (q_wz (va_up (va_up (va_up D (10 + 5 * pe + 2) (D (10 + 5 * pe))) (10 + 5 * pe + 3) (nI 0)) (10 + 5 * pe + 4) (nI 0)) pe 8) 1 (nI (pe + 1))
def q_c00 (T : q_T) (p : Nat) (D : qS) : Except Nat (Nat × qS) := if s_n D 1 = 10 then .error (1 + 8 * p + 4) else match q_cell T (q_nx T p) (nI 0) (D 0 - nI 1) (10 + 5 * s_n D 1) D with
  | .error f => .error f
  | .ok y => match q_cell T y.1 (nI 1) (nI 99) (10 + 5 * s_n D 1 + 1) y.2 with
    | .error f => .error f
    | .ok z => .ok (z.1, q_np z.2 (s_n D 1))
theorem l_personC {G : qx_G} {σ0 : qx_S} {T : q_T} {p pe : Nat} {E : qS} (hpe : pe < 10) (e1 : E 1 = nI pe) : ∀ (m q : Nat) (σ : qx_S), q + m = 8 → mC σ T p (q_wz E pe q) → ql lC σ0 σ →
    qx_K G qc_T 3 RX12 YX12_isPersonHere 100 [.ref 197, .retAddr 0, .retAddr 0, .int (nI q)] [] σ (fun r s' => ql lC σ0 s' ∧ r = some (.int (bI true)) ∧ mC s' T p (va_up (q_wz E pe 8) 1 (nI (pe + 1)))) := by
  intro m
  induction m with
  | zero =>
    intro q σ hq h hf
    obtain rfl : q = 8 := by omega
    have f1 : qx_mi σ 203 1 = nI pe := (congrFun h.2.2.1 1).trans ((q_wz_lo E pe 8 1 (by decide)).trans e1)
    refine qy_wp_ok (c := CX12_isPersonHere) (cuts := [100]) vX12_isPersonHere wX12_isPersonHere 2000 100 _ _ _ ?_
    refine Exists.intro (nI 8) (And.intro rfl ?_)
    refine And.intro (fun h103 => ?_) (fun h103 => ?_)
    · skip
      refine And.intro rfl (Exists.intro 203 (And.intro rfl ?_))
      refine Exists.intro (nI 1) (And.intro rfl ?_)
      refine Exists.intro (1) (Exists.intro (nI pe) (And.intro rfl (And.intro ⟨148, rfl, by decide, by decide⟩ (And.intro f1 ?_))))
      refine Exists.intro (nI 1) (And.intro rfl ?_)
      refine Exists.intro (nI (pe + 1)) (And.intro (nI_add _ _) ?_)
      obtain ⟨σ1, eσ1⟩ : ∃ zs, zs = (qx_wi σ 203 1 (nI (pe + 1))) := ⟨_, rfl⟩
      have fσ1 := qn_wi eσ1
      refine Exists.intro (1) (Exists.intro σ1 (And.intro rfl (And.intro ⟨148, rfl, by decide, by decide⟩ (And.intro eσ1.symm ?_))))
      refine Exists.intro (nI 1) (And.intro rfl ?_)
      refine And.intro (Or.inr rfl) ?_
      exact ⟨hf.tr (fσ1.mn (by decide)), rfl, h.up eσ1⟩
    · skip
      exact absurd (by decide) h103
  | succ m ih =>
    intro q σ hq h hf
    have f1 : qx_mi σ 203 1 = nI pe := (congrFun h.2.2.1 1).trans ((q_wz_lo E pe q 1 (by decide)).trans e1)
    refine qy_wp_ok (c := CX12_isPersonHere) (cuts := [100]) vX12_isPersonHere wX12_isPersonHere 2000 100 _ _ _ ?_
    refine Exists.intro (nI 8) (And.intro rfl ?_)
    refine And.intro (fun h103 => ?_) (fun h103 => ?_)
    · skip
      have h103 := nI_leT (a := 8) (b := q) (by decide) (by omega) h103
      exact absurd h103 (by omega)
    · skip
      have h103 := nI_leF (a := 8) (b := q) (by decide) (by omega) h103
      refine And.intro rfl (Exists.intro 203 (And.intro rfl ?_))
      refine Exists.intro (nI 60) (And.intro rfl ?_)
      refine Exists.intro (nI 8) (And.intro rfl ?_)
      refine And.intro rfl (Exists.intro 203 (And.intro rfl ?_))
      refine Exists.intro (nI 1) (And.intro rfl ?_)
      refine Exists.intro (1) (Exists.intro (nI pe) (And.intro rfl (And.intro ⟨148, rfl, by decide, by decide⟩ (And.intro f1 ?_))))
      refine Exists.intro (nI (8 * pe)) (And.intro (pk_mul _ _) ?_)
      refine Exists.intro (nI (60 + 8 * pe)) (And.intro (nI_add _ _) ?_)
      refine Exists.intro (nI (60 + 8 * pe + q)) (And.intro (nI_add _ _) ?_)
      refine Exists.intro (nI 0) (And.intro rfl ?_)
      obtain ⟨σ1, eσ1⟩ : ∃ zs, zs = (qx_wi σ 203 (60 + 8 * pe + q) (nI 0)) := ⟨_, rfl⟩
      have fσ1 := qn_wi eσ1
      refine Exists.intro (60 + 8 * pe + q) (Exists.intro σ1 (And.intro rfl (And.intro ⟨148, rfl, by omega, by decide⟩ (And.intro eσ1.symm ?_))))
      refine Exists.intro (nI (q + 1)) (And.intro (nI_add _ _) ?_)
      exact ih (q + 1) _ (by omega) (h.up eσ1) (hf.tr (fσ1.mn (by decide)))
theorem m_personC {G : qx_G} {σ : qx_S} {T : q_T} {p : Nat} {D : qS} (h : mC σ T p D) (g : gD D) (hn8 : qx_mi σ 197 8 = nI p) (hw : 300 ≤ q_kd T p ∧ q_kd T p < 999) : qx_M G qc_T 3 YX12_isPersonHere [.ref 197, .int (nI p)] σ (fun r s' => rC2 σ s' T (q_c00 T p D) r) := by
  have e0 : qx_mi σ 203 0 = D 0 := congrFun h.2.2.1 0
  have e1 : qx_mi σ 203 1 = nI (s_n D 1) := (congrFun h.2.2.1 1).trans g.2.1.1
  have b1 := g.2.1.2
  unfold q_c00
  by_cases z : s_n D 1 = 10
  · rw [if_pos z]
    refine qx_M_in rfl (Nat.le_of_ble_eq_true rfl) ?_
    refine qy_wp_ok (c := CX12_isPersonHere) (cuts := [18]) vX12_isPersonHere wX12_isPersonHere 2000 0 _ _ _ ?_
    refine And.intro rfl (Exists.intro 203 (And.intro rfl ?_))
    refine Exists.intro (nI 1) (And.intro rfl ?_)
    refine Exists.intro (1) (Exists.intro (nI (s_n D 1)) (And.intro rfl (And.intro ⟨148, rfl, by decide, by decide⟩ (And.intro e1 ?_))))
    refine Exists.intro (nI 10) (And.intro rfl ?_)
    refine And.intro (fun h8 => ?_) (fun h8 => ?_)
    · skip
      have h8 := nI_neT (a := s_n D 1) (b := 10) (by omega) (by decide) h8
      refine qx_K_le (ls := [.ref 197, .retAddr 0, .retAddr 0, .retAddr 0]) ⟨Or.inr rfl, Or.inl rfl, Or.inr rfl, Or.inr rfl, trivial⟩ ?_
      exact absurd z h8
    · skip
      have h8 := nI_eqT (a := s_n D 1) (b := 10) (by omega) (by decide) h8
      refine Exists.intro (nI 4) (And.intro rfl ?_)
      refine And.intro rfl (Exists.intro _ (And.intro (by decide) (qx_M_mono (m_fails h.2.1) ?_)))
      rintro _ σ1 ⟨rfl, fσ1, gσ1⟩
      refine And.intro (bI_01 _) ?_
      exact ⟨fσ1.mn (by decide), rfl, gσ1⟩
  · rw [if_neg z]
    have mc : ∀ σ1, mC σ1 T (q_nx T p) D → _ := fun σ1 a => m_cellC (G := G) a (show 10 + 5 * s_n D 1 < 148 by omega) (nI 0) (D 0 - nI 1)
    cases hv : q_cell T (q_nx T p) (nI 0) (D 0 - nI 1) (10 + 5 * s_n D 1) D with
    | error f =>
      rw [hv] at mc
      refine qx_M_in rfl (Nat.le_of_ble_eq_true rfl) ?_
      refine qy_wp_ok (c := CX12_isPersonHere) (cuts := []) vX12_isPersonHere wX12_isPersonHere 2000 0 _ _ _ ?_
      refine And.intro rfl (Exists.intro 203 (And.intro rfl ?_))
      refine Exists.intro (nI 1) (And.intro rfl ?_)
      refine Exists.intro (1) (Exists.intro (nI (s_n D 1)) (And.intro rfl (And.intro ⟨148, rfl, by decide, by decide⟩ (And.intro e1 ?_))))
      refine Exists.intro (nI 10) (And.intro rfl ?_)
      refine And.intro (fun h8 => ?_) (fun h8 => ?_)
      · skip
        have h8 := nI_neT (a := s_n D 1) (b := 10) (by omega) (by decide) h8
        refine And.intro rfl (Exists.intro _ (And.intro (by decide) (qx_M_mono (m_passC h hn8 hw) ?_)))
        rintro _ σ1 ⟨rfl, fσ1, aσ1⟩
        refine Exists.intro (nI 10) (And.intro rfl ?_)
        refine Exists.intro (nI 5) (And.intro rfl ?_)
        refine And.intro rfl (Exists.intro 203 (And.intro rfl ?_))
        refine Exists.intro (nI 1) (And.intro rfl ?_)
        refine Exists.intro (1) (Exists.intro (nI (s_n D 1)) (And.intro rfl (And.intro ⟨148, rfl, by decide, by decide⟩ (And.intro ((fσ1.i _ _ rfl).trans (e1)) ?_))))
        refine Exists.intro (nI (5 * (s_n D 1))) (And.intro (pk_mul _ _) ?_)
        refine Exists.intro (nI (10 + 5 * (s_n D 1))) (And.intro (nI_add _ _) ?_)
        refine Exists.intro (nI 0) (And.intro rfl ?_)
        refine And.intro rfl (Exists.intro 203 (And.intro rfl ?_))
        refine Exists.intro (nI 0) (And.intro rfl ?_)
        refine Exists.intro (0) (Exists.intro (D 0) (And.intro rfl (And.intro ⟨148, rfl, by decide, by decide⟩ (And.intro ((fσ1.i _ _ rfl).trans (e0)) ?_))))
        refine Exists.intro (nI 1) (And.intro rfl ?_)
        refine Exists.intro ((D 0) - (nI 1)) (And.intro rfl ?_)
        refine And.intro rfl (Exists.intro _ (And.intro (by decide) (qx_M_mono (mc _ aσ1) ?_)))
        rintro _ σ2 ⟨fσ2, rfl, gσ2⟩
        refine And.intro (fun h48 => ?_) (fun h48 => ?_)
        · skip
          have h48 := bI_f h48
          refine Exists.intro (nI 0) (And.intro rfl ?_)
          refine And.intro (Or.inl rfl) ?_
          exact ⟨(fσ1.mn (by decide)).tr fσ2, rfl, gσ2⟩
        · skip
          have h48 := bI_t h48
          exact absurd (h48.symm.trans (rfl)) (by decide)
      · skip
        have h8 := nI_eqT (a := s_n D 1) (b := 10) (by omega) (by decide) h8
        exact absurd h8 z
    | ok y =>
      rw [hv] at mc
      obtain ⟨-, ey⟩ := q_cell_ok hv
      have mc2 : ∀ σ1, mC σ1 T y.1 y.2 → _ := fun σ1 a => m_cellC (G := G) a (show 10 + 5 * s_n D 1 + 1 < 148 by omega) (nI 1) (nI 99)
      dsimp only
      cases hv2 : q_cell T y.1 (nI 1) (nI 99) (10 + 5 * s_n D 1 + 1) y.2 with
      | error f =>
        rw [hv2] at mc2
        refine qx_M_in rfl (Nat.le_of_ble_eq_true rfl) ?_
        refine qy_wp_ok (c := CX12_isPersonHere) (cuts := []) vX12_isPersonHere wX12_isPersonHere 2000 0 _ _ _ ?_
        refine And.intro rfl (Exists.intro 203 (And.intro rfl ?_))
        refine Exists.intro (nI 1) (And.intro rfl ?_)
        refine Exists.intro (1) (Exists.intro (nI (s_n D 1)) (And.intro rfl (And.intro ⟨148, rfl, by decide, by decide⟩ (And.intro e1 ?_))))
        refine Exists.intro (nI 10) (And.intro rfl ?_)
        refine And.intro (fun h8 => ?_) (fun h8 => ?_)
        · skip
          have h8 := nI_neT (a := s_n D 1) (b := 10) (by omega) (by decide) h8
          refine And.intro rfl (Exists.intro _ (And.intro (by decide) (qx_M_mono (m_passC h hn8 hw) ?_)))
          rintro _ σ1 ⟨rfl, fσ1, aσ1⟩
          refine Exists.intro (nI 10) (And.intro rfl ?_)
          refine Exists.intro (nI 5) (And.intro rfl ?_)
          refine And.intro rfl (Exists.intro 203 (And.intro rfl ?_))
          refine Exists.intro (nI 1) (And.intro rfl ?_)
          refine Exists.intro (1) (Exists.intro (nI (s_n D 1)) (And.intro rfl (And.intro ⟨148, rfl, by decide, by decide⟩ (And.intro ((fσ1.i _ _ rfl).trans (e1)) ?_))))
          refine Exists.intro (nI (5 * (s_n D 1))) (And.intro (pk_mul _ _) ?_)
          refine Exists.intro (nI (10 + 5 * (s_n D 1))) (And.intro (nI_add _ _) ?_)
          refine Exists.intro (nI 0) (And.intro rfl ?_)
          refine And.intro rfl (Exists.intro 203 (And.intro rfl ?_))
          refine Exists.intro (nI 0) (And.intro rfl ?_)
          refine Exists.intro (0) (Exists.intro (D 0) (And.intro rfl (And.intro ⟨148, rfl, by decide, by decide⟩ (And.intro ((fσ1.i _ _ rfl).trans (e0)) ?_))))
          refine Exists.intro (nI 1) (And.intro rfl ?_)
          refine Exists.intro ((D 0) - (nI 1)) (And.intro rfl ?_)
          refine And.intro rfl (Exists.intro _ (And.intro (by decide) (qx_M_mono (mc _ aσ1) ?_)))
          rintro _ σ2 ⟨fσ2, rfl, aσ2⟩
          refine And.intro (fun h48 => ?_) (fun h48 => ?_)
          · skip
            have h48 := bI_f h48
            exact absurd (h48.symm.trans (rfl)) (by decide)
          · skip
            have h48 := bI_t h48
            refine Exists.intro (nI 1) (And.intro rfl ?_)
            refine Exists.intro (nI (10 + 5 * (s_n D 1) + 1)) (And.intro (nI_add _ _) ?_)
            refine Exists.intro (nI 1) (And.intro rfl ?_)
            refine Exists.intro (nI 99) (And.intro rfl ?_)
            refine And.intro rfl (Exists.intro _ (And.intro (by decide) (qx_M_mono (mc2 _ aσ2) ?_)))
            rintro _ σ3 ⟨fσ3, rfl, gσ3⟩
            refine And.intro (fun h61 => ?_) (fun h61 => ?_)
            · skip
              have h61 := bI_t h61
              exact absurd (h61.symm.trans (rfl)) (by decide)
            · skip
              have h61 := bI_f h61
              refine Exists.intro (nI 0) (And.intro rfl ?_)
              refine And.intro (Or.inl rfl) ?_
              exact ⟨(fσ1.mn (by decide)).tr (fσ2.tr fσ3), rfl, gσ3⟩
        · skip
          have h8 := nI_eqT (a := s_n D 1) (b := 10) (by omega) (by decide) h8
          exact absurd h8 z
      | ok w =>
        rw [hv2] at mc2
        obtain ⟨-, ew⟩ := q_cell_ok hv2
        have w1 : w.2 1 = nI (s_n D 1) := by
          rw [ew]
          show va_up y.2 (10 + 5 * s_n D 1 + 1) _ 1 = _
          rw [va_up_ne _ _ (by omega), ey]
          show va_up D (10 + 5 * s_n D 1) _ 1 = _
          rw [va_up_ne _ _ (by omega)]
          exact g.2.1.1
        have w1' : (va_up (va_up (va_up w.2 (10 + 5 * s_n D 1 + 2) (w.2 (10 + 5 * s_n D 1))) (10 + 5 * s_n D 1 + 3) (nI 0)) (10 + 5 * s_n D 1 + 4) (nI 0)) 1 = nI (s_n D 1) := by
          rw [va_up_ne _ _ (by omega), va_up_ne _ _ (by omega), va_up_ne _ _ (by omega)]
          exact w1
        refine qx_M_in rfl (Nat.le_of_ble_eq_true rfl) ?_
        refine qy_wp_ok (c := CX12_isPersonHere) (cuts := [100]) vX12_isPersonHere wX12_isPersonHere 2000 0 _ _ _ ?_
        refine And.intro rfl (Exists.intro 203 (And.intro rfl ?_))
        refine Exists.intro (nI 1) (And.intro rfl ?_)
        refine Exists.intro (1) (Exists.intro (nI (s_n D 1)) (And.intro rfl (And.intro ⟨148, rfl, by decide, by decide⟩ (And.intro e1 ?_))))
        refine Exists.intro (nI 10) (And.intro rfl ?_)
        refine And.intro (fun h8 => ?_) (fun h8 => ?_)
        · skip
          have h8 := nI_neT (a := s_n D 1) (b := 10) (by omega) (by decide) h8
          refine And.intro rfl (Exists.intro _ (And.intro (by decide) (qx_M_mono (m_passC h hn8 hw) ?_)))
          rintro _ σ1 ⟨rfl, fσ1, aσ1⟩
          refine Exists.intro (nI 10) (And.intro rfl ?_)
          refine Exists.intro (nI 5) (And.intro rfl ?_)
          refine And.intro rfl (Exists.intro 203 (And.intro rfl ?_))
          refine Exists.intro (nI 1) (And.intro rfl ?_)
          refine Exists.intro (1) (Exists.intro (nI (s_n D 1)) (And.intro rfl (And.intro ⟨148, rfl, by decide, by decide⟩ (And.intro ((fσ1.i _ _ rfl).trans (e1)) ?_))))
          refine Exists.intro (nI (5 * (s_n D 1))) (And.intro (pk_mul _ _) ?_)
          refine Exists.intro (nI (10 + 5 * (s_n D 1))) (And.intro (nI_add _ _) ?_)
          refine Exists.intro (nI 0) (And.intro rfl ?_)
          refine And.intro rfl (Exists.intro 203 (And.intro rfl ?_))
          refine Exists.intro (nI 0) (And.intro rfl ?_)
          refine Exists.intro (0) (Exists.intro (D 0) (And.intro rfl (And.intro ⟨148, rfl, by decide, by decide⟩ (And.intro ((fσ1.i _ _ rfl).trans (e0)) ?_))))
          refine Exists.intro (nI 1) (And.intro rfl ?_)
          refine Exists.intro ((D 0) - (nI 1)) (And.intro rfl ?_)
          refine And.intro rfl (Exists.intro _ (And.intro (by decide) (qx_M_mono (mc _ aσ1) ?_)))
          rintro _ σ2 ⟨fσ2, rfl, aσ2⟩
          refine And.intro (fun h48 => ?_) (fun h48 => ?_)
          · skip
            have h48 := bI_f h48
            exact absurd (h48.symm.trans (rfl)) (by decide)
          · skip
            have h48 := bI_t h48
            refine Exists.intro (nI 1) (And.intro rfl ?_)
            refine Exists.intro (nI (10 + 5 * (s_n D 1) + 1)) (And.intro (nI_add _ _) ?_)
            refine Exists.intro (nI 1) (And.intro rfl ?_)
            refine Exists.intro (nI 99) (And.intro rfl ?_)
            refine And.intro rfl (Exists.intro _ (And.intro (by decide) (qx_M_mono (mc2 _ aσ2) ?_)))
            rintro _ σ3 ⟨fσ3, rfl, aσ3⟩
            refine And.intro (fun h61 => ?_) (fun h61 => ?_)
            · skip
              have h61 := bI_t h61
              refine And.intro rfl (Exists.intro 203 (And.intro rfl ?_))
              refine Exists.intro (nI 2) (And.intro rfl ?_)
              refine Exists.intro (nI (10 + 5 * (s_n D 1) + 2)) (And.intro (nI_add _ _) ?_)
              refine And.intro rfl (Exists.intro 203 (And.intro rfl ?_))
              refine Exists.intro (10 + 5 * (s_n D 1)) (Exists.intro (w.2 (10 + 5 * s_n D 1)) (And.intro rfl (And.intro ⟨148, rfl, by omega, by decide⟩ (And.intro (congrFun aσ3.2.2.1 _) ?_))))
              obtain ⟨σ4, eσ4⟩ : ∃ zs, zs = (qx_wi σ3 203 (10 + 5 * (s_n D 1) + 2) (w.2 (10 + 5 * s_n D 1))) := ⟨_, rfl⟩
              have fσ4 := qn_wi eσ4
              refine Exists.intro (10 + 5 * (s_n D 1) + 2) (Exists.intro σ4 (And.intro rfl (And.intro ⟨148, rfl, by omega, by decide⟩ (And.intro eσ4.symm ?_))))
              refine And.intro rfl (Exists.intro 203 (And.intro rfl ?_))
              refine Exists.intro (nI 3) (And.intro rfl ?_)
              refine Exists.intro (nI (10 + 5 * (s_n D 1) + 3)) (And.intro (nI_add _ _) ?_)
              refine Exists.intro (nI 0) (And.intro rfl ?_)
              obtain ⟨σ5, eσ5⟩ : ∃ zs, zs = (qx_wi σ4 203 (10 + 5 * (s_n D 1) + 3) (nI 0)) := ⟨_, rfl⟩
              have fσ5 := qn_wi eσ5
              refine Exists.intro (10 + 5 * (s_n D 1) + 3) (Exists.intro σ5 (And.intro rfl (And.intro ⟨148, rfl, by omega, by decide⟩ (And.intro eσ5.symm ?_))))
              refine And.intro rfl (Exists.intro 203 (And.intro rfl ?_))
              refine Exists.intro (nI 4) (And.intro rfl ?_)
              refine Exists.intro (nI (10 + 5 * (s_n D 1) + 4)) (And.intro (nI_add _ _) ?_)
              refine Exists.intro (nI 0) (And.intro rfl ?_)
              obtain ⟨σ6, eσ6⟩ : ∃ zs, zs = (qx_wi σ5 203 (10 + 5 * (s_n D 1) + 4) (nI 0)) := ⟨_, rfl⟩
              have fσ6 := qn_wi eσ6
              refine Exists.intro (10 + 5 * (s_n D 1) + 4) (Exists.intro σ6 (And.intro rfl (And.intro ⟨148, rfl, by omega, by decide⟩ (And.intro eσ6.symm ?_))))
              refine Exists.intro (nI 0) (And.intro rfl ?_)
              refine qx_K_le (ls := [.ref 197, .retAddr 0, .retAddr 0, .int (nI 0)]) ⟨Or.inr rfl, Or.inl rfl, Or.inl rfl, Or.inr rfl, trivial⟩ ?_
              refine qx_K_mono (l_personC (by omega) w1' 8 0 _ (by omega) (((aσ3.up eσ4).up eσ5).up eσ6) ((fσ1.mn (by decide)).tr (fσ2.tr (fσ3.tr ((fσ4.mn (by decide)).tr ((fσ5.mn (by decide)).tr (fσ6.mn (by decide)))))))) ?_
              rintro r s' ⟨y1, y2, y3⟩
              exact ⟨y1, y2, y3⟩
            · skip
              have h61 := bI_f h61
              exact absurd (h61.symm.trans (rfl)) (by decide)
        · skip
          have h8 := nI_eqT (a := s_n D 1) (b := 10) (by omega) (by decide) h8
          exact absurd h8 z
/-- one clause of a country -/
def q_ln (T : q_T) (p : Nat) (D : qS) : Except Nat (Nat × qS) := if q_kd T p = 312 then q_c12 T p D else if s_n D 0 = 0 then .error (1 + 8 * p + 4) else if q_kd T p = 300 then q_c00 T p D else if q_kd T p = 305 then q_c05 T p D else if q_kd T p = 313 then q_c13 T p D else q_c14 T p D
theorem m_lineC {G : qx_G} {σ : qx_S} {T : q_T} {p : Nat} {D : qS} (h : mC σ T p D) (g : gD D) (hw : 300 ≤ q_kd T p ∧ q_kd T p < 999) : qx_M G qc_T 4 YX12_countryLineHere [.ref 197, .int (nI p)] σ (fun r s' => rC2 σ s' T (q_ln T p D) r) := by
  have b0 := g.1.2
  have ec : ∀ σ1, mC σ1 T p D → qx_mi σ1 203 0 = nI (s_n D 0) := fun σ1 a => (congrFun a.2.2.1 0).trans g.1.1
  have ex : ∀ {σ1 : qx_S} {y : qx_Y} {as : List Value} {d : Nat} {x : Except Nat (Nat × qS)}, qx_M G qc_T d y as σ1 (fun r s' => rC2 σ1 s' T x r) → qx_M G qc_T d y as σ1 (fun r s' => ∃ b, r = some (.int (bI b)) ∧ rC2 σ1 s' T x r) := fun m => qx_M_mono m (fun r s' z => ⟨_, rC2_b z, z⟩)
  have hf : ql lC σ σ := qf.rf
  unfold q_ln
  by_cases k12 : q_kd T p = 312
  · have d12 : decide (q_kd T p = 300 + 12) = true := decide_eq_true (by omega)
    rw [if_pos k12]
    refine qx_M_in rfl (Nat.le_of_ble_eq_true rfl) ?_
    refine qy_wp_ok (c := CX12_countryLineHere) (cuts := []) vX12_countryLineHere wX12_countryLineHere 2000 0 _ _ _ ?_
    refine Exists.intro (lN 123610792682867) (And.intro (by decide) ?_)
    refine And.intro rfl (Exists.intro _ (And.intro (by decide) (qx_M_mono (m_isWordC h 12 (by decide)) ?_)))
    rintro _ σ1 ⟨rfl, fσ1, afσ1, gfσ1⟩
    have hf_σ1 : ql lC σ σ1 := hf.tr (fσ1.mn (by decide))
    have h_σ1 : mC σ1 T p D := afσ1
    have e8_σ1 : qx_mi σ1 197 8 = nI p := gfσ1
    refine And.intro (fun h7 => ?_) (fun h7 => ?_)
    · skip
      have h7 := bI_f h7
      exact absurd (h7.symm.trans (d12)) (by decide)
    · skip
      have h7 := bI_t h7
      refine And.intro rfl (Exists.intro _ (And.intro (by decide) (qx_M_mono (ex (m_places h_σ1 g e8_σ1 hw)) ?_)))
      rintro _ σ2 ⟨bb, rfl, fσ2⟩
      refine And.intro (bI_01 _) ?_
      exact ⟨hf_σ1.tr (fσ2.1), fσ2.2⟩
  · have d12 : decide (q_kd T p = 300 + 12) = false := decide_eq_false (by omega)
    rw [if_neg k12]
    by_cases z : s_n D 0 = 0
    · rw [if_pos z]
      refine qx_M_in rfl (Nat.le_of_ble_eq_true rfl) ?_
      refine qy_wp_ok (c := CX12_countryLineHere) (cuts := []) vX12_countryLineHere wX12_countryLineHere 2000 0 _ _ _ ?_
      refine Exists.intro (lN 123610792682867) (And.intro (by decide) ?_)
      refine And.intro rfl (Exists.intro _ (And.intro (by decide) (qx_M_mono (m_isWordC h 12 (by decide)) ?_)))
      rintro _ σ1 ⟨rfl, fσ1, afσ1, gfσ1⟩
      have hf_σ1 : ql lC σ σ1 := hf.tr (fσ1.mn (by decide))
      have h_σ1 : mC σ1 T p D := afσ1
      have e8_σ1 : qx_mi σ1 197 8 = nI p := gfσ1
      refine And.intro (fun h7 => ?_) (fun h7 => ?_)
      · skip
        have h7 := bI_f h7
        refine And.intro rfl (Exists.intro 203 (And.intro rfl ?_))
        refine Exists.intro (nI 0) (And.intro rfl ?_)
        refine Exists.intro (0) (Exists.intro (nI (s_n D 0)) (And.intro rfl (And.intro ⟨148, rfl, by decide, by decide⟩ (And.intro (ec _ afσ1) ?_))))
        refine And.intro (fun h22 => ?_) (fun h22 => ?_)
        · skip
          have h22 := nI_neT (a := s_n D 0) (b := 0) (by omega) (by decide) h22
          exact absurd z h22
        · skip
          have h22 := nI_eqT (a := s_n D 0) (b := 0) (by omega) (by decide) h22
          refine Exists.intro (nI 4) (And.intro rfl ?_)
          refine And.intro rfl (Exists.intro _ (And.intro (by decide) (qx_M_mono (m_fails h_σ1.2.1) ?_)))
          rintro _ σ2 ⟨rfl, fσ2, gσ2⟩
          have hf_σ2 : ql lC σ σ2 := hf_σ1.tr (fσ2.mn (by decide))
          refine And.intro (bI_01 _) ?_
          exact ⟨hf_σ2, rfl, gσ2⟩
      · skip
        have h7 := bI_t h7
        exact absurd (h7.symm.trans (d12)) (by decide)
    · rw [if_neg z]
      by_cases k0 : q_kd T p = 300
      · have d0 : decide (q_kd T p = 300 + 0) = true := decide_eq_true (by omega)
        rw [if_pos k0]
        refine qx_M_in rfl (Nat.le_of_ble_eq_true rfl) ?_
        refine qy_wp_ok (c := CX12_countryLineHere) (cuts := []) vX12_countryLineHere wX12_countryLineHere 2000 0 _ _ _ ?_
        refine Exists.intro (lN 123610792682867) (And.intro (by decide) ?_)
        refine And.intro rfl (Exists.intro _ (And.intro (by decide) (qx_M_mono (m_isWordC h 12 (by decide)) ?_)))
        rintro _ σ1 ⟨rfl, fσ1, afσ1, gfσ1⟩
        have hf_σ1 : ql lC σ σ1 := hf.tr (fσ1.mn (by decide))
        have h_σ1 : mC σ1 T p D := afσ1
        have e8_σ1 : qx_mi σ1 197 8 = nI p := gfσ1
        refine And.intro (fun h7 => ?_) (fun h7 => ?_)
        · skip
          have h7 := bI_f h7
          refine And.intro rfl (Exists.intro 203 (And.intro rfl ?_))
          refine Exists.intro (nI 0) (And.intro rfl ?_)
          refine Exists.intro (0) (Exists.intro (nI (s_n D 0)) (And.intro rfl (And.intro ⟨148, rfl, by decide, by decide⟩ (And.intro (ec _ afσ1) ?_))))
          refine And.intro (fun h22 => ?_) (fun h22 => ?_)
          · skip
            have h22 := nI_neT (a := s_n D 0) (b := 0) (by omega) (by decide) h22
            refine Exists.intro (lN 123581014175598) (And.intro (by decide) ?_)
            refine And.intro rfl (Exists.intro _ (And.intro (by decide) (qx_M_mono (m_isWordC h_σ1 0 (by decide)) ?_)))
            rintro _ σ2 ⟨rfl, fσ2, afσ2, gfσ2⟩
            have hf_σ2 : ql lC σ σ2 := hf_σ1.tr (fσ2.mn (by decide))
            have h_σ2 : mC σ2 T p D := afσ2
            have e8_σ2 : qx_mi σ2 197 8 = nI p := gfσ2
            refine And.intro (fun h39 => ?_) (fun h39 => ?_)
            · skip
              have h39 := bI_f h39
              exact absurd (h39.symm.trans (d0)) (by decide)
            · skip
              have h39 := bI_t h39
              refine And.intro rfl (Exists.intro _ (And.intro (by decide) (qx_M_mono (ex (m_personC h_σ2 g e8_σ2 hw)) ?_)))
              rintro _ σ3 ⟨bb, rfl, fσ3⟩
              refine And.intro (bI_01 _) ?_
              exact ⟨hf_σ2.tr (fσ3.1), fσ3.2⟩
          · skip
            have h22 := nI_eqT (a := s_n D 0) (b := 0) (by omega) (by decide) h22
            exact absurd h22 z
        · skip
          have h7 := bI_t h7
          exact absurd (h7.symm.trans (d12)) (by decide)
      · have d0 : decide (q_kd T p = 300 + 0) = false := decide_eq_false (by omega)
        rw [if_neg k0]
        by_cases k5 : q_kd T p = 305
        · have d5 : decide (q_kd T p = 300 + 5) = true := decide_eq_true (by omega)
          rw [if_pos k5]
          refine qx_M_in rfl (Nat.le_of_ble_eq_true rfl) ?_
          refine qy_wp_ok (c := CX12_countryLineHere) (cuts := []) vX12_countryLineHere wX12_countryLineHere 2000 0 _ _ _ ?_
          refine Exists.intro (lN 123610792682867) (And.intro (by decide) ?_)
          refine And.intro rfl (Exists.intro _ (And.intro (by decide) (qx_M_mono (m_isWordC h 12 (by decide)) ?_)))
          rintro _ σ1 ⟨rfl, fσ1, afσ1, gfσ1⟩
          have hf_σ1 : ql lC σ σ1 := hf.tr (fσ1.mn (by decide))
          have h_σ1 : mC σ1 T p D := afσ1
          have e8_σ1 : qx_mi σ1 197 8 = nI p := gfσ1
          refine And.intro (fun h7 => ?_) (fun h7 => ?_)
          · skip
            have h7 := bI_f h7
            refine And.intro rfl (Exists.intro 203 (And.intro rfl ?_))
            refine Exists.intro (nI 0) (And.intro rfl ?_)
            refine Exists.intro (0) (Exists.intro (nI (s_n D 0)) (And.intro rfl (And.intro ⟨148, rfl, by decide, by decide⟩ (And.intro (ec _ afσ1) ?_))))
            refine And.intro (fun h22 => ?_) (fun h22 => ?_)
            · skip
              have h22 := nI_neT (a := s_n D 0) (b := 0) (by omega) (by decide) h22
              refine Exists.intro (lN 123581014175598) (And.intro (by decide) ?_)
              refine And.intro rfl (Exists.intro _ (And.intro (by decide) (qx_M_mono (m_isWordC h_σ1 0 (by decide)) ?_)))
              rintro _ σ2 ⟨rfl, fσ2, afσ2, gfσ2⟩
              have hf_σ2 : ql lC σ σ2 := hf_σ1.tr (fσ2.mn (by decide))
              have h_σ2 : mC σ2 T p D := afσ2
              have e8_σ2 : qx_mi σ2 197 8 = nI p := gfσ2
              refine And.intro (fun h39 => ?_) (fun h39 => ?_)
              · skip
                have h39 := bI_f h39
                refine Exists.intro (lN 2003399528) (And.intro (by decide) ?_)
                refine And.intro rfl (Exists.intro _ (And.intro (by decide) (qx_M_mono (m_isWordC h_σ2 5 (by decide)) ?_)))
                rintro _ σ3 ⟨rfl, fσ3, afσ3, gfσ3⟩
                have hf_σ3 : ql lC σ σ3 := hf_σ2.tr (fσ3.mn (by decide))
                have h_σ3 : mC σ3 T p D := afσ3
                have e8_σ3 : qx_mi σ3 197 8 = nI p := gfσ3
                refine And.intro (fun h55 => ?_) (fun h55 => ?_)
                · skip
                  have h55 := bI_f h55
                  exact absurd (h55.symm.trans (d5)) (by decide)
                · skip
                  have h55 := bI_t h55
                  refine And.intro rfl (Exists.intro _ (And.intro (by decide) (qx_M_mono (ex (m_wishC h_σ3 g e8_σ3 hw)) ?_)))
                  rintro _ σ4 ⟨bb, rfl, fσ4⟩
                  refine And.intro (bI_01 _) ?_
                  exact ⟨hf_σ3.tr (fσ4.1), fσ4.2⟩
              · skip
                have h39 := bI_t h39
                exact absurd (h39.symm.trans (d0)) (by decide)
            · skip
              have h22 := nI_eqT (a := s_n D 0) (b := 0) (by omega) (by decide) h22
              exact absurd h22 z
          · skip
            have h7 := bI_t h7
            exact absurd (h7.symm.trans (d12)) (by decide)
        · have d5 : decide (q_kd T p = 300 + 5) = false := decide_eq_false (by omega)
          rw [if_neg k5]
          by_cases k13 : q_kd T p = 313
          · have d13 : decide (q_kd T p = 300 + 13) = true := decide_eq_true (by omega)
            rw [if_pos k13]
            refine qx_M_in rfl (Nat.le_of_ble_eq_true rfl) ?_
            refine qy_wp_ok (c := CX12_countryLineHere) (cuts := []) vX12_countryLineHere wX12_countryLineHere 2000 0 _ _ _ ?_
            refine Exists.intro (lN 123610792682867) (And.intro (by decide) ?_)
            refine And.intro rfl (Exists.intro _ (And.intro (by decide) (qx_M_mono (m_isWordC h 12 (by decide)) ?_)))
            rintro _ σ1 ⟨rfl, fσ1, afσ1, gfσ1⟩
            have hf_σ1 : ql lC σ σ1 := hf.tr (fσ1.mn (by decide))
            have h_σ1 : mC σ1 T p D := afσ1
            have e8_σ1 : qx_mi σ1 197 8 = nI p := gfσ1
            refine And.intro (fun h7 => ?_) (fun h7 => ?_)
            · skip
              have h7 := bI_f h7
              refine And.intro rfl (Exists.intro 203 (And.intro rfl ?_))
              refine Exists.intro (nI 0) (And.intro rfl ?_)
              refine Exists.intro (0) (Exists.intro (nI (s_n D 0)) (And.intro rfl (And.intro ⟨148, rfl, by decide, by decide⟩ (And.intro (ec _ afσ1) ?_))))
              refine And.intro (fun h22 => ?_) (fun h22 => ?_)
              · skip
                have h22 := nI_neT (a := s_n D 0) (b := 0) (by omega) (by decide) h22
                refine Exists.intro (lN 123581014175598) (And.intro (by decide) ?_)
                refine And.intro rfl (Exists.intro _ (And.intro (by decide) (qx_M_mono (m_isWordC h_σ1 0 (by decide)) ?_)))
                rintro _ σ2 ⟨rfl, fσ2, afσ2, gfσ2⟩
                have hf_σ2 : ql lC σ σ2 := hf_σ1.tr (fσ2.mn (by decide))
                have h_σ2 : mC σ2 T p D := afσ2
                have e8_σ2 : qx_mi σ2 197 8 = nI p := gfσ2
                refine And.intro (fun h39 => ?_) (fun h39 => ?_)
                · skip
                  have h39 := bI_f h39
                  refine Exists.intro (lN 2003399528) (And.intro (by decide) ?_)
                  refine And.intro rfl (Exists.intro _ (And.intro (by decide) (qx_M_mono (m_isWordC h_σ2 5 (by decide)) ?_)))
                  rintro _ σ3 ⟨rfl, fσ3, afσ3, gfσ3⟩
                  have hf_σ3 : ql lC σ σ3 := hf_σ2.tr (fσ3.mn (by decide))
                  have h_σ3 : mC σ3 T p D := afσ3
                  have e8_σ3 : qx_mi σ3 197 8 = nI p := gfσ3
                  refine And.intro (fun h55 => ?_) (fun h55 => ?_)
                  · skip
                    have h55 := bI_f h55
                    refine Exists.intro (lN 422608528232) (And.intro (by decide) ?_)
                    refine And.intro rfl (Exists.intro _ (And.intro (by decide) (qx_M_mono (m_isWordC h_σ3 13 (by decide)) ?_)))
                    rintro _ σ4 ⟨rfl, fσ4, afσ4, gfσ4⟩
                    have hf_σ4 : ql lC σ σ4 := hf_σ3.tr (fσ4.mn (by decide))
                    have h_σ4 : mC σ4 T p D := afσ4
                    have e8_σ4 : qx_mi σ4 197 8 = nI p := gfσ4
                    refine And.intro (fun h72 => ?_) (fun h72 => ?_)
                    · skip
                      have h72 := bI_f h72
                      exact absurd (h72.symm.trans (d13)) (by decide)
                    · skip
                      have h72 := bI_t h72
                      refine And.intro rfl (Exists.intro _ (And.intro (by decide) (qx_M_mono (ex (m_benchC h_σ4 g e8_σ4 hw)) ?_)))
                      rintro _ σ5 ⟨bb, rfl, fσ5⟩
                      refine And.intro (bI_01 _) ?_
                      exact ⟨hf_σ4.tr (fσ5.1), fσ5.2⟩
                  · skip
                    have h55 := bI_t h55
                    exact absurd (h55.symm.trans (d5)) (by decide)
                · skip
                  have h39 := bI_t h39
                  exact absurd (h39.symm.trans (d0)) (by decide)
              · skip
                have h22 := nI_eqT (a := s_n D 0) (b := 0) (by omega) (by decide) h22
                exact absurd h22 z
            · skip
              have h7 := bI_t h7
              exact absurd (h7.symm.trans (d12)) (by decide)
          · have d13 : decide (q_kd T p = 300 + 13) = false := decide_eq_false (by omega)
            rw [if_neg k13]
            refine qx_M_in rfl (Nat.le_of_ble_eq_true rfl) ?_
            refine qy_wp_ok (c := CX12_countryLineHere) (cuts := []) vX12_countryLineHere wX12_countryLineHere 2000 0 _ _ _ ?_
            refine Exists.intro (lN 123610792682867) (And.intro (by decide) ?_)
            refine And.intro rfl (Exists.intro _ (And.intro (by decide) (qx_M_mono (m_isWordC h 12 (by decide)) ?_)))
            rintro _ σ1 ⟨rfl, fσ1, afσ1, gfσ1⟩
            have hf_σ1 : ql lC σ σ1 := hf.tr (fσ1.mn (by decide))
            have h_σ1 : mC σ1 T p D := afσ1
            have e8_σ1 : qx_mi σ1 197 8 = nI p := gfσ1
            refine And.intro (fun h7 => ?_) (fun h7 => ?_)
            · skip
              have h7 := bI_f h7
              refine And.intro rfl (Exists.intro 203 (And.intro rfl ?_))
              refine Exists.intro (nI 0) (And.intro rfl ?_)
              refine Exists.intro (0) (Exists.intro (nI (s_n D 0)) (And.intro rfl (And.intro ⟨148, rfl, by decide, by decide⟩ (And.intro (ec _ afσ1) ?_))))
              refine And.intro (fun h22 => ?_) (fun h22 => ?_)
              · skip
                have h22 := nI_neT (a := s_n D 0) (b := 0) (by omega) (by decide) h22
                refine Exists.intro (lN 123581014175598) (And.intro (by decide) ?_)
                refine And.intro rfl (Exists.intro _ (And.intro (by decide) (qx_M_mono (m_isWordC h_σ1 0 (by decide)) ?_)))
                rintro _ σ2 ⟨rfl, fσ2, afσ2, gfσ2⟩
                have hf_σ2 : ql lC σ σ2 := hf_σ1.tr (fσ2.mn (by decide))
                have h_σ2 : mC σ2 T p D := afσ2
                have e8_σ2 : qx_mi σ2 197 8 = nI p := gfσ2
                refine And.intro (fun h39 => ?_) (fun h39 => ?_)
                · skip
                  have h39 := bI_f h39
                  refine Exists.intro (lN 2003399528) (And.intro (by decide) ?_)
                  refine And.intro rfl (Exists.intro _ (And.intro (by decide) (qx_M_mono (m_isWordC h_σ2 5 (by decide)) ?_)))
                  rintro _ σ3 ⟨rfl, fσ3, afσ3, gfσ3⟩
                  have hf_σ3 : ql lC σ σ3 := hf_σ2.tr (fσ3.mn (by decide))
                  have h_σ3 : mC σ3 T p D := afσ3
                  have e8_σ3 : qx_mi σ3 197 8 = nI p := gfσ3
                  refine And.intro (fun h55 => ?_) (fun h55 => ?_)
                  · skip
                    have h55 := bI_f h55
                    refine Exists.intro (lN 422608528232) (And.intro (by decide) ?_)
                    refine And.intro rfl (Exists.intro _ (And.intro (by decide) (qx_M_mono (m_isWordC h_σ3 13 (by decide)) ?_)))
                    rintro _ σ4 ⟨rfl, fσ4, afσ4, gfσ4⟩
                    have hf_σ4 : ql lC σ σ4 := hf_σ3.tr (fσ4.mn (by decide))
                    have h_σ4 : mC σ4 T p D := afσ4
                    have e8_σ4 : qx_mi σ4 197 8 = nI p := gfσ4
                    refine And.intro (fun h72 => ?_) (fun h72 => ?_)
                    · skip
                      have h72 := bI_f h72
                      refine And.intro rfl (Exists.intro _ (And.intro (by decide) (qx_M_mono (ex (m_callC h_σ4 g e8_σ4 hw)) ?_)))
                      rintro _ σ5 ⟨bb, rfl, fσ5⟩
                      refine And.intro (bI_01 _) ?_
                      exact ⟨hf_σ4.tr (fσ5.1), fσ5.2⟩
                    · skip
                      have h72 := bI_t h72
                      exact absurd (h72.symm.trans (d13)) (by decide)
                  · skip
                    have h55 := bI_t h55
                    exact absurd (h55.symm.trans (d5)) (by decide)
                · skip
                  have h39 := bI_t h39
                  exact absurd (h39.symm.trans (d0)) (by decide)
              · skip
                have h22 := nI_eqT (a := s_n D 0) (b := 0) (by omega) (by decide) h22
                exact absurd h22 z
            · skip
              have h7 := bI_t h7
              exact absurd (h7.symm.trans (d12)) (by decide)
/-- does a clause begin so? -/
def q_cbg (k : Nat) : Bool := decide (k = 312 ∨ k = 300 ∨ k = 305 ∨ k = 313 ∨ k = 314)
theorem m_isCW {G : qx_G} {σ : qx_S} {T : q_T} {p : Nat} {D : qS} (h : mC σ T p D) : qx_M G qc_T 2 YX12_isCountryWord [.ref 197] σ (fun r s' => r = some (.int (bI (q_cbg (q_kd T p)))) ∧ ql [(197, some 8)] σ s' ∧ mC s' T p D) := by
  have hf : ql [(197, some 8)] σ σ := qf.rf
  have yes : ∀ j, j = 12 ∨ j = 0 ∨ j = 5 ∨ j = 13 ∨ j = 14 → decide (q_kd T p = 300 + j) = true → bI true = bI (q_cbg (q_kd T p)) := by
    intro j hj z
    have z := of_decide_eq_true z
    exact congrArg bI (decide_eq_true (p := q_kd T p = 312 ∨ _) (by omega)).symm
  refine qx_M_in rfl (Nat.le_of_ble_eq_true rfl) ?_
  refine qy_wp_ok (c := CX12_isCountryWord) (cuts := []) vX12_isCountryWord wX12_isCountryWord 2000 0 _ _ _ ?_
  refine Exists.intro (lN 123610792682867) (And.intro (by decide) ?_)
  refine And.intro rfl (Exists.intro _ (And.intro (by decide) (qx_M_mono (m_isWordC h 12 (by decide)) ?_)))
  rintro _ σ1 ⟨rfl, fσ1, afσ1, gfσ1⟩
  have hf_σ1 : ql [(197, some 8)] σ σ1 := hf.tr (fσ1.mn (by decide))
  have h_σ1 : mC σ1 T p D := afσ1
  refine And.intro (fun h7 => ?_) (fun h7 => ?_)
  · skip
    have h7 := bI_t h7
    refine Exists.intro (nI 1) (And.intro rfl ?_)
    refine And.intro (Or.inr rfl) ?_
    refine ⟨congrArg (fun z => some (Value.int z)) ?_, hf_σ1, h_σ1⟩
    first | exact yes 12 (by omega) h7 | exact yes 0 (by omega) h17 | exact yes 5 (by omega) h27 | exact yes 13 (by omega) h37 | exact yes 14 (by omega) h47 | exact congrArg bI (decide_eq_false (p := q_kd T p = 312 ∨ _) (by have a1 := of_decide_eq_false h7; have a2 := of_decide_eq_false h17; have a3 := of_decide_eq_false h27; have a4 := of_decide_eq_false h37; have a5 := of_decide_eq_false h47; omega)).symm
  · skip
    have h7 := bI_f h7
    refine Exists.intro (lN 123581014175598) (And.intro (by decide) ?_)
    refine And.intro rfl (Exists.intro _ (And.intro (by decide) (qx_M_mono (m_isWordC h_σ1 0 (by decide)) ?_)))
    rintro _ σ2 ⟨rfl, fσ2, afσ2, gfσ2⟩
    have hf_σ2 : ql [(197, some 8)] σ σ2 := hf_σ1.tr (fσ2.mn (by decide))
    have h_σ2 : mC σ2 T p D := afσ2
    refine And.intro (fun h17 => ?_) (fun h17 => ?_)
    · skip
      have h17 := bI_t h17
      refine Exists.intro (nI 1) (And.intro rfl ?_)
      refine And.intro (Or.inr rfl) ?_
      refine ⟨congrArg (fun z => some (Value.int z)) ?_, hf_σ2, h_σ2⟩
      first | exact yes 12 (by omega) h7 | exact yes 0 (by omega) h17 | exact yes 5 (by omega) h27 | exact yes 13 (by omega) h37 | exact yes 14 (by omega) h47 | exact congrArg bI (decide_eq_false (p := q_kd T p = 312 ∨ _) (by have a1 := of_decide_eq_false h7; have a2 := of_decide_eq_false h17; have a3 := of_decide_eq_false h27; have a4 := of_decide_eq_false h37; have a5 := of_decide_eq_false h47; omega)).symm
    · skip
      have h17 := bI_f h17
      refine Exists.intro (lN 2003399528) (And.intro (by decide) ?_)
      refine And.intro rfl (Exists.intro _ (And.intro (by decide) (qx_M_mono (m_isWordC h_σ2 5 (by decide)) ?_)))
      rintro _ σ3 ⟨rfl, fσ3, afσ3, gfσ3⟩
      have hf_σ3 : ql [(197, some 8)] σ σ3 := hf_σ2.tr (fσ3.mn (by decide))
      have h_σ3 : mC σ3 T p D := afσ3
      refine And.intro (fun h27 => ?_) (fun h27 => ?_)
      · skip
        have h27 := bI_t h27
        refine Exists.intro (nI 1) (And.intro rfl ?_)
        refine And.intro (Or.inr rfl) ?_
        refine ⟨congrArg (fun z => some (Value.int z)) ?_, hf_σ3, h_σ3⟩
        first | exact yes 12 (by omega) h7 | exact yes 0 (by omega) h17 | exact yes 5 (by omega) h27 | exact yes 13 (by omega) h37 | exact yes 14 (by omega) h47 | exact congrArg bI (decide_eq_false (p := q_kd T p = 312 ∨ _) (by have a1 := of_decide_eq_false h7; have a2 := of_decide_eq_false h17; have a3 := of_decide_eq_false h27; have a4 := of_decide_eq_false h37; have a5 := of_decide_eq_false h47; omega)).symm
      · skip
        have h27 := bI_f h27
        refine Exists.intro (lN 422608528232) (And.intro (by decide) ?_)
        refine And.intro rfl (Exists.intro _ (And.intro (by decide) (qx_M_mono (m_isWordC h_σ3 13 (by decide)) ?_)))
        rintro _ σ4 ⟨rfl, fσ4, afσ4, gfσ4⟩
        have hf_σ4 : ql [(197, some 8)] σ σ4 := hf_σ3.tr (fσ4.mn (by decide))
        have h_σ4 : mC σ4 T p D := afσ4
        refine And.intro (fun h37 => ?_) (fun h37 => ?_)
        · skip
          have h37 := bI_t h37
          refine Exists.intro (nI 1) (And.intro rfl ?_)
          refine And.intro (Or.inr rfl) ?_
          refine ⟨congrArg (fun z => some (Value.int z)) ?_, hf_σ4, h_σ4⟩
          first | exact yes 12 (by omega) h7 | exact yes 0 (by omega) h17 | exact yes 5 (by omega) h27 | exact yes 13 (by omega) h37 | exact yes 14 (by omega) h47 | exact congrArg bI (decide_eq_false (p := q_kd T p = 312 ∨ _) (by have a1 := of_decide_eq_false h7; have a2 := of_decide_eq_false h17; have a3 := of_decide_eq_false h27; have a4 := of_decide_eq_false h37; have a5 := of_decide_eq_false h47; omega)).symm
        · skip
          have h37 := bI_f h37
          refine Exists.intro (lN 1667329132) (And.intro (by decide) ?_)
          refine And.intro rfl (Exists.intro _ (And.intro (by decide) (qx_M_mono (m_isWordC h_σ4 14 (by decide)) ?_)))
          rintro _ σ5 ⟨rfl, fσ5, afσ5, gfσ5⟩
          have hf_σ5 : ql [(197, some 8)] σ σ5 := hf_σ4.tr (fσ5.mn (by decide))
          have h_σ5 : mC σ5 T p D := afσ5
          refine And.intro (fun h47 => ?_) (fun h47 => ?_)
          · skip
            have h47 := bI_f h47
            refine Exists.intro (nI 0) (And.intro rfl ?_)
            refine And.intro (Or.inl rfl) ?_
            refine ⟨congrArg (fun z => some (Value.int z)) ?_, hf_σ5, h_σ5⟩
            first | exact yes 12 (by omega) h7 | exact yes 0 (by omega) h17 | exact yes 5 (by omega) h27 | exact yes 13 (by omega) h37 | exact yes 14 (by omega) h47 | exact congrArg bI (decide_eq_false (p := q_kd T p = 312 ∨ _) (by have a1 := of_decide_eq_false h7; have a2 := of_decide_eq_false h17; have a3 := of_decide_eq_false h27; have a4 := of_decide_eq_false h37; have a5 := of_decide_eq_false h47; omega)).symm
          · skip
            have h47 := bI_t h47
            refine Exists.intro (nI 1) (And.intro rfl ?_)
            refine And.intro (Or.inr rfl) ?_
            refine ⟨congrArg (fun z => some (Value.int z)) ?_, hf_σ5, h_σ5⟩
            first | exact yes 12 (by omega) h7 | exact yes 0 (by omega) h17 | exact yes 5 (by omega) h27 | exact yes 13 (by omega) h37 | exact yes 14 (by omega) h47 | exact congrArg bI (decide_eq_false (p := q_kd T p = 312 ∨ _) (by have a1 := of_decide_eq_false h7; have a2 := of_decide_eq_false h17; have a3 := of_decide_eq_false h27; have a4 := of_decide_eq_false h37; have a5 := of_decide_eq_false h47; omega)).symm
def q_k1 (T : q_T) (p : Nat) (D : qS) (ln : Nat) : Except Nat (Nat × qS) := if q_cbg (q_kd T p) = false then .error (1 + 8 * p + 0) else if ln = 48 then .error (1 + 8 * p + 4) else q_ln T p D
abbrev lC3 : List (Nat × Option Nat) := [(197, some 8), (197, some 9), (197, some 10), (203, none), (197, some 14)]
def rC3 (σ s' : qx_S) (T : q_T) (ln : Nat) (x : Except Nat (Nat × qS)) (r : Option Value) : Prop := ql lC3 σ s' ∧ (match x with
  | .error f => r = some (.int (bI false)) ∧ qx_mi s' 197 9 = nI f
  | .ok y => r = some (.int (bI true)) ∧ mC s' T y.1 y.2 ∧ qx_mi s' 197 14 = nI (ln + 1))
theorem m_clauseC {G : qx_G} {σ : qx_S} {T : q_T} {p ln : Nat} {D : qS} (h : mC σ T p D) (g : gD D) (e11 : qx_mi σ 197 11 = nI 6) (e14 : qx_mi σ 197 14 = nI ln) (hln : ln ≤ 48) : qx_M G qc_T 5 YX12_clauseHere [.ref 197] σ (fun r s' => rC3 σ s' T ln (q_k1 T p D ln) r) := by
  obtain ⟨hsk, hle, h400, hb⟩ := h.sk
  unfold q_k1
  cases hc : q_cbg (q_kd T p) with
  | false =>
    rw [if_pos rfl]
    have mi := fun σ1 (a : mC σ1 T p D) => m_isCW (G := G) a
    rw [hc] at mi
    refine qx_M_in rfl (Nat.le_of_ble_eq_true rfl) ?_
    refine qy_wp_ok (c := CX12_clauseHere) (cuts := []) vX12_clauseHere wX12_clauseHere 2000 0 _ _ _ ?_
    refine And.intro rfl (Exists.intro _ (And.intro (by decide) (qx_M_mono (m_seeC h) ?_)))
    rintro _ σ1 ⟨rfl, fσ1, aσ1, gσ1⟩
    refine And.intro rfl (Exists.intro 8 (Exists.intro (nI p) (And.intro rfl (And.intro gσ1 ?_))))
    refine And.intro rfl (Exists.intro 11 (Exists.intro (nI 6) (And.intro rfl (And.intro ((fσ1.i _ _ rfl).trans (e11)) ?_))))
    refine Exists.intro (nI 6) (And.intro rfl ?_)
    refine And.intro (fun h16 => ?_) (fun h16 => ?_)
    · skip
      exact absurd (by decide) h16
    · skip
      refine Exists.intro (nI 1) (And.intro rfl ?_)
      refine And.intro (fun h26 => ?_) (fun h26 => ?_)
      · skip
        exact absurd h26 (by decide)
      · skip
        refine And.intro rfl (Exists.intro _ (And.intro (by decide) (qx_M_mono (mi _ aσ1) ?_)))
        rintro _ σ2 ⟨rfl, fσ2, aσ2⟩
        refine And.intro (fun h33 => ?_) (fun h33 => ?_)
        · skip
          have h33 := bI_t h33
          exact absurd (h33.symm.trans (rfl)) (by decide)
        · skip
          have h33 := bI_f h33
          refine Exists.intro (nI 0) (And.intro rfl ?_)
          refine And.intro rfl (Exists.intro _ (And.intro (by decide) (qx_M_mono (m_fails aσ2.2.1) ?_)))
          rintro _ σ3 ⟨rfl, fσ3, gσ3⟩
          refine And.intro (bI_01 _) ?_
          exact ⟨(fσ1.mn (by decide)).tr ((fσ2.mn (by decide)).tr (fσ3.mn (by decide))), rfl, gσ3⟩
  | true =>
    rw [if_neg (by decide)]
    have mi := fun σ1 (a : mC σ1 T p D) => m_isCW (G := G) a
    rw [hc] at mi
    have hw : 300 ≤ q_kd T p ∧ q_kd T p < 999 := by
      have := of_decide_eq_true hc
      omega
    by_cases n48 : ln = 48
    · rw [if_pos n48]
      refine qx_M_in rfl (Nat.le_of_ble_eq_true rfl) ?_
      refine qy_wp_ok (c := CX12_clauseHere) (cuts := [91]) vX12_clauseHere wX12_clauseHere 2000 0 _ _ _ ?_
      refine And.intro rfl (Exists.intro _ (And.intro (by decide) (qx_M_mono (m_seeC h) ?_)))
      rintro _ σ1 ⟨rfl, fσ1, aσ1, gσ1⟩
      refine And.intro rfl (Exists.intro 8 (Exists.intro (nI p) (And.intro rfl (And.intro gσ1 ?_))))
      refine And.intro rfl (Exists.intro 11 (Exists.intro (nI 6) (And.intro rfl (And.intro ((fσ1.i _ _ rfl).trans (e11)) ?_))))
      refine Exists.intro (nI 6) (And.intro rfl ?_)
      refine And.intro (fun h16 => ?_) (fun h16 => ?_)
      · skip
        exact absurd (by decide) h16
      · skip
        refine Exists.intro (nI 1) (And.intro rfl ?_)
        refine And.intro (fun h26 => ?_) (fun h26 => ?_)
        · skip
          exact absurd h26 (by decide)
        · skip
          refine And.intro rfl (Exists.intro _ (And.intro (by decide) (qx_M_mono (mi _ aσ1) ?_)))
          rintro _ σ2 ⟨rfl, fσ2, aσ2⟩
          refine And.intro (fun h33 => ?_) (fun h33 => ?_)
          · skip
            have h33 := bI_t h33
            refine And.intro rfl (Exists.intro 14 (Exists.intro (nI ln) (And.intro rfl (And.intro ((fσ2.i _ _ rfl).trans ((fσ1.i _ _ rfl).trans (e14))) ?_))))
            refine And.intro (fun h71 => ?_) (fun h71 => ?_)
            · skip
              exact absurd h71 (by decide)
            · skip
              refine Exists.intro (nI 48) (And.intro rfl ?_)
              refine And.intro (fun h81 => ?_) (fun h81 => ?_)
              · skip
                have h81 := nI_neT (a := ln) (b := 48) (by omega) (by decide) h81
                exact absurd n48 h81
              · skip
                have h81 := nI_eqT (a := ln) (b := 48) (by omega) (by decide) h81
                refine Exists.intro (nI 4) (And.intro rfl ?_)
                refine And.intro rfl (Exists.intro _ (And.intro (by decide) (qx_M_mono (m_fails aσ2.2.1) ?_)))
                rintro _ σ3 ⟨rfl, fσ3, gσ3⟩
                refine And.intro (bI_01 _) ?_
                exact ⟨(fσ1.mn (by decide)).tr ((fσ2.mn (by decide)).tr (fσ3.mn (by decide))), rfl, gσ3⟩
          · skip
            have h33 := bI_f h33
            exact absurd (h33.symm.trans (rfl)) (by decide)
    · rw [if_neg n48]
      have ml : ∀ σ1, mC σ1 T p D → qx_M G qc_T 4 YX12_countryLineHere [.ref 197, .int (nI p)] σ1 (fun r s' => ∃ b, r = some (.int (bI b)) ∧ rC2 σ1 s' T (q_ln T p D) r) := fun σ1 a => qx_M_mono (m_lineC a g hw) (fun r s' z => ⟨_, rC2_b z, z⟩)
      have fin : ∀ σ1 s' r, ql lC3 σ σ1 → qx_mi σ1 197 14 = nI (ln + 1) → rC2 σ1 s' T (q_ln T p D) r → rC3 σ s' T ln (q_ln T p D) r := by
        intro σ1 s' r f1 e z
        obtain ⟨z1, z2⟩ := z
        refine ⟨f1.tr (z1.mn (by decide)), ?_⟩
        revert z2
        cases q_ln T p D with
        | error f => exact fun z2 => z2
        | ok y => exact fun z2 => ⟨z2.1, z2.2, (z1.i _ _ rfl).trans e⟩
      refine qx_M_in rfl (Nat.le_of_ble_eq_true rfl) ?_
      refine qy_wp_ok (c := CX12_clauseHere) (cuts := [84]) vX12_clauseHere wX12_clauseHere 2000 0 _ _ _ ?_
      refine And.intro rfl (Exists.intro _ (And.intro (by decide) (qx_M_mono (m_seeC h) ?_)))
      rintro _ σ1 ⟨rfl, fσ1, aσ1, gσ1⟩
      refine And.intro rfl (Exists.intro 8 (Exists.intro (nI p) (And.intro rfl (And.intro gσ1 ?_))))
      refine And.intro rfl (Exists.intro 11 (Exists.intro (nI 6) (And.intro rfl (And.intro ((fσ1.i _ _ rfl).trans (e11)) ?_))))
      refine Exists.intro (nI 6) (And.intro rfl ?_)
      refine And.intro (fun h16 => ?_) (fun h16 => ?_)
      · skip
        exact absurd (by decide) h16
      · skip
        refine Exists.intro (nI 1) (And.intro rfl ?_)
        refine And.intro (fun h26 => ?_) (fun h26 => ?_)
        · skip
          exact absurd h26 (by decide)
        · skip
          refine And.intro rfl (Exists.intro _ (And.intro (by decide) (qx_M_mono (mi _ aσ1) ?_)))
          rintro _ σ2 ⟨rfl, fσ2, aσ2⟩
          refine And.intro (fun h33 => ?_) (fun h33 => ?_)
          · skip
            have h33 := bI_t h33
            refine And.intro rfl (Exists.intro 14 (Exists.intro (nI ln) (And.intro rfl (And.intro ((fσ2.i _ _ rfl).trans ((fσ1.i _ _ rfl).trans (e14))) ?_))))
            refine And.intro (fun h71 => ?_) (fun h71 => ?_)
            · skip
              exact absurd h71 (by decide)
            · skip
              refine Exists.intro (nI 48) (And.intro rfl ?_)
              refine And.intro (fun h81 => ?_) (fun h81 => ?_)
              · skip
                have h81 := nI_neT (a := ln) (b := 48) (by omega) (by decide) h81
                refine And.intro rfl (Exists.intro 14 (Exists.intro (nI ln) (And.intro rfl (And.intro ((fσ2.i _ _ rfl).trans ((fσ1.i _ _ rfl).trans (e14))) ?_))))
                refine Exists.intro (nI 1) (And.intro rfl ?_)
                refine Exists.intro (nI (ln + 1)) (And.intro (nI_add _ _) ?_)
                obtain ⟨σ3, eσ3⟩ : ∃ zs, zs = (qx_wi σ2 197 14 (nI (ln + 1))) := ⟨_, rfl⟩
                have fσ3 := qn_wif eσ3
                refine And.intro rfl (Exists.intro 14 (Exists.intro σ3 (And.intro rfl (And.intro eσ3.symm ?_))))
                refine And.intro (fun h102 => ?_) (fun h102 => ?_)
                · skip
                  exact absurd h102 (by decide)
                · skip
                  refine And.intro rfl (Exists.intro _ (And.intro (by decide) (qx_M_mono (ml _ (aσ2.fr fσ3 (by decide))) ?_)))
                  rintro _ σ4 ⟨bb, rfl, fσ4⟩
                  refine And.intro (bI_01 _) ?_
                  exact fin _ _ _ ((fσ1.mn (by decide)).tr ((fσ2.mn (by decide)).tr (fσ3.mn (by decide)))) (qn_eq eσ3) fσ4
              · skip
                have h81 := nI_eqT (a := ln) (b := 48) (by omega) (by decide) h81
                refine qx_K_le (ls := [.ref 197, .int (nI p), .retAddr 0]) ⟨Or.inr rfl, Or.inr rfl, Or.inl rfl, trivial⟩ ?_
                exact absurd h81 n48
          · skip
            have h33 := bI_f h33
            exact absurd (h33.symm.trans (rfl)) (by decide)

