/-! THE REFERENCE: tested -/
/-- what reading of a test answers -/
def rT (σ0 s' : qx_S) (Z : Nat → Int32) (T : q_T) (t : Nat) (x : q_X) (r : Option Value) : Prop := ql lF σ0 s' ∧ (match x with
  | .error f => r = some (.int (bI false)) ∧ qx_mi s' 197 9 = nI f ∧ ∀ j, j < 400 * t → qx_mi s' 199 j = Z j
  | .ok st => r = some (.int (bI true)) ∧ mP s' Z T t st)
theorem l_tsB {G : qx_G} {σ0 σ : qx_S} {Z : Nat → Int32} {T : q_T} {t : Nat} {X : q_X} {s : q_P} {st : List Nat} (hS : rS σ Z T t s st) (hX : q_C T st s = X) (hi3 : q_kd T s.1 = 93 → 91 ∉ st) (hn8 : qx_mi σ 197 8 = nI s.1) (hf : ql lF σ0 σ)
    (ih : ∀ (σ1 : qx_S) (s1 : q_P) (st1 : List Nat), s.1 < s1.1 → rS σ1 Z T t s1 st1 → q_bd (q_Fd T st1 s1) (q_C T st1) = X → ql lF σ0 σ1 → qx_K G qc_T 8 RX12 YX12_tested 12 [.ref 197, .int (nI 1), .retAddr 0] [] σ1 (fun r s' => rT σ0 s' Z T t X r)) :
    qx_K G qc_T 8 RX12 YX12_tested 29 [.ref 197, .retAddr 0, .retAddr 0] [] σ (fun r s' => rT σ0 s' Z T t X r) := by
  obtain ⟨h, k, hw, hb, hd⟩ := id hS
  obtain ⟨hsk, hle, h400, hby⟩ := h.sk
  by_cases ka : q_kd T s.1 = 319
  · have hlt := q_kd_lt (T := T) (p := s.1) (by omega)
    have hnx := q_nx_gt hlt
    have ed : decide (q_kd T s.1 = 300 + 19) = true := decide_eq_true (by omega)
    obtain ⟨y1, y2, y3, y4⟩ := q_stl_1 2 st s
    obtain ⟨c1, c2⟩ := q_stl_2 (T := T) st s hw
    have ms : ∀ σ1, mP σ1 Z T t (q_pas T s) → mKs σ1 st → qx_M G qc_T 1 YX12_settles [.ref 197, .int (nI 2)] σ1 (fun r s' => r = none ∧ ql lF σ1 s' ∧ mP s' Z T t (q_pas T (q_stl 2 st s).2) ∧ mKs s' (q_stl 2 st s).1 ∧ qx_mi s' 197 8 = qx_mi σ1 197 8) := by
      intro σ1 a b
      have := m_settles (G := G) (l := 2) (by omega) hw a b (show s.2.1 + st.length ≤ q_nx T s.1 by omega)
      rw [q_stl_pas] at this
      exact this
    obtain ⟨x, ex⟩ : ∃ x, x = q_stl 2 st s := ⟨_, rfl⟩
    have d1 := q_dp_stl 2 st s
    rw [← ex] at y1 y2 y4 c1 c2 d1 ms
    obtain ⟨st1, s1⟩ := x
    have y1 : s1.1 = s.1 := y1
    have y2 : s1.2.1 + st1.length = s.2.1 + st.length := y2
    have y4 : wS st1 := y4 hw
    have c1 : q_C T st1 s1 = q_C T st s := c1
    have c2 : q_tp st1 = 91 ∨ q_tp st1 = 13 := c2
    have d1 : q_dp st1 ≤ q_dp st := d1
    have hX1 : q_bd (q_Fd T (12 :: st1) (q_pas T s1)) (q_C T (12 :: st1)) = X := by
      rw [← q_C_and y4 c2 (by rw [y1]; exact ka), c1]
      exact hX
    have hgt : s.1 < (q_pas T s1).1 := by show s.1 < q_nx T s1.1; rw [y1]; exact hnx.1
    have hw2 : wS (12 :: st1) := ⟨y4, by omega, fun z => absurd z (by decide), fun _ => c2⟩
    have hb2 : (q_pas T s1).2.1 + (12 :: st1).length ≤ (q_pas T s1).1 := by
      show s1.2.1 + (st1.length + 1) ≤ q_nx T s1.1
      rw [y1]
      omega
    refine qy_wp_ok (c := CX12_tested) (cuts := [12]) vX12_tested wX12_tested 2000 29 _ _ _ ?_
    refine Exists.intro (lN 6385252) (And.intro (by decide) ?_)
    refine And.intro rfl (Exists.intro _ (And.intro (by decide) (qx_M_mono (m_isWordP h 19 (by decide)) ?_)))
    rintro _ σ1 ⟨rfl, fσ1, afσ1, gfσ1⟩
    have hf_σ1 : ql lF σ0 σ1 := hf.tr (fσ1.mn (by decide))
    have h_σ1 : mP σ1 Z T t s := afσ1
    have k_σ1 : mKs σ1 st := k.fr fσ1 rfl rfl (fun _ => rfl)
    have e8_σ1 : qx_mi σ1 197 8 = nI s.1 := gfσ1
    refine And.intro (fun h36 => ?_) (fun h36 => ?_)
    · skip
      have h36 := bI_t h36
      refine Exists.intro (nI 1) (And.intro rfl ?_)
      refine And.intro (fun h56 => ?_) (fun h56 => ?_)
      · skip
        exact absurd h56 (by decide)
      · skip
        refine Exists.intro (lN 6385252) (And.intro (by decide) ?_)
        refine And.intro rfl (Exists.intro _ (And.intro (by decide) (qx_M_mono (m_isWordP h_σ1 19 (by decide)) ?_)))
        rintro _ σ2 ⟨rfl, fσ2, afσ2, gfσ2⟩
        have hf_σ2 : ql lF σ0 σ2 := hf_σ1.tr (fσ2.mn (by decide))
        have h_σ2 : mP σ2 Z T t s := afσ2
        have k_σ2 : mKs σ2 st := k_σ1.fr fσ2 rfl rfl (fun _ => rfl)
        have e8_σ2 : qx_mi σ2 197 8 = nI s.1 := gfσ2
        refine And.intro (fun h66 => ?_) (fun h66 => ?_)
        · skip
          have h66 := bI_f h66
          exact absurd (h66.symm.trans (ed)) (by decide)
        · skip
          have h66 := bI_t h66
          refine Exists.intro (nI 12) (And.intro rfl ?_)
          refine And.intro rfl (Exists.intro _ (And.intro (by decide) (qx_M_mono (m_passP h_σ2 e8_σ2 (by omega)) ?_)))
          rintro _ σ3 ⟨rfl, fσ3, aσ3⟩
          have hf_σ3 : ql lF σ0 σ3 := hf_σ2.tr (fσ3.mn (by decide))
          have k_σ3 : mKs σ3 st := k_σ2.fr fσ3 rfl rfl (fun _ => rfl)
          refine Exists.intro _ (And.intro (by decide) (qx_M_mono (m_strength (by decide)) ?_))
          rintro _ _ ⟨rfl, rfl⟩
          refine And.intro rfl (Exists.intro _ (And.intro (by decide) (qx_M_mono (ms _ aσ3 k_σ3) ?_)))
          rintro _ σ4 ⟨rfl, fσ4, aσ4, kσ4, gσ4⟩
          have hf_σ4 : ql lF σ0 σ4 := hf_σ3.tr (fσ4.mn (by decide))
          refine And.intro rfl (Exists.intro 204 (And.intro rfl ?_))
          refine And.intro rfl (Exists.intro 16 (Exists.intro (nI st1.length) (And.intro rfl (And.intro kσ4.1 ?_))))
          obtain ⟨σ5, eσ5⟩ : ∃ zs, zs = (qx_wi σ4 204 st1.length (nI 12)) := ⟨_, rfl⟩
          have fσ5 := qn_wi eσ5
          refine Exists.intro (st1.length) (Exists.intro σ5 (And.intro rfl (And.intro ⟨400, rfl, by omega, by decide⟩ (And.intro eσ5.symm ?_))))
          have hf_σ5 : ql lF σ0 σ5 := hf_σ4.tr (fσ5.mn (by decide))
          refine And.intro rfl (Exists.intro 16 (Exists.intro (nI st1.length) (And.intro rfl (And.intro ((fσ5.i _ _ rfl).trans (kσ4.1)) ?_))))
          refine Exists.intro (nI 1) (And.intro rfl ?_)
          refine Exists.intro (nI (st1.length + 1)) (And.intro (nI_add _ _) ?_)
          obtain ⟨σ6, eσ6⟩ : ∃ zs, zs = (qx_wi σ5 197 16 (nI (st1.length + 1))) := ⟨_, rfl⟩
          have fσ6 := qn_wif eσ6
          refine And.intro rfl (Exists.intro 16 (Exists.intro σ6 (And.intro rfl (And.intro eσ6.symm ?_))))
          have hf_σ6 : ql lF σ0 σ6 := hf_σ5.tr (fσ6.mn (by decide))
          refine qx_K_le (ls := [.ref 197, .int (nI 1), .retAddr 0]) ⟨Or.inr rfl, Or.inr rfl, Or.inl rfl, trivial⟩ ?_
          exact ih _ _ _ hgt ⟨(aσ4.fr fσ5 (by decide)).fr fσ6 (by decide), ⟨qn_eq eσ6, ((fσ6.i _ _ rfl).trans ((fσ5.i _ _ rfl).trans kσ4.2.1)).trans (congrArg nI q_dp_a.symm), (fσ6.i _ _ rfl).trans (qn_eq eσ5), mKs1.fr fσ6 (fun _ => rfl) st1 (mKs1.up eσ5 st1 (Nat.le_refl _) kσ4.2.2)⟩, hw2, hb2, by rw [q_dp_a]; omega⟩ hX1 hf_σ6
    · skip
      have h36 := bI_f h36
      exact absurd (h36.symm.trans (ed)) (by decide)
  · have ed : decide (q_kd T s.1 = 300 + 19) = false := decide_eq_false (by omega)
    by_cases ko : q_kd T s.1 = 318
    · have hlt := q_kd_lt (T := T) (p := s.1) (by omega)
      have hnx := q_nx_gt hlt
      have eo : decide (q_kd T s.1 = 300 + 18) = true := decide_eq_true (by omega)
      obtain ⟨y1, y2, y3, y4⟩ := q_stl_1 1 st s
      obtain ⟨c1, c2, -, -⟩ := q_stl_all (T := T) st s hw ka
      have ms : ∀ σ1, mP σ1 Z T t (q_pas T s) → mKs σ1 st → qx_M G qc_T 1 YX12_settles [.ref 197, .int (nI 1)] σ1 (fun r s' => r = none ∧ ql lF σ1 s' ∧ mP s' Z T t (q_pas T (q_stl 1 st s).2) ∧ mKs s' (q_stl 1 st s).1 ∧ qx_mi s' 197 8 = qx_mi σ1 197 8) := by
        intro σ1 a b
        have := m_settles (G := G) (l := 1) (by omega) hw a b (show s.2.1 + st.length ≤ q_nx T s.1 by omega)
        rw [q_stl_pas] at this
        exact this
      obtain ⟨x, ex⟩ : ∃ x, x = q_stl 1 st s := ⟨_, rfl⟩
      have d1 := q_dp_stl 1 st s
      rw [← ex] at y1 y2 y4 c1 c2 d1 ms
      obtain ⟨st1, s1⟩ := x
      have y1 : s1.1 = s.1 := y1
      have y2 : s1.2.1 + st1.length = s.2.1 + st.length := y2
      have y4 : wS st1 := y4 hw
      have c1 : q_C T st1 s1 = q_C T st s := c1
      have c2 : q_tp st1 = 91 := c2
      have d1 : q_dp st1 ≤ q_dp st := d1
      have hX1 : q_bd (q_Fd T (13 :: st1) (q_pas T s1)) (q_C T (13 :: st1)) = X := by
        rw [← q_C_or y4 c2 (by rw [y1]; exact ko), c1]
        exact hX
      have hgt : s.1 < (q_pas T s1).1 := by show s.1 < q_nx T s1.1; rw [y1]; exact hnx.1
      have hw2 : wS (13 :: st1) := ⟨y4, by omega, fun _ => c2, fun z => absurd z (by decide)⟩
      have hb2 : (q_pas T s1).2.1 + (13 :: st1).length ≤ (q_pas T s1).1 := by
        show s1.2.1 + (st1.length + 1) ≤ q_nx T s1.1
        rw [y1]
        omega
      refine qy_wp_ok (c := CX12_tested) (cuts := [12]) vX12_tested wX12_tested 2000 29 _ _ _ ?_
      refine Exists.intro (lN 6385252) (And.intro (by decide) ?_)
      refine And.intro rfl (Exists.intro _ (And.intro (by decide) (qx_M_mono (m_isWordP h 19 (by decide)) ?_)))
      rintro _ σ1 ⟨rfl, fσ1, afσ1, gfσ1⟩
      have hf_σ1 : ql lF σ0 σ1 := hf.tr (fσ1.mn (by decide))
      have h_σ1 : mP σ1 Z T t s := afσ1
      have k_σ1 : mKs σ1 st := k.fr fσ1 rfl rfl (fun _ => rfl)
      have e8_σ1 : qx_mi σ1 197 8 = nI s.1 := gfσ1
      refine And.intro (fun h36 => ?_) (fun h36 => ?_)
      · skip
        have h36 := bI_t h36
        exact absurd (h36.symm.trans (ed)) (by decide)
      · skip
        have h36 := bI_f h36
        refine Exists.intro (lN 28530) (And.intro (by decide) ?_)
        refine And.intro rfl (Exists.intro _ (And.intro (by decide) (qx_M_mono (m_isWordP h_σ1 18 (by decide)) ?_)))
        rintro _ σ2 ⟨rfl, fσ2, afσ2, gfσ2⟩
        have hf_σ2 : ql lF σ0 σ2 := hf_σ1.tr (fσ2.mn (by decide))
        have h_σ2 : mP σ2 Z T t s := afσ2
        have k_σ2 : mKs σ2 st := k_σ1.fr fσ2 rfl rfl (fun _ => rfl)
        have e8_σ2 : qx_mi σ2 197 8 = nI s.1 := gfσ2
        refine And.intro (fun h46 => ?_) (fun h46 => ?_)
        · skip
          have h46 := bI_f h46
          exact absurd (h46.symm.trans (eo)) (by decide)
        · skip
          have h46 := bI_t h46
          refine Exists.intro (nI 1) (And.intro rfl ?_)
          refine And.intro (fun h56 => ?_) (fun h56 => ?_)
          · skip
            exact absurd h56 (by decide)
          · skip
            refine Exists.intro (lN 6385252) (And.intro (by decide) ?_)
            refine And.intro rfl (Exists.intro _ (And.intro (by decide) (qx_M_mono (m_isWordP h_σ2 19 (by decide)) ?_)))
            rintro _ σ3 ⟨rfl, fσ3, afσ3, gfσ3⟩
            have hf_σ3 : ql lF σ0 σ3 := hf_σ2.tr (fσ3.mn (by decide))
            have h_σ3 : mP σ3 Z T t s := afσ3
            have k_σ3 : mKs σ3 st := k_σ2.fr fσ3 rfl rfl (fun _ => rfl)
            have e8_σ3 : qx_mi σ3 197 8 = nI s.1 := gfσ3
            refine And.intro (fun h66 => ?_) (fun h66 => ?_)
            · skip
              have h66 := bI_f h66
              refine Exists.intro (nI 13) (And.intro rfl ?_)
              refine And.intro rfl (Exists.intro _ (And.intro (by decide) (qx_M_mono (m_passP h_σ3 e8_σ3 (by omega)) ?_)))
              rintro _ σ4 ⟨rfl, fσ4, aσ4⟩
              have hf_σ4 : ql lF σ0 σ4 := hf_σ3.tr (fσ4.mn (by decide))
              have k_σ4 : mKs σ4 st := k_σ3.fr fσ4 rfl rfl (fun _ => rfl)
              refine Exists.intro _ (And.intro (by decide) (qx_M_mono (m_strength (by decide)) ?_))
              rintro _ _ ⟨rfl, rfl⟩
              refine And.intro rfl (Exists.intro _ (And.intro (by decide) (qx_M_mono (ms _ aσ4 k_σ4) ?_)))
              rintro _ σ5 ⟨rfl, fσ5, aσ5, kσ5, gσ5⟩
              have hf_σ5 : ql lF σ0 σ5 := hf_σ4.tr (fσ5.mn (by decide))
              refine And.intro rfl (Exists.intro 204 (And.intro rfl ?_))
              refine And.intro rfl (Exists.intro 16 (Exists.intro (nI st1.length) (And.intro rfl (And.intro kσ5.1 ?_))))
              obtain ⟨σ6, eσ6⟩ : ∃ zs, zs = (qx_wi σ5 204 st1.length (nI 13)) := ⟨_, rfl⟩
              have fσ6 := qn_wi eσ6
              refine Exists.intro (st1.length) (Exists.intro σ6 (And.intro rfl (And.intro ⟨400, rfl, by omega, by decide⟩ (And.intro eσ6.symm ?_))))
              have hf_σ6 : ql lF σ0 σ6 := hf_σ5.tr (fσ6.mn (by decide))
              refine And.intro rfl (Exists.intro 16 (Exists.intro (nI st1.length) (And.intro rfl (And.intro ((fσ6.i _ _ rfl).trans (kσ5.1)) ?_))))
              refine Exists.intro (nI 1) (And.intro rfl ?_)
              refine Exists.intro (nI (st1.length + 1)) (And.intro (nI_add _ _) ?_)
              obtain ⟨σ7, eσ7⟩ : ∃ zs, zs = (qx_wi σ6 197 16 (nI (st1.length + 1))) := ⟨_, rfl⟩
              have fσ7 := qn_wif eσ7
              refine And.intro rfl (Exists.intro 16 (Exists.intro σ7 (And.intro rfl (And.intro eσ7.symm ?_))))
              have hf_σ7 : ql lF σ0 σ7 := hf_σ6.tr (fσ7.mn (by decide))
              refine qx_K_le (ls := [.ref 197, .int (nI 1), .retAddr 0]) ⟨Or.inr rfl, Or.inr rfl, Or.inl rfl, trivial⟩ ?_
              exact ih _ _ _ hgt ⟨(aσ5.fr fσ6 (by decide)).fr fσ7 (by decide), ⟨qn_eq eσ7, ((fσ7.i _ _ rfl).trans ((fσ6.i _ _ rfl).trans kσ5.2.1)).trans (congrArg nI q_dp_o.symm), (fσ7.i _ _ rfl).trans (qn_eq eσ6), mKs1.fr fσ7 (fun _ => rfl) st1 (mKs1.up eσ6 st1 (Nat.le_refl _) kσ5.2.2)⟩, hw2, hb2, by rw [q_dp_o]; omega⟩ hX1 hf_σ7
            · skip
              have h66 := bI_t h66
              exact absurd (h66.symm.trans (ed)) (by decide)
    · have eo : decide (q_kd T s.1 = 300 + 18) = false := decide_eq_false (by omega)
      have mi : ∀ σ1, mKs σ1 st → qx_M G qc_T 0 YX12_isInside [.ref 197] σ1 (qr (bI (decide (91 ∈ st))) σ1) := fun σ1 a => m_isInside (by omega) a hw
      by_cases hi : 91 ∈ st
      · have kin : decide (91 ∈ st) = true := decide_eq_true hi
        rw [q_C_in st s hw hi ka ko (fun z => hi3 z hi)] at hX
        rw [← hX]
        refine qy_wp_ok (c := CX12_tested) (cuts := [16]) vX12_tested wX12_tested 2000 29 _ _ _ ?_
        refine Exists.intro (lN 6385252) (And.intro (by decide) ?_)
        refine And.intro rfl (Exists.intro _ (And.intro (by decide) (qx_M_mono (m_isWordP h 19 (by decide)) ?_)))
        rintro _ σ1 ⟨rfl, fσ1, afσ1, gfσ1⟩
        have hf_σ1 : ql lF σ0 σ1 := hf.tr (fσ1.mn (by decide))
        have h_σ1 : mP σ1 Z T t s := afσ1
        have k_σ1 : mKs σ1 st := k.fr fσ1 rfl rfl (fun _ => rfl)
        have e8_σ1 : qx_mi σ1 197 8 = nI s.1 := gfσ1
        refine And.intro (fun h36 => ?_) (fun h36 => ?_)
        · skip
          have h36 := bI_t h36
          exact absurd (h36.symm.trans (ed)) (by decide)
        · skip
          have h36 := bI_f h36
          refine Exists.intro (lN 28530) (And.intro (by decide) ?_)
          refine And.intro rfl (Exists.intro _ (And.intro (by decide) (qx_M_mono (m_isWordP h_σ1 18 (by decide)) ?_)))
          rintro _ σ2 ⟨rfl, fσ2, afσ2, gfσ2⟩
          have hf_σ2 : ql lF σ0 σ2 := hf_σ1.tr (fσ2.mn (by decide))
          have h_σ2 : mP σ2 Z T t s := afσ2
          have k_σ2 : mKs σ2 st := k_σ1.fr fσ2 rfl rfl (fun _ => rfl)
          have e8_σ2 : qx_mi σ2 197 8 = nI s.1 := gfσ2
          refine And.intro (fun h46 => ?_) (fun h46 => ?_)
          · skip
            have h46 := bI_f h46
            refine Exists.intro (nI 0) (And.intro rfl ?_)
            refine And.intro (fun h56 => ?_) (fun h56 => ?_)
            · skip
              refine And.intro (fun h13 => ?_) (fun h13 => ?_)
              · skip
                refine And.intro rfl (Exists.intro _ (And.intro (by decide) (qx_M_mono (mi _ k_σ2) ?_)))
                rintro _ _ ⟨rfl, rfl⟩
                refine And.intro (fun h116 => ?_) (fun h116 => ?_)
                · skip
                  have h116 := bI_f h116
                  exact absurd (h116.symm.trans (kin)) (by decide)
                · skip
                  have h116 := bI_t h116
                  refine And.intro rfl (Exists.intro _ (And.intro (by decide) (qx_M_mono (m_seeP h_σ2) ?_)))
                  rintro _ σ3 ⟨rfl, fσ3, afσ3, gfσ3⟩
                  have hf_σ3 : ql lF σ0 σ3 := hf_σ2.tr (fσ3.mn (by decide))
                  have h_σ3 : mP σ3 Z T t s := afσ3
                  have k_σ3 : mKs σ3 st := k_σ2.fr fσ3 rfl rfl (fun _ => rfl)
                  have e8_σ3 : qx_mi σ3 197 8 = nI s.1 := gfσ3
                  refine Exists.intro (nI 0) (And.intro rfl ?_)
                  refine And.intro rfl (Exists.intro 8 (Exists.intro (nI s.1) (And.intro rfl (And.intro gfσ3 ?_))))
                  refine And.intro rfl (Exists.intro _ (And.intro (by decide) (qx_M_mono (m_fails h_σ3.2.1) ?_)))
                  rintro _ σ4 ⟨rfl, fσ4, gσ4⟩
                  have hf_σ4 : ql lF σ0 σ4 := hf_σ3.tr (fσ4.mn (by decide))
                  refine And.intro (bI_01 _) ?_
                  exact ⟨hf_σ4, rfl, gσ4, (h_σ3).z fσ4 (fun _ => rfl)⟩
              · skip
                exact absurd (by decide) h13
            · skip
              exact absurd (by decide) h56
          · skip
            have h46 := bI_t h46
            exact absurd (h46.symm.trans (eo)) (by decide)
      · have kin : decide (91 ∈ st) = false := decide_eq_false hi
        obtain ⟨c1, c2⟩ := q_C_out hw hi ka ko
        rw [c1] at hX
        rw [← hX]
        refine qy_wp_ok (c := CX12_tested) (cuts := [16]) vX12_tested wX12_tested 2000 29 _ _ _ ?_
        refine Exists.intro (lN 6385252) (And.intro (by decide) ?_)
        refine And.intro rfl (Exists.intro _ (And.intro (by decide) (qx_M_mono (m_isWordP h 19 (by decide)) ?_)))
        rintro _ σ1 ⟨rfl, fσ1, afσ1, gfσ1⟩
        have hf_σ1 : ql lF σ0 σ1 := hf.tr (fσ1.mn (by decide))
        have h_σ1 : mP σ1 Z T t s := afσ1
        have k_σ1 : mKs σ1 st := k.fr fσ1 rfl rfl (fun _ => rfl)
        have e8_σ1 : qx_mi σ1 197 8 = nI s.1 := gfσ1
        refine And.intro (fun h36 => ?_) (fun h36 => ?_)
        · skip
          have h36 := bI_t h36
          exact absurd (h36.symm.trans (ed)) (by decide)
        · skip
          have h36 := bI_f h36
          refine Exists.intro (lN 28530) (And.intro (by decide) ?_)
          refine And.intro rfl (Exists.intro _ (And.intro (by decide) (qx_M_mono (m_isWordP h_σ1 18 (by decide)) ?_)))
          rintro _ σ2 ⟨rfl, fσ2, afσ2, gfσ2⟩
          have hf_σ2 : ql lF σ0 σ2 := hf_σ1.tr (fσ2.mn (by decide))
          have h_σ2 : mP σ2 Z T t s := afσ2
          have k_σ2 : mKs σ2 st := k_σ1.fr fσ2 rfl rfl (fun _ => rfl)
          have e8_σ2 : qx_mi σ2 197 8 = nI s.1 := gfσ2
          refine And.intro (fun h46 => ?_) (fun h46 => ?_)
          · skip
            have h46 := bI_f h46
            refine Exists.intro (nI 0) (And.intro rfl ?_)
            refine And.intro (fun h56 => ?_) (fun h56 => ?_)
            · skip
              refine And.intro (fun h13 => ?_) (fun h13 => ?_)
              · skip
                refine And.intro rfl (Exists.intro _ (And.intro (by decide) (qx_M_mono (mi _ k_σ2) ?_)))
                rintro _ _ ⟨rfl, rfl⟩
                refine And.intro (fun h116 => ?_) (fun h116 => ?_)
                · skip
                  have h116 := bI_f h116
                  refine Exists.intro (nI 1) (And.intro rfl ?_)
                  refine And.intro rfl (Exists.intro _ (And.intro (by decide) (qx_M_mono (m_settles (l := 1) (by omega) hw h_σ2 k_σ2 hb) ?_)))
                  rintro _ σ3 ⟨rfl, fσ3, aσ3, kσ3, gσ3⟩
                  have hf_σ3 : ql lF σ0 σ3 := hf_σ2.tr (fσ3.mn (by decide))
                  refine Exists.intro (nI 1) (And.intro rfl ?_)
                  refine And.intro (Or.inr rfl) ?_
                  exact ⟨hf_σ3, rfl, aσ3⟩
                · skip
                  have h116 := bI_t h116
                  exact absurd (h116.symm.trans (kin)) (by decide)
              · skip
                exact absurd (by decide) h13
            · skip
              exact absurd (by decide) h56
          · skip
            have h46 := bI_t h46
            exact absurd (h46.symm.trans (eo)) (by decide)
theorem l_ts {G : qx_G} {σ0 : qx_S} {Z : Nat → Int32} {T : q_T} {t : Nat} {X : q_X} : ∀ (m : Nat) (s : q_P) (st : List Nat) (σ : qx_S), m = T.1 - s.1 → rS σ Z T t s st → q_bd (q_Fd T st s) (q_C T st) = X → ql lF σ0 σ →
    qx_K G qc_T 8 RX12 YX12_tested 12 [.ref 197, .int (nI 1), .retAddr 0] [] σ (fun r s' => rT σ0 s' Z T t X r) := by
  intro m
  induction m using Nat.strongRecOn with
  | _ m ih =>
    intro s st σ hm hS hX hf
    have mf := m_fact (G := G) hS hX
    have keyB : ∀ σ1 s1 st1, rS σ1 Z T t s1 st1 → s.1 < s1.1 → q_C T st1 s1 = X → ql lF σ0 σ1 → qx_K G qc_T 8 RX12 YX12_tested 25 [.ref 197, .retAddr 0, .retAddr 0] [] σ1 (fun r s' => rT σ0 s' Z T t X r) := by
      intro σ1 s1 st1 hS1 hgt hX1 hf1
      refine qy_wp_ok (c := CX12_tested) (cuts := [29]) vX12_tested wX12_tested 2000 25 _ _ _ ?_
      refine And.intro rfl (Exists.intro _ (And.intro (by decide) (qx_M_mono (m_closes hS1 hX1) ?_)))
      rintro _ σ1 ⟨rfl, fσ1, s2, st2, aσ1, bσ1, cσ1, dσ1, eσ1⟩
      refine l_tsB aσ1 cσ1 dσ1 eσ1 (hf1.tr fσ1) (fun σ2 s3 st3 y1 y2 y3 y4 => ?_)
      have l2 := aσ1.1.sk.2.1
      exact ih (T.1 - s3.1) (by have := y2.1.sk.2.1; omega) s3 st3 σ2 rfl y2 y3 y4
    have mf2 : qx_M G qc_T 7 YX12_fact [.ref 197] σ (fun r s' => ∃ b, r = some (.int (bI b)) ∧ (b = true → qx_K G qc_T 8 RX12 YX12_tested 25 [.ref 197, .retAddr 0, .retAddr 0] [] s' (fun r s' => rT σ0 s' Z T t X r)) ∧ (b = false → rT σ0 s' Z T t X (some (.int (bI false))))) := by
      refine qx_M_mono mf ?_
      rintro r s' ⟨f, c⟩
      rcases c with ⟨rfl, e, c1, c2, c3⟩ | ⟨rfl, s1, st1, c1, c2, c3⟩
      · refine ⟨false, rfl, fun z => absurd z (by decide), fun _ => ?_⟩
        rw [c1]
        exact ⟨hf.tr f, rfl, c2, c3⟩
      · exact ⟨true, rfl, fun _ => keyB s' s1 st1 c1 c2 c3 (hf.tr f), fun z => absurd z (by decide)⟩
    refine qy_wp_ok (c := CX12_tested) (cuts := [25]) vX12_tested wX12_tested 2000 12 _ _ _ ?_
    refine And.intro (fun h13 => ?_) (fun h13 => ?_)
    · skip
      exact absurd h13 (by decide)
    · skip
      refine And.intro rfl (Exists.intro _ (And.intro (by decide) (qx_M_mono (mf2) ?_)))
      rintro _ σ1 ⟨bb, rfl, fσ1, gσ1⟩
      refine And.intro (fun h20 => ?_) (fun h20 => ?_)
      · skip
        have h20 := bI_t h20
        refine qx_K_le (ls := [.ref 197, .retAddr 0, .retAddr 0]) ⟨Or.inr rfl, Or.inl rfl, Or.inr rfl, trivial⟩ ?_
        exact fσ1 h20
      · skip
        have h20 := bI_f h20
        refine Exists.intro (nI 0) (And.intro rfl ?_)
        refine And.intro (Or.inl rfl) ?_
        exact gσ1 h20
theorem m_tested {G : qx_G} {σ : qx_S} {Z : Nat → Int32} {T : q_T} {t : Nat} {s : q_P} (h : mP σ Z T t s) (hb : s.2.1 ≤ s.1) : qx_M G qc_T 8 YX12_tested [.ref 197] σ (fun r s' => rT σ s' Z T t (q_ts (q_FA T 10) T s) r) := by
  refine qx_M_in rfl (Nat.le_of_ble_eq_true rfl) ?_
  refine qy_wp_ok (c := CX12_tested) (cuts := [12]) vX12_tested wX12_tested 2000 0 _ _ _ ?_
  refine Exists.intro (nI 0) (And.intro rfl ?_)
  obtain ⟨σ1, eσ1⟩ : ∃ zs, zs = (qx_wi σ 197 16 (nI 0)) := ⟨_, rfl⟩
  have fσ1 := qn_wif eσ1
  refine And.intro rfl (Exists.intro 16 (Exists.intro σ1 (And.intro rfl (And.intro eσ1.symm ?_))))
  refine Exists.intro (nI 0) (And.intro rfl ?_)
  obtain ⟨σ2, eσ2⟩ : ∃ zs, zs = (qx_wi σ1 197 13 (nI 0)) := ⟨_, rfl⟩
  have fσ2 := qn_wif eσ2
  refine And.intro rfl (Exists.intro 13 (Exists.intro σ2 (And.intro rfl (And.intro eσ2.symm ?_))))
  refine Exists.intro (nI 1) (And.intro rfl ?_)
  exact l_ts _ s [] _ rfl ⟨(h.fr fσ1 (by decide)).fr fσ2 (by decide), ⟨(fσ2.i _ _ rfl).trans (qn_eq eσ1), qn_eq eσ2, trivial⟩, trivial, hb, by decide⟩ rfl ((fσ1.mn (by decide)).tr (fσ2.mn (by decide)))

