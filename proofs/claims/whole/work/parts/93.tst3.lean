/-! THE REFERENCE: tests -/
theorem m_opens_ok {G : qx_G} {σ : qx_S} {st : List Nat} {x : Nat} (hx : x = 11 ∨ x = 91) (k : mKs σ st) (hd : q_dp st < 10) (hl : st.length < 400) : qx_M G qc_T 1 YX12_opens [.ref 197, .int (nI x)] σ (fun r s => r = some (.int (bI true)) ∧ ql [(197, some 13), (197, some 16), (204, none)] σ s ∧ mKs s (x :: st)) := by
  have k16 := k.1
  have k13 := k.2.1
  have edp : q_dp (x :: st) = q_dp st + 1 := by
    rcases hx with e | e
    · rw [e]; exact q_dp_n
    · rw [e]; exact q_dp_b
  refine qx_M_in rfl (Nat.le_of_ble_eq_true rfl) ?_
  refine qy_wp_ok (c := CX12_opens) (cuts := [9]) vX12_opens wX12_opens 2000 0 _ _ _ ?_
  refine And.intro rfl (Exists.intro 13 (Exists.intro (nI (q_dp st)) (And.intro rfl (And.intro k13 ?_))))
  refine Exists.intro (nI 10) (And.intro rfl ?_)
  refine And.intro (fun h6 => ?_) (fun h6 => ?_)
  · skip
    have h6 := nI_neT (a := q_dp st) (b := 10) (by omega) (by decide) h6
    refine And.intro rfl (Exists.intro 13 (Exists.intro (nI (q_dp st)) (And.intro rfl (And.intro k13 ?_))))
    refine Exists.intro (nI 1) (And.intro rfl ?_)
    refine Exists.intro (nI (q_dp st + 1)) (And.intro (nI_add _ _) ?_)
    obtain ⟨σ1, eσ1⟩ : ∃ zs, zs = (qx_wi σ 197 13 (nI (q_dp st + 1))) := ⟨_, rfl⟩
    have fσ1 := qn_wif eσ1
    refine And.intro rfl (Exists.intro 13 (Exists.intro σ1 (And.intro rfl (And.intro eσ1.symm ?_))))
    refine And.intro rfl (Exists.intro 204 (And.intro rfl ?_))
    refine And.intro rfl (Exists.intro 16 (Exists.intro (nI st.length) (And.intro rfl (And.intro ((qn_ne eσ1 (Or.inr (by decide))).trans (k16)) ?_))))
    obtain ⟨σ2, eσ2⟩ : ∃ zs, zs = (qx_wi σ1 204 st.length (nI x)) := ⟨_, rfl⟩
    have fσ2 := qn_wi eσ2
    refine Exists.intro (st.length) (Exists.intro σ2 (And.intro rfl (And.intro ⟨400, rfl, by omega, by decide⟩ (And.intro eσ2.symm ?_))))
    refine And.intro rfl (Exists.intro 16 (Exists.intro (nI st.length) (And.intro rfl (And.intro ((fσ2.i _ _ rfl).trans ((qn_ne eσ1 (Or.inr (by decide))).trans (k16))) ?_))))
    refine Exists.intro (nI 1) (And.intro rfl ?_)
    refine Exists.intro (nI (st.length + 1)) (And.intro (nI_add _ _) ?_)
    obtain ⟨σ3, eσ3⟩ : ∃ zs, zs = (qx_wi σ2 197 16 (nI (st.length + 1))) := ⟨_, rfl⟩
    have fσ3 := qn_wif eσ3
    refine And.intro rfl (Exists.intro 16 (Exists.intro σ3 (And.intro rfl (And.intro eσ3.symm ?_))))
    refine Exists.intro (nI 1) (And.intro rfl ?_)
    refine And.intro (Or.inr rfl) ?_
    exact ⟨rfl, (fσ1.mn (by decide)).tr ((fσ2.mn (by decide)).tr (fσ3.mn (by decide))), qn_eq eσ3, ((fσ3.i _ _ rfl).trans ((fσ2.i _ _ rfl).trans (qn_eq eσ1))).trans (congrArg nI edp.symm), (fσ3.i _ _ rfl).trans (qn_eq eσ2), mKs1.fr fσ3 (fun _ => rfl) st (mKs1.up eσ2 st (Nat.le_refl _) (mKs1.fr fσ1 (fun _ => rfl) st k.2.2))⟩
  · skip
    have h6 := nI_eqT (a := q_dp st) (b := 10) (by omega) (by decide) h6
    refine qx_K_le (ls := [.ref 197, .retAddr 0]) ⟨Or.inr rfl, Or.inl rfl, trivial⟩ ?_
    exact absurd h6 (by omega)
theorem m_opens_no {G : qx_G} {σ : qx_S} {st : List Nat} {x : Int32} {p : Nat} (k : mKs σ st) (hd : q_dp st = 10) (hn8 : qx_mi σ 197 8 = nI p) (hn9 : qx_mi σ 197 9 = nI 0) : qx_M G qc_T 1 YX12_opens [.ref 197, .int x] σ (fun r s => r = some (.int (bI false)) ∧ ql [(197, some 9)] σ s ∧ qx_mi s 197 9 = nI (1 + 8 * p + 2)) := by
  have k13 : qx_mi σ 197 13 = nI 10 := by rw [k.2.1, hd]
  refine qx_M_in rfl (Nat.le_of_ble_eq_true rfl) ?_
  refine qy_wp_ok (c := CX12_opens) (cuts := []) vX12_opens wX12_opens 2000 0 _ _ _ ?_
  refine And.intro rfl (Exists.intro 13 (Exists.intro (nI 10) (And.intro rfl (And.intro k13 ?_))))
  refine Exists.intro (nI 10) (And.intro rfl ?_)
  refine And.intro (fun h6 => ?_) (fun h6 => ?_)
  · skip
    exact absurd (by decide) h6
  · skip
    refine Exists.intro (nI 2) (And.intro rfl ?_)
    refine And.intro rfl (Exists.intro 8 (Exists.intro (nI p) (And.intro rfl (And.intro hn8 ?_))))
    refine And.intro rfl (Exists.intro _ (And.intro (by decide) (qx_M_mono (m_fails hn9) ?_)))
    rintro _ σ1 ⟨rfl, fσ1, gσ1⟩
    refine And.intro (bI_01 _) ?_
    exact ⟨rfl, fσ1, gσ1⟩
/-- reading stands here: what is open, and what is left to read -/
def rS (σ' : qx_S) (Z : Nat → Int32) (T : q_T) (t : Nat) (s' : q_P) (st' : List Nat) : Prop := mP σ' Z T t s' ∧ mKs σ' st' ∧ wS st' ∧ s'.2.1 + st'.length ≤ s'.1 ∧ q_dp st' ≤ 10
def rX (σ0 σ' : qx_S) (Z : Nat → Int32) (T : q_T) (t p0 : Nat) (X : q_X) (r : Option Value) : Prop := ql lF σ0 σ' ∧ ((r = some (.int (bI false)) ∧ ∃ f, X = .error f ∧ qx_mi σ' 197 9 = nI f ∧ ∀ j, j < 400 * t → qx_mi σ' 199 j = Z j) ∨ (r = some (.int (bI true)) ∧ ∃ s' st', rS σ' Z T t s' st' ∧ p0 < s'.1 ∧ q_C T st' s' = X))
theorem l_fact {G : qx_G} {σ0 : qx_S} {Z : Nat → Int32} {T : q_T} {t p0 : Nat} {X : q_X} : ∀ (m : Nat) (s : q_P) (st : List Nat) (σ : qx_S), m = T.1 - s.1 → rS σ Z T t s st → p0 ≤ s.1 → q_bd (q_Fd T st s) (q_C T st) = X → ql lF σ0 σ →
    qx_K G qc_T 7 RX12 YX12_fact 2 [.ref 197, .int (nI 1), .retAddr 0] [] σ (fun r s' => rX σ0 s' Z T t p0 X r) := by
  intro m
  induction m using Nat.strongRecOn with
  | _ m ih =>
    intro s st σ hm hS hp hX hf
    obtain ⟨h, k, hw, hb, hd⟩ := hS
    obtain ⟨hsk, hle, h400, hby⟩ := h.sk
    by_cases k0 : q_kd T s.1 = 320
    · have hlt := q_kd_lt (T := T) (p := s.1) (by omega)
      have hnx := q_nx_gt hlt
      have ed : decide (q_kd T s.1 = 300 + 20) = true := decide_eq_true (by omega)
      by_cases d10 : q_dp st = 10
      · rw [q_F_deep (by omega) (Or.inr k0)] at hX
        refine qy_wp_ok (c := CX12_fact) (cuts := [2]) vX12_fact wX12_fact 2000 2 _ _ _ ?_
        refine And.intro (fun h3 => ?_) (fun h3 => ?_)
        · skip
          exact absurd h3 (by decide)
        · skip
          refine Exists.intro (nI 0) (And.intro rfl ?_)
          refine And.intro rfl (Exists.intro _ (And.intro (by decide) (qx_M_mono (m_seeP h) ?_)))
          rintro _ σ1 ⟨rfl, fσ1, aσ1, gσ1⟩
          have hf_σ1 : ql lF σ0 σ1 := hf.tr (fσ1.mn (by decide))
          refine Exists.intro (lN 7237492) (And.intro (by decide) ?_)
          refine And.intro rfl (Exists.intro _ (And.intro (by decide) (qx_M_mono (m_isWordP aσ1 20 (by decide)) ?_)))
          rintro _ σ2 ⟨rfl, fσ2, aσ2, gσ2⟩
          have hf_σ2 : ql lF σ0 σ2 := hf_σ1.tr (fσ2.mn (by decide))
          refine And.intro (fun h20 => ?_) (fun h20 => ?_)
          · skip
            have h20 := bI_f h20
            exact absurd (h20.symm.trans (ed)) (by decide)
          · skip
            have h20 := bI_t h20
            refine Exists.intro (nI 11) (And.intro rfl ?_)
            refine And.intro rfl (Exists.intro _ (And.intro (by decide) (qx_M_mono (m_opens_no ((k.fr fσ1 rfl rfl (fun _ => rfl)).fr fσ2 rfl rfl (fun _ => rfl)) d10 gσ2 aσ2.2.1) ?_)))
            rintro _ σ3 ⟨rfl, fσ3, gσ3⟩
            have hf_σ3 : ql lF σ0 σ3 := hf_σ2.tr (fσ3.mn (by decide))
            refine And.intro (fun h29 => ?_) (fun h29 => ?_)
            · skip
              have h29 := bI_t h29
              exact absurd (h29.symm.trans (rfl)) (by decide)
            · skip
              have h29 := bI_f h29
              refine Exists.intro (nI 0) (And.intro rfl ?_)
              refine And.intro (Or.inl rfl) ?_
              exact ⟨hf_σ3, Or.inl ⟨rfl, _, hX.symm, gσ3, aσ2.z fσ3 (fun _ => rfl)⟩⟩
      · have hd10 : q_dp st < 10 := by omega
        rw [q_F_not hd10 k0] at hX
        have nx := fun σ1 hs => ih (T.1 - q_nx T s.1) (by omega) (q_pas T s) (11 :: st) σ1 rfl hs (Nat.le_trans hp (Nat.le_of_lt hnx.1)) hX
        refine qy_wp_ok (c := CX12_fact) (cuts := [2]) vX12_fact wX12_fact 2000 2 _ _ _ ?_
        refine And.intro (fun h3 => ?_) (fun h3 => ?_)
        · skip
          exact absurd h3 (by decide)
        · skip
          refine Exists.intro (nI 0) (And.intro rfl ?_)
          refine And.intro rfl (Exists.intro _ (And.intro (by decide) (qx_M_mono (m_seeP h) ?_)))
          rintro _ σ1 ⟨rfl, fσ1, aσ1, gσ1⟩
          have hf_σ1 : ql lF σ0 σ1 := hf.tr (fσ1.mn (by decide))
          refine Exists.intro (lN 7237492) (And.intro (by decide) ?_)
          refine And.intro rfl (Exists.intro _ (And.intro (by decide) (qx_M_mono (m_isWordP aσ1 20 (by decide)) ?_)))
          rintro _ σ2 ⟨rfl, fσ2, aσ2, gσ2⟩
          have hf_σ2 : ql lF σ0 σ2 := hf_σ1.tr (fσ2.mn (by decide))
          refine And.intro (fun h20 => ?_) (fun h20 => ?_)
          · skip
            have h20 := bI_f h20
            exact absurd (h20.symm.trans (ed)) (by decide)
          · skip
            have h20 := bI_t h20
            refine Exists.intro (nI 11) (And.intro rfl ?_)
            refine And.intro rfl (Exists.intro _ (And.intro (by decide) (qx_M_mono (m_opens_ok (Or.inl rfl) ((k.fr fσ1 rfl rfl (fun _ => rfl)).fr fσ2 rfl rfl (fun _ => rfl)) hd10 (by omega)) ?_)))
            rintro _ σ3 ⟨rfl, fσ3, kσ3⟩
            have hf_σ3 : ql lF σ0 σ3 := hf_σ2.tr (fσ3.mn (by decide))
            refine And.intro (fun h29 => ?_) (fun h29 => ?_)
            · skip
              have h29 := bI_t h29
              refine And.intro rfl (Exists.intro _ (And.intro (by decide) (qx_M_mono (m_passP (aσ2.fr fσ3 (by decide)) ((fσ3.i _ _ rfl).trans gσ2) (by omega)) ?_)))
              rintro _ σ4 ⟨rfl, fσ4, aσ4⟩
              have hf_σ4 : ql lF σ0 σ4 := hf_σ3.tr (fσ4.mn (by decide))
              refine Exists.intro (nI 1) (And.intro rfl ?_)
              refine qx_K_le (ls := [.ref 197, .int (nI 1), .retAddr 0]) ⟨Or.inr rfl, Or.inr rfl, Or.inl rfl, trivial⟩ ?_
              exact nx _ ⟨aσ4, kσ3.fr fσ4 rfl rfl (fun _ => rfl), ⟨hw, by omega, fun z => absurd z (by decide), fun z => absurd z (by decide)⟩, (show s.2.1 + (st.length + 1) ≤ q_nx T s.1 by omega), by rw [q_dp_n]; omega⟩ hf_σ4
            · skip
              have h29 := bI_f h29
              exact absurd (h29.symm.trans (rfl)) (by decide)
    · have ed : decide (q_kd T s.1 = 300 + 20) = false := decide_eq_false (by omega)
      by_cases k1 : q_kd T s.1 = 91
      · obtain ⟨es, eb, hlt, ete⟩ := q_sgn hby (c := 91) (by decide) (by decide) (by decide) (by decide) k1
        have hnx := q_nx_gt hlt
        have sv := m_seeP (G := G) h
        rw [es] at sv
        by_cases d10 : q_dp st = 10
        · rw [q_F_deep (by omega) (Or.inl k1)] at hX
          refine qy_wp_ok (c := CX12_fact) (cuts := [2]) vX12_fact wX12_fact 2000 2 _ _ _ ?_
          refine And.intro (fun h3 => ?_) (fun h3 => ?_)
          · skip
            exact absurd h3 (by decide)
          · skip
            refine Exists.intro (nI 0) (And.intro rfl ?_)
            refine And.intro rfl (Exists.intro _ (And.intro (by decide) (qx_M_mono (sv) ?_)))
            rintro _ σ1 ⟨rfl, fσ1, aσ1, gσ1⟩
            have hf_σ1 : ql lF σ0 σ1 := hf.tr (fσ1.mn (by decide))
            refine Exists.intro (lN 7237492) (And.intro (by decide) ?_)
            refine And.intro rfl (Exists.intro _ (And.intro (by decide) (qx_M_mono (m_isWordP aσ1 20 (by decide)) ?_)))
            rintro _ σ2 ⟨rfl, fσ2, aσ2, gσ2⟩
            have hf_σ2 : ql lF σ0 σ2 := hf_σ1.tr (fσ2.mn (by decide))
            refine And.intro (fun h20 => ?_) (fun h20 => ?_)
            · skip
              have h20 := bI_f h20
              refine Exists.intro (nI 91) (And.intro rfl ?_)
              refine And.intro (fun h46 => ?_) (fun h46 => ?_)
              · skip
                exact absurd (by decide) h46
              · skip
                refine Exists.intro (nI 91) (And.intro rfl ?_)
                refine And.intro rfl (Exists.intro _ (And.intro (by decide) (qx_M_mono (m_opens_no ((k.fr fσ1 rfl rfl (fun _ => rfl)).fr fσ2 rfl rfl (fun _ => rfl)) d10 gσ2 aσ2.2.1) ?_)))
                rintro _ σ3 ⟨rfl, fσ3, gσ3⟩
                have hf_σ3 : ql lF σ0 σ3 := hf_σ2.tr (fσ3.mn (by decide))
                refine And.intro (fun h55 => ?_) (fun h55 => ?_)
                · skip
                  have h55 := bI_t h55
                  exact absurd (h55.symm.trans (rfl)) (by decide)
                · skip
                  have h55 := bI_f h55
                  refine Exists.intro (nI 0) (And.intro rfl ?_)
                  refine And.intro (Or.inl rfl) ?_
                  exact ⟨hf_σ3, Or.inl ⟨rfl, _, hX.symm, gσ3, aσ2.z fσ3 (fun _ => rfl)⟩⟩
            · skip
              have h20 := bI_t h20
              exact absurd (h20.symm.trans (ed)) (by decide)
        · have hd10 : q_dp st < 10 := by omega
          rw [q_F_br hd10 k1] at hX
          have nx := fun σ1 hs => ih (T.1 - q_nx T s.1) (by omega) (q_pas T s) (91 :: st) σ1 rfl hs (Nat.le_trans hp (Nat.le_of_lt hnx.1)) hX
          refine qy_wp_ok (c := CX12_fact) (cuts := [2]) vX12_fact wX12_fact 2000 2 _ _ _ ?_
          refine And.intro (fun h3 => ?_) (fun h3 => ?_)
          · skip
            exact absurd h3 (by decide)
          · skip
            refine Exists.intro (nI 0) (And.intro rfl ?_)
            refine And.intro rfl (Exists.intro _ (And.intro (by decide) (qx_M_mono (sv) ?_)))
            rintro _ σ1 ⟨rfl, fσ1, aσ1, gσ1⟩
            have hf_σ1 : ql lF σ0 σ1 := hf.tr (fσ1.mn (by decide))
            refine Exists.intro (lN 7237492) (And.intro (by decide) ?_)
            refine And.intro rfl (Exists.intro _ (And.intro (by decide) (qx_M_mono (m_isWordP aσ1 20 (by decide)) ?_)))
            rintro _ σ2 ⟨rfl, fσ2, aσ2, gσ2⟩
            have hf_σ2 : ql lF σ0 σ2 := hf_σ1.tr (fσ2.mn (by decide))
            refine And.intro (fun h20 => ?_) (fun h20 => ?_)
            · skip
              have h20 := bI_f h20
              refine Exists.intro (nI 91) (And.intro rfl ?_)
              refine And.intro (fun h46 => ?_) (fun h46 => ?_)
              · skip
                exact absurd (by decide) h46
              · skip
                refine Exists.intro (nI 91) (And.intro rfl ?_)
                refine And.intro rfl (Exists.intro _ (And.intro (by decide) (qx_M_mono (m_opens_ok (Or.inr rfl) ((k.fr fσ1 rfl rfl (fun _ => rfl)).fr fσ2 rfl rfl (fun _ => rfl)) hd10 (by omega)) ?_)))
                rintro _ σ3 ⟨rfl, fσ3, kσ3⟩
                have hf_σ3 : ql lF σ0 σ3 := hf_σ2.tr (fσ3.mn (by decide))
                refine And.intro (fun h55 => ?_) (fun h55 => ?_)
                · skip
                  have h55 := bI_t h55
                  refine And.intro rfl (Exists.intro 8 (Exists.intro (nI s.1) (And.intro rfl (And.intro ((fσ3.i _ _ rfl).trans (gσ2)) ?_))))
                  refine Exists.intro (nI 1) (And.intro rfl ?_)
                  refine Exists.intro (nI (s.1 + 1)) (And.intro (nI_add _ _) ?_)
                  obtain ⟨σ4, eσ4⟩ : ∃ zs, zs = (qx_wi σ3 197 8 (nI (s.1 + 1))) := ⟨_, rfl⟩
                  have fσ4 := qn_wif eσ4
                  refine And.intro rfl (Exists.intro 8 (Exists.intro σ4 (And.intro rfl (And.intro eσ4.symm ?_))))
                  have hf_σ4 : ql lF σ0 σ4 := hf_σ3.tr (fσ4.mn (by decide))
                  refine Exists.intro (nI 1) (And.intro rfl ?_)
                  refine qx_K_le (ls := [.ref 197, .int (nI 1), .retAddr 0]) ⟨Or.inr rfl, Or.inr rfl, Or.inl rfl, trivial⟩ ?_
                  exact nx _ ⟨(aσ2.fr fσ3 (by decide)).pass hlt ete eσ4, kσ3.fr fσ4 rfl rfl (fun _ => rfl), ⟨hw, by omega, fun z => absurd z (by decide), fun z => absurd z (by decide)⟩, (show s.2.1 + (st.length + 1) ≤ q_nx T s.1 by omega), by rw [q_dp_b]; omega⟩ hf_σ4
                · skip
                  have h55 := bI_f h55
                  exact absurd (h55.symm.trans (rfl)) (by decide)
            · skip
              have h20 := bI_t h20
              exact absurd (h20.symm.trans (ed)) (by decide)
      · have es : q_see T s.1 ≠ nI 91 := fun z => k1 ((q_kd_c hby (by decide) (by decide) (by decide) (by decide)).mp z)
        rw [q_F_cmp k1 k0] at hX
        have mc : ∀ σ1, mP σ1 Z T t s → qx_M G qc_T 6 YX12_compare [.ref 197] σ1 (fun r s' => rP σ1 s' Z T t (q_cmq T s) r) := fun σ1 a => m_compare a (by omega)
        cases hv : q_cmq T s with
        | error f =>
          rw [hv] at mc hX
          refine qy_wp_ok (c := CX12_fact) (cuts := []) vX12_fact wX12_fact 2000 2 _ _ _ ?_
          refine And.intro (fun h3 => ?_) (fun h3 => ?_)
          · skip
            exact absurd h3 (by decide)
          · skip
            refine Exists.intro (nI 0) (And.intro rfl ?_)
            refine And.intro rfl (Exists.intro _ (And.intro (by decide) (qx_M_mono (m_seeP h) ?_)))
            rintro _ σ1 ⟨rfl, fσ1, aσ1, gσ1⟩
            have hf_σ1 : ql lF σ0 σ1 := hf.tr (fσ1.mn (by decide))
            refine Exists.intro (lN 7237492) (And.intro (by decide) ?_)
            refine And.intro rfl (Exists.intro _ (And.intro (by decide) (qx_M_mono (m_isWordP aσ1 20 (by decide)) ?_)))
            rintro _ σ2 ⟨rfl, fσ2, aσ2, gσ2⟩
            have hf_σ2 : ql lF σ0 σ2 := hf_σ1.tr (fσ2.mn (by decide))
            refine And.intro (fun h20 => ?_) (fun h20 => ?_)
            · skip
              have h20 := bI_f h20
              refine Exists.intro (nI 91) (And.intro rfl ?_)
              refine And.intro (fun h46 => ?_) (fun h46 => ?_)
              · skip
                refine And.intro (fun h3_1 => ?_) (fun h3_1 => ?_)
                · skip
                  refine And.intro rfl (Exists.intro _ (And.intro (by decide) (qx_M_mono (mc _ aσ2) ?_)))
                  rintro _ σ3 ⟨fσ3, rfl, gσ3, zσ3⟩
                  have hf_σ3 : ql lF σ0 σ3 := hf_σ2.tr (fσ3.mn (by decide))
                  refine And.intro (bI_01 _) ?_
                  exact ⟨hf_σ3, Or.inl ⟨rfl, f, hX.symm, gσ3, zσ3⟩⟩
                · skip
                  exact absurd (by decide) h3_1
              · skip
                exact absurd h46 es
            · skip
              have h20 := bI_t h20
              exact absurd (h20.symm.trans (ed)) (by decide)
        | ok s1 =>
          obtain ⟨g0, g1, g2, g3, g4, -⟩ := q_cmq_g hv
          rw [hv] at mc hX
          refine qy_wp_ok (c := CX12_fact) (cuts := []) vX12_fact wX12_fact 2000 2 _ _ _ ?_
          refine And.intro (fun h3 => ?_) (fun h3 => ?_)
          · skip
            exact absurd h3 (by decide)
          · skip
            refine Exists.intro (nI 0) (And.intro rfl ?_)
            refine And.intro rfl (Exists.intro _ (And.intro (by decide) (qx_M_mono (m_seeP h) ?_)))
            rintro _ σ1 ⟨rfl, fσ1, aσ1, gσ1⟩
            have hf_σ1 : ql lF σ0 σ1 := hf.tr (fσ1.mn (by decide))
            refine Exists.intro (lN 7237492) (And.intro (by decide) ?_)
            refine And.intro rfl (Exists.intro _ (And.intro (by decide) (qx_M_mono (m_isWordP aσ1 20 (by decide)) ?_)))
            rintro _ σ2 ⟨rfl, fσ2, aσ2, gσ2⟩
            have hf_σ2 : ql lF σ0 σ2 := hf_σ1.tr (fσ2.mn (by decide))
            refine And.intro (fun h20 => ?_) (fun h20 => ?_)
            · skip
              have h20 := bI_f h20
              refine Exists.intro (nI 91) (And.intro rfl ?_)
              refine And.intro (fun h46 => ?_) (fun h46 => ?_)
              · skip
                refine And.intro (fun h3_1 => ?_) (fun h3_1 => ?_)
                · skip
                  refine And.intro rfl (Exists.intro _ (And.intro (by decide) (qx_M_mono (mc _ aσ2) ?_)))
                  rintro _ σ3 ⟨fσ3, rfl, aσ3⟩
                  have hf_σ3 : ql lF σ0 σ3 := hf_σ2.tr (fσ3.mn (by decide))
                  refine And.intro (bI_01 _) ?_
                  exact ⟨hf_σ3, Or.inr ⟨rfl, s1, st, ⟨aσ3, ((k.fr fσ1 rfl rfl (fun _ => rfl)).fr fσ2 rfl rfl (fun _ => rfl)).fr fσ3 rfl rfl (fun _ => rfl), hw, by omega, hd⟩, by omega, hX⟩⟩
                · skip
                  exact absurd (by decide) h3_1
              · skip
                exact absurd h46 es
            · skip
              have h20 := bI_t h20
              exact absurd (h20.symm.trans (ed)) (by decide)
theorem m_fact {G : qx_G} {σ : qx_S} {Z : Nat → Int32} {T : q_T} {t : Nat} {X : q_X} {s : q_P} {st : List Nat} (hS : rS σ Z T t s st) (hX : q_bd (q_Fd T st s) (q_C T st) = X) : qx_M G qc_T 7 YX12_fact [.ref 197] σ (fun r s' => rX σ s' Z T t s.1 X r) := by
  refine qx_M_in rfl (Nat.le_of_ble_eq_true rfl) ?_
  refine qy_wp_ok (c := CX12_fact) (cuts := [2]) vX12_fact wX12_fact 2000 0 _ _ _ ?_
  refine Exists.intro (nI 1) (And.intro rfl ?_)
  exact l_fact _ s st σ rfl hS (Nat.le_refl _) hX qf.rf
theorem q_dp_stl (l : Nat) : ∀ (st : List Nat) (s : q_P), q_dp (q_stl l st s).1 ≤ q_dp st
  | [], _ => Nat.le_refl _
  | x :: st, s => by
    unfold q_stl
    split
    · refine Nat.le_trans (q_dp_stl l st _) ?_
      show q_dp st ≤ _ + q_dp st
      omega
    · exact Nat.le_refl _
theorem rS.stl {σ σ' : qx_S} {Z : Nat → Int32} {T : q_T} {t : Nat} {s : q_P} {st : List Nat} (h : rS σ Z T t s st) (l : Nat) (h1 : mP σ' Z T t (q_stl l st s).2) (h2 : mKs σ' (q_stl l st s).1) : rS σ' Z T t (q_stl l st s).2 (q_stl l st s).1 := by
  obtain ⟨a, b, c, d, e⟩ := h
  obtain ⟨y1, y2, y3, y4⟩ := q_stl_1 l st s
  exact ⟨h1, h2, y4 c, by rw [y2, y1]; exact d, Nat.le_trans (q_dp_stl l st s) e⟩
/-- behind closes -/
def rC (σ' : qx_S) (Z : Nat → Int32) (T : q_T) (t p0 : Nat) (X : q_X) : Prop := ∃ s' st', rS σ' Z T t s' st' ∧ p0 ≤ s'.1 ∧ q_C T st' s' = X ∧ (q_kd T s'.1 = 93 → 91 ∉ st') ∧ qx_mi σ' 197 8 = nI s'.1
theorem l_closes {G : qx_G} {σ0 : qx_S} {Z : Nat → Int32} {T : q_T} {t p0 : Nat} {X : q_X} : ∀ (m : Nat) (s : q_P) (st : List Nat) (σ : qx_S), m = T.1 - s.1 → rS σ Z T t s st → p0 ≤ s.1 → q_C T st s = X → ql lF σ0 σ →
    qx_K G qc_T 2 RX12 YX12_closes 5 [.ref 197] [] σ (fun r s' => r = none ∧ ql lF σ0 s' ∧ rC s' Z T t p0 X) := by
  intro m
  induction m using Nat.strongRecOn with
  | _ m ih =>
    intro s st σ hm hS hp hX hf
    obtain ⟨h, k, hw, hb, hd⟩ := id hS
    obtain ⟨hsk, hle, h400, hby⟩ := h.sk
    have mi : ∀ σ1, mKs σ1 st → qx_M G qc_T 0 YX12_isInside [.ref 197] σ1 (qr (bI (decide (91 ∈ st))) σ1) := fun σ1 a => m_isInside (by omega) a hw
    by_cases k3 : q_kd T s.1 = 93
    · obtain ⟨es, eb, hlt, ete⟩ := q_sgn hby (c := 93) (by decide) (by decide) (by decide) (by decide) k3
      have hnx := q_nx_gt hlt
      have sv := m_seeP (G := G) h
      rw [es] at sv
      by_cases hi : 91 ∈ st
      · obtain ⟨y1, y2, y3, y4⟩ := q_stl_1 1 st s
        obtain ⟨c1, c2, c3, -⟩ := q_stl_all (T := T) st s hw (by omega)
        obtain ⟨st1, est⟩ := c3 hi
        have ms : ∀ σ1, mP σ1 Z T t s → mKs σ1 st → qx_M G qc_T 1 YX12_settles [.ref 197, .int (nI 1)] σ1 (fun r s' => r = none ∧ ql lF σ1 s' ∧ mP s' Z T t (q_stl 1 st s).2 ∧ mKs s' (q_stl 1 st s).1 ∧ qx_mi s' 197 8 = qx_mi σ1 197 8) := fun σ1 a b => m_settles (by omega) hw a b hb
        obtain ⟨s1, es1⟩ : ∃ s1, s1 = (q_stl 1 st s).2 := ⟨_, rfl⟩
        have d1 := q_dp_stl 1 st s
        rw [est, ← es1] at c1
        rw [est, ← es1] at y2
        rw [est] at y4 d1
        rw [← es1] at y1
        rw [est, ← es1] at ms
        have hw1 := y4 hw
        have y2 : s1.2.1 + (st1.length + 1) = s.2.1 + st.length := y2
        rw [q_dp_b] at d1
        have c4 : q_C T st1 (q_pas T s1) = X := by
          rw [← q_C_93 (by rw [y1]; exact k3), c1]
          exact hX
        have b1 : (q_pas T s1).2.1 + st1.length ≤ (q_pas T s1).1 := by
          show s1.2.1 + st1.length ≤ q_nx T s1.1
          rw [y1]
          omega
        obtain ⟨c5, -⟩ := q_stl_3 (T := T) st1 (q_pas T s1) hw1.1
        have nx := fun σ1 hs => ih (T.1 - q_nx T s.1) (by omega) (q_stl 3 st1 (q_pas T s1)).2 (q_stl 3 st1 (q_pas T s1)).1 σ1 (by rw [(q_stl_1 3 st1 (q_pas T s1)).1]; show T.1 - q_nx T s.1 = T.1 - q_nx T s1.1; rw [y1]) hs (by rw [(q_stl_1 3 st1 (q_pas T s1)).1]; show p0 ≤ q_nx T s1.1; rw [y1]; omega) (c5.trans c4)
        have kin : decide (91 ∈ st) = true := decide_eq_true hi
        refine qy_wp_ok (c := CX12_closes) (cuts := [5]) vX12_closes wX12_closes 2000 5 _ _ _ ?_
        refine And.intro rfl (Exists.intro _ (And.intro (by decide) (qx_M_mono (sv) ?_)))
        rintro _ σ1 ⟨rfl, fσ1, aσ1, gσ1⟩
        have hf_σ1 : ql lF σ0 σ1 := hf.tr (fσ1.mn (by decide))
        refine Exists.intro (nI 93) (And.intro rfl ?_)
        refine And.intro (fun h11 => ?_) (fun h11 => ?_)
        · skip
          exact absurd (by decide) h11
        · skip
          refine And.intro rfl (Exists.intro _ (And.intro (by decide) (qx_M_mono (mi _ (k.fr fσ1 rfl rfl (fun _ => rfl))) ?_)))
          rintro _ _ ⟨rfl, rfl⟩
          refine And.intro (fun h18 => ?_) (fun h18 => ?_)
          · skip
            have h18 := bI_f h18
            exact absurd (h18.symm.trans (kin)) (by decide)
          · skip
            have h18 := bI_t h18
            refine Exists.intro (nI 1) (And.intro rfl ?_)
            refine And.intro rfl (Exists.intro _ (And.intro (by decide) (qx_M_mono (ms _ aσ1 (k.fr fσ1 rfl rfl (fun _ => rfl))) ?_)))
            rintro _ σ2 ⟨rfl, fσ2, aσ2, kσ2, gσ2⟩
            have hf_σ2 : ql lF σ0 σ2 := hf_σ1.tr (fσ2.mn (by decide))
            refine And.intro rfl (Exists.intro 16 (Exists.intro (nI (st1.length + 1)) (And.intro rfl (And.intro kσ2.1 ?_))))
            refine Exists.intro (nI 1) (And.intro rfl ?_)
            refine Exists.intro (nI st1.length) (And.intro (nI_sub (by omega)) ?_)
            obtain ⟨σ3, eσ3⟩ : ∃ zs, zs = (qx_wi σ2 197 16 (nI st1.length)) := ⟨_, rfl⟩
            have fσ3 := qn_wif eσ3
            refine And.intro rfl (Exists.intro 16 (Exists.intro σ3 (And.intro rfl (And.intro eσ3.symm ?_))))
            have hf_σ3 : ql lF σ0 σ3 := hf_σ2.tr (fσ3.mn (by decide))
            refine And.intro rfl (Exists.intro 13 (Exists.intro (nI (q_dp st1 + 1)) (And.intro rfl (And.intro ((qn_ne eσ3 (Or.inr (by decide))).trans ((kσ2.2.1.trans (congrArg nI q_dp_b)))) ?_))))
            refine Exists.intro (nI 1) (And.intro rfl ?_)
            refine Exists.intro (nI (q_dp st1)) (And.intro (nI_sub (by omega)) ?_)
            obtain ⟨σ4, eσ4⟩ : ∃ zs, zs = (qx_wi σ3 197 13 (nI (q_dp st1))) := ⟨_, rfl⟩
            have fσ4 := qn_wif eσ4
            refine And.intro rfl (Exists.intro 13 (Exists.intro σ4 (And.intro rfl (And.intro eσ4.symm ?_))))
            have hf_σ4 : ql lF σ0 σ4 := hf_σ3.tr (fσ4.mn (by decide))
            refine And.intro rfl (Exists.intro 8 (Exists.intro (nI s1.1) (And.intro rfl (And.intro ((qn_ne eσ4 (Or.inr (by decide))).trans ((qn_ne eσ3 (Or.inr (by decide))).trans ((gσ2.trans (gσ1.trans (congrArg nI y1.symm)))))) ?_))))
            refine Exists.intro (nI 1) (And.intro rfl ?_)
            refine Exists.intro (nI (s1.1 + 1)) (And.intro (nI_add _ _) ?_)
            obtain ⟨σ5, eσ5⟩ : ∃ zs, zs = (qx_wi σ4 197 8 (nI (s1.1 + 1))) := ⟨_, rfl⟩
            have fσ5 := qn_wif eσ5
            refine And.intro rfl (Exists.intro 8 (Exists.intro σ5 (And.intro rfl (And.intro eσ5.symm ?_))))
            have hf_σ5 : ql lF σ0 σ5 := hf_σ4.tr (fσ5.mn (by decide))
            have hq_σ5 : mP σ5 Z T t (q_pas T s1) := ((aσ2.fr fσ3 (by decide)).fr fσ4 (by decide)).pass (by omega) (by rw [y1]; exact ete) eσ5
            have hk_σ5 : mKs σ5 st1 := ⟨(fσ5.i _ _ rfl).trans ((fσ4.i _ _ rfl).trans (qn_eq eσ3)), (fσ5.i _ _ rfl).trans (qn_eq eσ4), mKs1.fr fσ5 (fun _ => rfl) st1 (mKs1.fr fσ4 (fun _ => rfl) st1 (mKs1.fr fσ3 (fun _ => rfl) st1 kσ2.2.2.2))⟩
            refine Exists.intro (nI 3) (And.intro rfl ?_)
            refine And.intro rfl (Exists.intro _ (And.intro (by decide) (qx_M_mono (m_settles (l := 3) (by omega) hw1.1 hq_σ5 hk_σ5 b1) ?_)))
            rintro _ σ6 ⟨rfl, fσ6, aσ6, kσ6, gσ6⟩
            have hf_σ6 : ql lF σ0 σ6 := hf_σ5.tr (fσ6.mn (by decide))
            exact nx _ (rS.stl ⟨hq_σ5, hk_σ5, hw1.1, b1, by omega⟩ 3 aσ6 kσ6) hf_σ6
      · have kin : decide (91 ∈ st) = false := decide_eq_false hi
        refine qy_wp_ok (c := CX12_closes) (cuts := [5]) vX12_closes wX12_closes 2000 5 _ _ _ ?_
        refine And.intro rfl (Exists.intro _ (And.intro (by decide) (qx_M_mono (sv) ?_)))
        rintro _ σ1 ⟨rfl, fσ1, aσ1, gσ1⟩
        have hf_σ1 : ql lF σ0 σ1 := hf.tr (fσ1.mn (by decide))
        refine Exists.intro (nI 93) (And.intro rfl ?_)
        refine And.intro (fun h11 => ?_) (fun h11 => ?_)
        · skip
          exact absurd (by decide) h11
        · skip
          refine And.intro rfl (Exists.intro _ (And.intro (by decide) (qx_M_mono (mi _ (k.fr fσ1 rfl rfl (fun _ => rfl))) ?_)))
          rintro _ _ ⟨rfl, rfl⟩
          refine And.intro (fun h18 => ?_) (fun h18 => ?_)
          · skip
            have h18 := bI_f h18
            exact ⟨rfl, hf_σ1, s, st, ⟨aσ1, k.fr fσ1 rfl rfl (fun _ => rfl), hw, hb, hd⟩, hp, hX, fun _ => hi, gσ1⟩
          · skip
            have h18 := bI_t h18
            exact absurd (h18.symm.trans (kin)) (by decide)
    · have es : q_see T s.1 ≠ nI 93 := fun z => k3 ((q_kd_c hby (by decide) (by decide) (by decide) (by decide)).mp z)
      refine qy_wp_ok (c := CX12_closes) (cuts := [5, 14]) vX12_closes wX12_closes 2000 5 _ _ _ ?_
      refine And.intro rfl (Exists.intro _ (And.intro (by decide) (qx_M_mono (m_seeP h) ?_)))
      rintro _ σ1 ⟨rfl, fσ1, aσ1, gσ1⟩
      have hf_σ1 : ql lF σ0 σ1 := hf.tr (fσ1.mn (by decide))
      refine Exists.intro (nI 93) (And.intro rfl ?_)
      refine And.intro (fun h11 => ?_) (fun h11 => ?_)
      · skip
        exact ⟨rfl, hf_σ1, s, st, ⟨aσ1, k.fr fσ1 rfl rfl (fun _ => rfl), hw, hb, hd⟩, hp, hX, fun z => absurd z k3, gσ1⟩
      · skip
        exact absurd h11 es
theorem m_closes {G : qx_G} {σ : qx_S} {Z : Nat → Int32} {T : q_T} {t : Nat} {X : q_X} {s : q_P} {st : List Nat} (hS : rS σ Z T t s st) (hX : q_C T st s = X) : qx_M G qc_T 2 YX12_closes [.ref 197] σ (fun r s' => r = none ∧ ql lF σ s' ∧ rC s' Z T t s.1 X) := by
  obtain ⟨h, k, hw, hb, hd⟩ := id hS
  obtain ⟨c5, -⟩ := q_stl_3 (T := T) st s hw
  refine qx_M_in rfl (Nat.le_of_ble_eq_true rfl) ?_
  refine qy_wp_ok (c := CX12_closes) (cuts := [5]) vX12_closes wX12_closes 2000 0 _ _ _ ?_
  refine Exists.intro (nI 3) (And.intro rfl ?_)
  refine And.intro rfl (Exists.intro _ (And.intro (by decide) (qx_M_mono (m_settles (l := 3) (by omega) hw h k hb) ?_)))
  rintro _ σ1 ⟨rfl, fσ1, aσ1, kσ1, gσ1⟩
  exact l_closes _ _ _ _ rfl (hS.stl 3 aσ1 kσ1) (by rw [(q_stl_1 3 st s).1]; exact Nat.le_refl _) (c5.trans hX) fσ1

