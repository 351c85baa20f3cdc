/-! THE REFERENCE: terms, sums -/
theorem q_sgn {T : q_T} {p c : Nat} (hb : ∀ k, k < T.1 → T.2 k < 256) (hc : c < 128) (h1 : ¬ (97 ≤ c ∧ c ≤ 122)) (h2 : ¬ (48 ≤ c ∧ c ≤ 57)) (h3 : c ≠ 60 ∧ c ≠ 62) (k : q_kd T p = c) : q_see T p = nI c ∧ T.2 p = c ∧ p < T.1 ∧ q_te T p = p + 1 := by
  have hlt := q_kd_lt (T := T) (p := p) (by omega)
  have b := hb p hlt
  have es := (q_kd_c hb hc h1 h2 h3).mpr k
  have eb : T.2 p = c := by
    unfold q_see at es
    rw [if_pos hlt, nI_eq (by omega) (by omega)] at es
    exact es
  refine ⟨es, eb, hlt, ?_⟩
  have nl : isL T p = false := decide_eq_false (fun z => by omega)
  have nd : isD T p = false := decide_eq_false (fun z => by omega)
  have n2 : q_two2 T p = false := decide_eq_false (fun z => by omega)
  rw [(q_kd_S hlt nl nd).2, if_neg (by rw [n2]; decide)]
theorem mP.pass {σ σ' : qx_S} {Z : Nat → Int32} {T : q_T} {t : Nat} {s : q_P} (h : mP σ Z T t s) (hlt : s.1 < T.1) (hte : q_te T s.1 = s.1 + 1) (e : σ' = qx_wi σ 197 8 (nI (s.1 + 1))) : mP σ' Z T t (q_pas T s) := by
  refine h.to (qn_wif e) (by decide) (qn_eq e) hlt ?_
  show q_sk T (s.1 + 1) = q_sk T (q_te T s.1)
  rw [hte]
theorem l_term {G : qx_G} {σ0 : qx_S} {Z : Nat → Int32} {T : q_T} {t : Nat} : ∀ (m : Nat) (s : q_P) (σ : qx_S), m = T.1 - s.1 → mP σ Z T t s → s.2.1 ≤ s.1 → ql lP σ0 σ →
    qx_K G qc_T 4 RX12 YX12_term 9 [.ref 197, .retAddr 0] [] σ (fun r s' => rP σ0 s' Z T t (q_TR T s) r) := by
  intro m
  induction m using Nat.strongRecOn with
  | _ m ih =>
    intro s σ hm h hl hf
    obtain ⟨hsk, hle, h400, hb⟩ := h.sk
    by_cases k42 : q_kd T s.1 = 42
    · obtain ⟨es, eb, hlt, ete⟩ := q_sgn hb (c := 42) (by decide) (by decide) (by decide) (by decide) k42
      rw [q_TR_s (c := 100014) (by decide) k42]
      have sv : ∀ σ1, mP σ1 Z T t s → qx_M G qc_T 0 YX12_see [.ref 197] σ1 (fun r s' => r = some (.int (nI 42)) ∧ ql [(197, some 8)] σ1 s' ∧ mP s' Z T t s ∧ qx_mi s' 197 8 = nI s.1) := by
        intro σ1 a
        have := m_seeP (G := G) a
        rw [es] at this
        exact this
      have tp : ∀ σ1, mP σ1 Z T t s → qx_mi σ1 198 s.1 = nI 42 := by
        intro σ1 a
        rw [(a.1.2.2 s.1 hlt).1, eb]
        rfl
      cases hv : q_V T (q_pas T s) with
      | error f =>
        have mv : ∀ σ1, mP σ1 Z T t (q_pas T s) → qx_M G qc_T 3 YX12_value [.ref 197] σ1 (fun r s' => ql lP σ1 s' ∧ r = some (.int (bI false)) ∧ qx_mi s' 197 9 = nI f ∧ ∀ j, j < 400 * t → qx_mi s' 199 j = Z j) := by
          intro σ1 a
          have := m_value (G := G) a (Nat.le_trans hl (Nat.le_of_lt (q_nx_gt hlt).1))
          rw [hv] at this
          exact this
        refine qy_wp_ok (c := CX12_term) (cuts := [9]) vX12_term wX12_term 2000 9 _ _ _ ?_
        refine And.intro rfl (Exists.intro _ (And.intro (by decide) (qx_M_mono (sv _ h) ?_)))
        rintro _ σ1 ⟨rfl, fσ1, afσ1, gσ1⟩
        have hf_σ1 : ql lP σ0 σ1 := hf.tr (fσ1.mn (by decide))
        have h_σ1 : mP σ1 Z T t s := afσ1
        refine Exists.intro (nI 42) (And.intro rfl ?_)
        refine And.intro (fun h15 => ?_) (fun h15 => ?_)
        · skip
          refine And.intro rfl (Exists.intro 198 (And.intro rfl ?_))
          refine And.intro rfl (Exists.intro 8 (Exists.intro (nI s.1) (And.intro rfl (And.intro gσ1 ?_))))
          refine Exists.intro (s.1) (Exists.intro (nI 42) (And.intro rfl (And.intro (Or.inl ⟨400, rfl, by omega, by decide⟩) (And.intro (tp _ afσ1) ?_))))
          refine Exists.intro (nI 42) (And.intro rfl ?_)
          refine And.intro (fun h38 => ?_) (fun h38 => ?_)
          · skip
            exact absurd (by decide) h38
          · skip
            refine Exists.intro (nI 4) (And.intro rfl ?_)
            refine And.intro rfl (Exists.intro 8 (Exists.intro (nI s.1) (And.intro rfl (And.intro gσ1 ?_))))
            refine Exists.intro (nI 1) (And.intro rfl ?_)
            refine Exists.intro (nI (s.1 + 1)) (And.intro (nI_add _ _) ?_)
            obtain ⟨σ2, eσ2⟩ : ∃ zs, zs = (qx_wi σ1 197 8 (nI (s.1 + 1))) := ⟨_, rfl⟩
            have fσ2 := qn_wif eσ2
            refine And.intro rfl (Exists.intro 8 (Exists.intro σ2 (And.intro rfl (And.intro eσ2.symm ?_))))
            have hf_σ2 : ql lP σ0 σ2 := hf_σ1.tr (fσ2.mn (by decide))
            have hq_σ2 : mP σ2 Z T t (q_pas T s) := h_σ1.pass hlt ete eσ2
            refine And.intro rfl (Exists.intro _ (And.intro (by decide) (qx_M_mono (mv _ hq_σ2) ?_)))
            rintro _ σ3 ⟨fσ3, rfl, gσ3, zσ3⟩
            have hf_σ3 : ql lP σ0 σ3 := hf_σ2.tr (fσ3.mn (by decide))
            refine And.intro (fun h61 => ?_) (fun h61 => ?_)
            · skip
              have h61 := bI_t h61
              exact absurd (h61.symm.trans (rfl)) (by decide)
            · skip
              have h61 := bI_f h61
              refine Exists.intro (nI 0) (And.intro rfl ?_)
              refine And.intro (Or.inl rfl) ?_
              exact ⟨hf_σ3, rfl, gσ3, zσ3⟩
        · skip
          exact absurd (by decide) h15
      | ok s1 =>
        obtain ⟨g1, g2⟩ := gP.em rfl (by omega) ((q_V_g hv).1) 100014
        have g3 := ((q_V_g hv).1).2.1
        have nx := fun σ1 => ih (T.1 - s1.1) (by have : s.1 < s1.1 := g1.1; omega) (q_em 100014 s1) σ1 rfl
        have mv : ∀ σ1, mP σ1 Z T t (q_pas T s) → qx_M G qc_T 3 YX12_value [.ref 197] σ1 (fun r s' => ql lP σ1 s' ∧ r = some (.int (bI true)) ∧ mP s' Z T t s1) := by
          intro σ1 a
          have := m_value (G := G) a (Nat.le_trans hl (Nat.le_of_lt (q_nx_gt hlt).1))
          rw [hv] at this
          exact this
        refine qy_wp_ok (c := CX12_term) (cuts := [9]) vX12_term wX12_term 2000 9 _ _ _ ?_
        refine And.intro rfl (Exists.intro _ (And.intro (by decide) (qx_M_mono (sv _ h) ?_)))
        rintro _ σ1 ⟨rfl, fσ1, afσ1, gσ1⟩
        have hf_σ1 : ql lP σ0 σ1 := hf.tr (fσ1.mn (by decide))
        have h_σ1 : mP σ1 Z T t s := afσ1
        refine Exists.intro (nI 42) (And.intro rfl ?_)
        refine And.intro (fun h15 => ?_) (fun h15 => ?_)
        · skip
          refine And.intro rfl (Exists.intro 198 (And.intro rfl ?_))
          refine And.intro rfl (Exists.intro 8 (Exists.intro (nI s.1) (And.intro rfl (And.intro gσ1 ?_))))
          refine Exists.intro (s.1) (Exists.intro (nI 42) (And.intro rfl (And.intro (Or.inl ⟨400, rfl, by omega, by decide⟩) (And.intro (tp _ afσ1) ?_))))
          refine Exists.intro (nI 42) (And.intro rfl ?_)
          refine And.intro (fun h38 => ?_) (fun h38 => ?_)
          · skip
            exact absurd (by decide) h38
          · skip
            refine Exists.intro (nI 4) (And.intro rfl ?_)
            refine And.intro rfl (Exists.intro 8 (Exists.intro (nI s.1) (And.intro rfl (And.intro gσ1 ?_))))
            refine Exists.intro (nI 1) (And.intro rfl ?_)
            refine Exists.intro (nI (s.1 + 1)) (And.intro (nI_add _ _) ?_)
            obtain ⟨σ2, eσ2⟩ : ∃ zs, zs = (qx_wi σ1 197 8 (nI (s.1 + 1))) := ⟨_, rfl⟩
            have fσ2 := qn_wif eσ2
            refine And.intro rfl (Exists.intro 8 (Exists.intro σ2 (And.intro rfl (And.intro eσ2.symm ?_))))
            have hf_σ2 : ql lP σ0 σ2 := hf_σ1.tr (fσ2.mn (by decide))
            have hq_σ2 : mP σ2 Z T t (q_pas T s) := h_σ1.pass hlt ete eσ2
            refine And.intro rfl (Exists.intro _ (And.intro (by decide) (qx_M_mono (mv _ hq_σ2) ?_)))
            rintro _ σ3 ⟨fσ3, rfl, aσ3⟩
            have hf_σ3 : ql lP σ0 σ3 := hf_σ2.tr (fσ3.mn (by decide))
            refine And.intro (fun h61 => ?_) (fun h61 => ?_)
            · skip
              have h61 := bI_t h61
              refine Exists.intro (nI 0) (And.intro rfl ?_)
              refine And.intro rfl (Exists.intro _ (And.intro (by decide) (qx_M_mono (m_puts aσ3 (show s1.2.1 < 400 by omega) 100014 (by decide)) ?_)))
              rintro _ σ4 ⟨rfl, fσ4, bσ4⟩
              have hf_σ4 : ql lP σ0 σ4 := hf_σ3.tr (fσ4.mn (by decide))
              refine qx_K_le (ls := [.ref 197, .retAddr 0]) ⟨Or.inr rfl, Or.inl rfl, trivial⟩ ?_
              exact nx _ bσ4 (show s1.2.1 + 1 ≤ s1.1 by omega) hf_σ4
            · skip
              have h61 := bI_f h61
              exact absurd (h61.symm.trans (rfl)) (by decide)
        · skip
          exact absurd (by decide) h15
    by_cases k47 : q_kd T s.1 = 47
    · obtain ⟨es, eb, hlt, ete⟩ := q_sgn hb (c := 47) (by decide) (by decide) (by decide) (by decide) k47
      rw [q_TR_s (c := 100015) (by decide) k47]
      have sv : ∀ σ1, mP σ1 Z T t s → qx_M G qc_T 0 YX12_see [.ref 197] σ1 (fun r s' => r = some (.int (nI 47)) ∧ ql [(197, some 8)] σ1 s' ∧ mP s' Z T t s ∧ qx_mi s' 197 8 = nI s.1) := by
        intro σ1 a
        have := m_seeP (G := G) a
        rw [es] at this
        exact this
      have tp : ∀ σ1, mP σ1 Z T t s → qx_mi σ1 198 s.1 = nI 47 := by
        intro σ1 a
        rw [(a.1.2.2 s.1 hlt).1, eb]
        rfl
      cases hv : q_V T (q_pas T s) with
      | error f =>
        have mv : ∀ σ1, mP σ1 Z T t (q_pas T s) → qx_M G qc_T 3 YX12_value [.ref 197] σ1 (fun r s' => ql lP σ1 s' ∧ r = some (.int (bI false)) ∧ qx_mi s' 197 9 = nI f ∧ ∀ j, j < 400 * t → qx_mi s' 199 j = Z j) := by
          intro σ1 a
          have := m_value (G := G) a (Nat.le_trans hl (Nat.le_of_lt (q_nx_gt hlt).1))
          rw [hv] at this
          exact this
        refine qy_wp_ok (c := CX12_term) (cuts := [9]) vX12_term wX12_term 2000 9 _ _ _ ?_
        refine And.intro rfl (Exists.intro _ (And.intro (by decide) (qx_M_mono (sv _ h) ?_)))
        rintro _ σ1 ⟨rfl, fσ1, afσ1, gσ1⟩
        have hf_σ1 : ql lP σ0 σ1 := hf.tr (fσ1.mn (by decide))
        have h_σ1 : mP σ1 Z T t s := afσ1
        refine Exists.intro (nI 42) (And.intro rfl ?_)
        refine And.intro (fun h15 => ?_) (fun h15 => ?_)
        · skip
          exact absurd h15 (by decide)
        · skip
          refine And.intro rfl (Exists.intro _ (And.intro (by decide) (qx_M_mono (sv _ h_σ1) ?_)))
          rintro _ σ2 ⟨rfl, fσ2, afσ2, gσ2⟩
          have hf_σ2 : ql lP σ0 σ2 := hf_σ1.tr (fσ2.mn (by decide))
          have h_σ2 : mP σ2 Z T t s := afσ2
          refine Exists.intro (nI 47) (And.intro rfl ?_)
          refine And.intro (fun h24 => ?_) (fun h24 => ?_)
          · skip
            exact absurd (by decide) h24
          · skip
            refine And.intro rfl (Exists.intro 198 (And.intro rfl ?_))
            refine And.intro rfl (Exists.intro 8 (Exists.intro (nI s.1) (And.intro rfl (And.intro gσ2 ?_))))
            refine Exists.intro (s.1) (Exists.intro (nI 47) (And.intro rfl (And.intro (Or.inl ⟨400, rfl, by omega, by decide⟩) (And.intro (tp _ afσ2) ?_))))
            refine Exists.intro (nI 42) (And.intro rfl ?_)
            refine And.intro (fun h38 => ?_) (fun h38 => ?_)
            · skip
              refine Exists.intro (nI 5) (And.intro rfl ?_)
              refine And.intro rfl (Exists.intro 8 (Exists.intro (nI s.1) (And.intro rfl (And.intro gσ2 ?_))))
              refine Exists.intro (nI 1) (And.intro rfl ?_)
              refine Exists.intro (nI (s.1 + 1)) (And.intro (nI_add _ _) ?_)
              obtain ⟨σ3, eσ3⟩ : ∃ zs, zs = (qx_wi σ2 197 8 (nI (s.1 + 1))) := ⟨_, rfl⟩
              have fσ3 := qn_wif eσ3
              refine And.intro rfl (Exists.intro 8 (Exists.intro σ3 (And.intro rfl (And.intro eσ3.symm ?_))))
              have hf_σ3 : ql lP σ0 σ3 := hf_σ2.tr (fσ3.mn (by decide))
              have hq_σ3 : mP σ3 Z T t (q_pas T s) := h_σ2.pass hlt ete eσ3
              refine And.intro rfl (Exists.intro _ (And.intro (by decide) (qx_M_mono (mv _ hq_σ3) ?_)))
              rintro _ σ4 ⟨fσ4, rfl, gσ4, zσ4⟩
              have hf_σ4 : ql lP σ0 σ4 := hf_σ3.tr (fσ4.mn (by decide))
              refine And.intro (fun h61 => ?_) (fun h61 => ?_)
              · skip
                have h61 := bI_t h61
                exact absurd (h61.symm.trans (rfl)) (by decide)
              · skip
                have h61 := bI_f h61
                refine Exists.intro (nI 0) (And.intro rfl ?_)
                refine And.intro (Or.inl rfl) ?_
                exact ⟨hf_σ4, rfl, gσ4, zσ4⟩
            · skip
              exact absurd h38 (by decide)
      | ok s1 =>
        obtain ⟨g1, g2⟩ := gP.em rfl (by omega) ((q_V_g hv).1) 100015
        have g3 := ((q_V_g hv).1).2.1
        have nx := fun σ1 => ih (T.1 - s1.1) (by have : s.1 < s1.1 := g1.1; omega) (q_em 100015 s1) σ1 rfl
        have mv : ∀ σ1, mP σ1 Z T t (q_pas T s) → qx_M G qc_T 3 YX12_value [.ref 197] σ1 (fun r s' => ql lP σ1 s' ∧ r = some (.int (bI true)) ∧ mP s' Z T t s1) := by
          intro σ1 a
          have := m_value (G := G) a (Nat.le_trans hl (Nat.le_of_lt (q_nx_gt hlt).1))
          rw [hv] at this
          exact this
        refine qy_wp_ok (c := CX12_term) (cuts := [9]) vX12_term wX12_term 2000 9 _ _ _ ?_
        refine And.intro rfl (Exists.intro _ (And.intro (by decide) (qx_M_mono (sv _ h) ?_)))
        rintro _ σ1 ⟨rfl, fσ1, afσ1, gσ1⟩
        have hf_σ1 : ql lP σ0 σ1 := hf.tr (fσ1.mn (by decide))
        have h_σ1 : mP σ1 Z T t s := afσ1
        refine Exists.intro (nI 42) (And.intro rfl ?_)
        refine And.intro (fun h15 => ?_) (fun h15 => ?_)
        · skip
          exact absurd h15 (by decide)
        · skip
          refine And.intro rfl (Exists.intro _ (And.intro (by decide) (qx_M_mono (sv _ h_σ1) ?_)))
          rintro _ σ2 ⟨rfl, fσ2, afσ2, gσ2⟩
          have hf_σ2 : ql lP σ0 σ2 := hf_σ1.tr (fσ2.mn (by decide))
          have h_σ2 : mP σ2 Z T t s := afσ2
          refine Exists.intro (nI 47) (And.intro rfl ?_)
          refine And.intro (fun h24 => ?_) (fun h24 => ?_)
          · skip
            exact absurd (by decide) h24
          · skip
            refine And.intro rfl (Exists.intro 198 (And.intro rfl ?_))
            refine And.intro rfl (Exists.intro 8 (Exists.intro (nI s.1) (And.intro rfl (And.intro gσ2 ?_))))
            refine Exists.intro (s.1) (Exists.intro (nI 47) (And.intro rfl (And.intro (Or.inl ⟨400, rfl, by omega, by decide⟩) (And.intro (tp _ afσ2) ?_))))
            refine Exists.intro (nI 42) (And.intro rfl ?_)
            refine And.intro (fun h38 => ?_) (fun h38 => ?_)
            · skip
              refine Exists.intro (nI 5) (And.intro rfl ?_)
              refine And.intro rfl (Exists.intro 8 (Exists.intro (nI s.1) (And.intro rfl (And.intro gσ2 ?_))))
              refine Exists.intro (nI 1) (And.intro rfl ?_)
              refine Exists.intro (nI (s.1 + 1)) (And.intro (nI_add _ _) ?_)
              obtain ⟨σ3, eσ3⟩ : ∃ zs, zs = (qx_wi σ2 197 8 (nI (s.1 + 1))) := ⟨_, rfl⟩
              have fσ3 := qn_wif eσ3
              refine And.intro rfl (Exists.intro 8 (Exists.intro σ3 (And.intro rfl (And.intro eσ3.symm ?_))))
              have hf_σ3 : ql lP σ0 σ3 := hf_σ2.tr (fσ3.mn (by decide))
              have hq_σ3 : mP σ3 Z T t (q_pas T s) := h_σ2.pass hlt ete eσ3
              refine And.intro rfl (Exists.intro _ (And.intro (by decide) (qx_M_mono (mv _ hq_σ3) ?_)))
              rintro _ σ4 ⟨fσ4, rfl, aσ4⟩
              have hf_σ4 : ql lP σ0 σ4 := hf_σ3.tr (fσ4.mn (by decide))
              refine And.intro (fun h61 => ?_) (fun h61 => ?_)
              · skip
                have h61 := bI_t h61
                refine Exists.intro (nI 0) (And.intro rfl ?_)
                refine And.intro rfl (Exists.intro _ (And.intro (by decide) (qx_M_mono (m_puts aσ4 (show s1.2.1 < 400 by omega) 100015 (by decide)) ?_)))
                rintro _ σ5 ⟨rfl, fσ5, bσ5⟩
                have hf_σ5 : ql lP σ0 σ5 := hf_σ4.tr (fσ5.mn (by decide))
                refine qx_K_le (ls := [.ref 197, .retAddr 0]) ⟨Or.inr rfl, Or.inl rfl, trivial⟩ ?_
                exact nx _ bσ5 (show s1.2.1 + 1 ≤ s1.1 by omega) hf_σ5
              · skip
                have h61 := bI_f h61
                exact absurd (h61.symm.trans (rfl)) (by decide)
            · skip
              exact absurd h38 (by decide)
    · rw [q_TR_e k42 k47]
      refine qy_wp_ok (c := CX12_term) (cuts := [9, 27]) vX12_term wX12_term 2000 9 _ _ _ ?_
      refine And.intro rfl (Exists.intro _ (And.intro (by decide) (qx_M_mono (m_seeP h) ?_)))
      rintro _ σ1 ⟨rfl, fσ1, afσ1, gσ1⟩
      have hf_σ1 : ql lP σ0 σ1 := hf.tr (fσ1.mn (by decide))
      have h_σ1 : mP σ1 Z T t s := afσ1
      refine Exists.intro (nI 42) (And.intro rfl ?_)
      refine And.intro (fun h15 => ?_) (fun h15 => ?_)
      · skip
        exact absurd ((q_kd_c hb (by decide) (by decide) (by decide) (by decide)).mp h15) k42
      · skip
        refine And.intro rfl (Exists.intro _ (And.intro (by decide) (qx_M_mono (m_seeP h_σ1) ?_)))
        rintro _ σ2 ⟨rfl, fσ2, afσ2, gσ2⟩
        have hf_σ2 : ql lP σ0 σ2 := hf_σ1.tr (fσ2.mn (by decide))
        have h_σ2 : mP σ2 Z T t s := afσ2
        refine Exists.intro (nI 47) (And.intro rfl ?_)
        refine And.intro (fun h24 => ?_) (fun h24 => ?_)
        · skip
          refine Exists.intro (nI 1) (And.intro rfl ?_)
          refine And.intro (Or.inr rfl) ?_
          exact ⟨hf_σ2, rfl, h_σ2⟩
        · skip
          exact absurd ((q_kd_c hb (by decide) (by decide) (by decide) (by decide)).mp h24) k47
theorem m_term {G : qx_G} {σ : qx_S} {Z : Nat → Int32} {T : q_T} {t : Nat} {s : q_P} (h : mP σ Z T t s) (hl : s.2.1 ≤ s.1) : qx_M G qc_T 4 YX12_term [.ref 197] σ (fun r s' => rP σ s' Z T t (q_term T s) r) := by
  have mv := m_value (G := G) h hl
  cases hv : q_V T s with
  | error f =>
    rw [hv] at mv
    rw [show q_term T s = .error f by show q_bd (q_V T s) _ = _; rw [hv]; rfl]
    refine qx_M_in rfl (Nat.le_of_ble_eq_true rfl) ?_
    refine qy_wp_ok (c := CX12_term) (cuts := [9]) vX12_term wX12_term 2000 0 _ _ _ ?_
    refine And.intro rfl (Exists.intro _ (And.intro (by decide) (qx_M_mono (mv) ?_)))
    rintro _ σ1 ⟨fσ1, rfl, gσ1, zσ1⟩
    refine And.intro (fun h4 => ?_) (fun h4 => ?_)
    · skip
      have h4 := bI_t h4
      exact absurd (h4.symm.trans (rfl)) (by decide)
    · skip
      have h4 := bI_f h4
      refine Exists.intro (nI 0) (And.intro rfl ?_)
      refine And.intro (Or.inl rfl) ?_
      exact ⟨fσ1, rfl, gσ1, zσ1⟩
  | ok s1 =>
    rw [hv] at mv
    have g := (q_V_g hv).1
    obtain ⟨g0, g1, g2, g3, g4, -⟩ := g
    rw [show q_term T s = q_TR T s1 by show q_bd (q_V T s) _ = _; rw [hv]; rfl]
    refine qx_M_in rfl (Nat.le_of_ble_eq_true rfl) ?_
    refine qy_wp_ok (c := CX12_term) (cuts := [9]) vX12_term wX12_term 2000 0 _ _ _ ?_
    refine And.intro rfl (Exists.intro _ (And.intro (by decide) (qx_M_mono (mv) ?_)))
    rintro _ σ1 ⟨fσ1, rfl, aσ1⟩
    refine And.intro (fun h4 => ?_) (fun h4 => ?_)
    · skip
      have h4 := bI_t h4
      exact l_term _ s1 _ rfl aσ1 (by omega) fσ1
    · skip
      have h4 := bI_f h4
      exact absurd (h4.symm.trans (rfl)) (by decide)
theorem l_sum9 {G : qx_G} {σ0 : qx_S} {Z : Nat → Int32} {T : q_T} {t : Nat} : ∀ (m : Nat) (s : q_P) (σ : qx_S), m = T.1 - s.1 → mP σ Z T t s → s.2.1 ≤ s.1 → ql lP σ0 σ →
    qx_K G qc_T 5 RX12 YX12_sum 9 [.ref 197, .retAddr 0] [] σ (fun r s' => rP σ0 s' Z T t (q_SR T s) r) := by
  intro m
  induction m using Nat.strongRecOn with
  | _ m ih =>
    intro s σ hm h hl hf
    obtain ⟨hsk, hle, h400, hb⟩ := h.sk
    by_cases k43 : q_kd T s.1 = 43
    · obtain ⟨es, eb, hlt, ete⟩ := q_sgn hb (c := 43) (by decide) (by decide) (by decide) (by decide) k43
      rw [q_SR_s (c := 100012) (by decide) k43]
      have sv : ∀ σ1, mP σ1 Z T t s → qx_M G qc_T 0 YX12_see [.ref 197] σ1 (fun r s' => r = some (.int (nI 43)) ∧ ql [(197, some 8)] σ1 s' ∧ mP s' Z T t s ∧ qx_mi s' 197 8 = nI s.1) := by
        intro σ1 a
        have := m_seeP (G := G) a
        rw [es] at this
        exact this
      have tp : ∀ σ1, mP σ1 Z T t s → qx_mi σ1 198 s.1 = nI 43 := by
        intro σ1 a
        rw [(a.1.2.2 s.1 hlt).1, eb]
        rfl
      cases hv : q_term T (q_pas T s) with
      | error f =>
        have mv : ∀ σ1, mP σ1 Z T t (q_pas T s) → qx_M G qc_T 4 YX12_term [.ref 197] σ1 (fun r s' => ql lP σ1 s' ∧ r = some (.int (bI false)) ∧ qx_mi s' 197 9 = nI f ∧ ∀ j, j < 400 * t → qx_mi s' 199 j = Z j) := by
          intro σ1 a
          have := m_term (G := G) a (Nat.le_trans hl (Nat.le_of_lt (q_nx_gt hlt).1))
          rw [hv] at this
          exact this
        refine qy_wp_ok (c := CX12_sum) (cuts := [9]) vX12_sum wX12_sum 2000 9 _ _ _ ?_
        refine And.intro rfl (Exists.intro _ (And.intro (by decide) (qx_M_mono (sv _ h) ?_)))
        rintro _ σ1 ⟨rfl, fσ1, afσ1, gσ1⟩
        have hf_σ1 : ql lP σ0 σ1 := hf.tr (fσ1.mn (by decide))
        have h_σ1 : mP σ1 Z T t s := afσ1
        refine Exists.intro (nI 43) (And.intro rfl ?_)
        refine And.intro (fun h15 => ?_) (fun h15 => ?_)
        · skip
          refine And.intro rfl (Exists.intro 198 (And.intro rfl ?_))
          refine And.intro rfl (Exists.intro 8 (Exists.intro (nI s.1) (And.intro rfl (And.intro gσ1 ?_))))
          refine Exists.intro (s.1) (Exists.intro (nI 43) (And.intro rfl (And.intro (Or.inl ⟨400, rfl, by omega, by decide⟩) (And.intro (tp _ afσ1) ?_))))
          refine Exists.intro (nI 43) (And.intro rfl ?_)
          refine And.intro (fun h38 => ?_) (fun h38 => ?_)
          · skip
            exact absurd (by decide) h38
          · skip
            refine Exists.intro (nI 2) (And.intro rfl ?_)
            refine And.intro rfl (Exists.intro 8 (Exists.intro (nI s.1) (And.intro rfl (And.intro gσ1 ?_))))
            refine Exists.intro (nI 1) (And.intro rfl ?_)
            refine Exists.intro (nI (s.1 + 1)) (And.intro (nI_add _ _) ?_)
            obtain ⟨σ2, eσ2⟩ : ∃ zs, zs = (qx_wi σ1 197 8 (nI (s.1 + 1))) := ⟨_, rfl⟩
            have fσ2 := qn_wif eσ2
            refine And.intro rfl (Exists.intro 8 (Exists.intro σ2 (And.intro rfl (And.intro eσ2.symm ?_))))
            have hf_σ2 : ql lP σ0 σ2 := hf_σ1.tr (fσ2.mn (by decide))
            have hq_σ2 : mP σ2 Z T t (q_pas T s) := h_σ1.pass hlt ete eσ2
            refine And.intro rfl (Exists.intro _ (And.intro (by decide) (qx_M_mono (mv _ hq_σ2) ?_)))
            rintro _ σ3 ⟨fσ3, rfl, gσ3, zσ3⟩
            have hf_σ3 : ql lP σ0 σ3 := hf_σ2.tr (fσ3.mn (by decide))
            refine And.intro (fun h61 => ?_) (fun h61 => ?_)
            · skip
              have h61 := bI_t h61
              exact absurd (h61.symm.trans (rfl)) (by decide)
            · skip
              have h61 := bI_f h61
              refine Exists.intro (nI 0) (And.intro rfl ?_)
              refine And.intro (Or.inl rfl) ?_
              exact ⟨hf_σ3, rfl, gσ3, zσ3⟩
        · skip
          exact absurd (by decide) h15
      | ok s1 =>
        obtain ⟨g1, g2⟩ := gP.em rfl (by omega) (q_term_g hv) 100012
        have g3 := (q_term_g hv).2.1
        have nx := fun σ1 => ih (T.1 - s1.1) (by have : s.1 < s1.1 := g1.1; omega) (q_em 100012 s1) σ1 rfl
        have mv : ∀ σ1, mP σ1 Z T t (q_pas T s) → qx_M G qc_T 4 YX12_term [.ref 197] σ1 (fun r s' => ql lP σ1 s' ∧ r = some (.int (bI true)) ∧ mP s' Z T t s1) := by
          intro σ1 a
          have := m_term (G := G) a (Nat.le_trans hl (Nat.le_of_lt (q_nx_gt hlt).1))
          rw [hv] at this
          exact this
        refine qy_wp_ok (c := CX12_sum) (cuts := [9]) vX12_sum wX12_sum 2000 9 _ _ _ ?_
        refine And.intro rfl (Exists.intro _ (And.intro (by decide) (qx_M_mono (sv _ h) ?_)))
        rintro _ σ1 ⟨rfl, fσ1, afσ1, gσ1⟩
        have hf_σ1 : ql lP σ0 σ1 := hf.tr (fσ1.mn (by decide))
        have h_σ1 : mP σ1 Z T t s := afσ1
        refine Exists.intro (nI 43) (And.intro rfl ?_)
        refine And.intro (fun h15 => ?_) (fun h15 => ?_)
        · skip
          refine And.intro rfl (Exists.intro 198 (And.intro rfl ?_))
          refine And.intro rfl (Exists.intro 8 (Exists.intro (nI s.1) (And.intro rfl (And.intro gσ1 ?_))))
          refine Exists.intro (s.1) (Exists.intro (nI 43) (And.intro rfl (And.intro (Or.inl ⟨400, rfl, by omega, by decide⟩) (And.intro (tp _ afσ1) ?_))))
          refine Exists.intro (nI 43) (And.intro rfl ?_)
          refine And.intro (fun h38 => ?_) (fun h38 => ?_)
          · skip
            exact absurd (by decide) h38
          · skip
            refine Exists.intro (nI 2) (And.intro rfl ?_)
            refine And.intro rfl (Exists.intro 8 (Exists.intro (nI s.1) (And.intro rfl (And.intro gσ1 ?_))))
            refine Exists.intro (nI 1) (And.intro rfl ?_)
            refine Exists.intro (nI (s.1 + 1)) (And.intro (nI_add _ _) ?_)
            obtain ⟨σ2, eσ2⟩ : ∃ zs, zs = (qx_wi σ1 197 8 (nI (s.1 + 1))) := ⟨_, rfl⟩
            have fσ2 := qn_wif eσ2
            refine And.intro rfl (Exists.intro 8 (Exists.intro σ2 (And.intro rfl (And.intro eσ2.symm ?_))))
            have hf_σ2 : ql lP σ0 σ2 := hf_σ1.tr (fσ2.mn (by decide))
            have hq_σ2 : mP σ2 Z T t (q_pas T s) := h_σ1.pass hlt ete eσ2
            refine And.intro rfl (Exists.intro _ (And.intro (by decide) (qx_M_mono (mv _ hq_σ2) ?_)))
            rintro _ σ3 ⟨fσ3, rfl, aσ3⟩
            have hf_σ3 : ql lP σ0 σ3 := hf_σ2.tr (fσ3.mn (by decide))
            refine And.intro (fun h61 => ?_) (fun h61 => ?_)
            · skip
              have h61 := bI_t h61
              refine Exists.intro (nI 0) (And.intro rfl ?_)
              refine And.intro rfl (Exists.intro _ (And.intro (by decide) (qx_M_mono (m_puts aσ3 (show s1.2.1 < 400 by omega) 100012 (by decide)) ?_)))
              rintro _ σ4 ⟨rfl, fσ4, bσ4⟩
              have hf_σ4 : ql lP σ0 σ4 := hf_σ3.tr (fσ4.mn (by decide))
              refine qx_K_le (ls := [.ref 197, .retAddr 0]) ⟨Or.inr rfl, Or.inl rfl, trivial⟩ ?_
              exact nx _ bσ4 (show s1.2.1 + 1 ≤ s1.1 by omega) hf_σ4
            · skip
              have h61 := bI_f h61
              exact absurd (h61.symm.trans (rfl)) (by decide)
        · skip
          exact absurd (by decide) h15
    by_cases k45 : q_kd T s.1 = 45
    · obtain ⟨es, eb, hlt, ete⟩ := q_sgn hb (c := 45) (by decide) (by decide) (by decide) (by decide) k45
      rw [q_SR_s (c := 100013) (by decide) k45]
      have sv : ∀ σ1, mP σ1 Z T t s → qx_M G qc_T 0 YX12_see [.ref 197] σ1 (fun r s' => r = some (.int (nI 45)) ∧ ql [(197, some 8)] σ1 s' ∧ mP s' Z T t s ∧ qx_mi s' 197 8 = nI s.1) := by
        intro σ1 a
        have := m_seeP (G := G) a
        rw [es] at this
        exact this
      have tp : ∀ σ1, mP σ1 Z T t s → qx_mi σ1 198 s.1 = nI 45 := by
        intro σ1 a
        rw [(a.1.2.2 s.1 hlt).1, eb]
        rfl
      cases hv : q_term T (q_pas T s) with
      | error f =>
        have mv : ∀ σ1, mP σ1 Z T t (q_pas T s) → qx_M G qc_T 4 YX12_term [.ref 197] σ1 (fun r s' => ql lP σ1 s' ∧ r = some (.int (bI false)) ∧ qx_mi s' 197 9 = nI f ∧ ∀ j, j < 400 * t → qx_mi s' 199 j = Z j) := by
          intro σ1 a
          have := m_term (G := G) a (Nat.le_trans hl (Nat.le_of_lt (q_nx_gt hlt).1))
          rw [hv] at this
          exact this
        refine qy_wp_ok (c := CX12_sum) (cuts := [9]) vX12_sum wX12_sum 2000 9 _ _ _ ?_
        refine And.intro rfl (Exists.intro _ (And.intro (by decide) (qx_M_mono (sv _ h) ?_)))
        rintro _ σ1 ⟨rfl, fσ1, afσ1, gσ1⟩
        have hf_σ1 : ql lP σ0 σ1 := hf.tr (fσ1.mn (by decide))
        have h_σ1 : mP σ1 Z T t s := afσ1
        refine Exists.intro (nI 43) (And.intro rfl ?_)
        refine And.intro (fun h15 => ?_) (fun h15 => ?_)
        · skip
          exact absurd h15 (by decide)
        · skip
          refine And.intro rfl (Exists.intro _ (And.intro (by decide) (qx_M_mono (sv _ h_σ1) ?_)))
          rintro _ σ2 ⟨rfl, fσ2, afσ2, gσ2⟩
          have hf_σ2 : ql lP σ0 σ2 := hf_σ1.tr (fσ2.mn (by decide))
          have h_σ2 : mP σ2 Z T t s := afσ2
          refine Exists.intro (nI 45) (And.intro rfl ?_)
          refine And.intro (fun h24 => ?_) (fun h24 => ?_)
          · skip
            exact absurd (by decide) h24
          · skip
            refine And.intro rfl (Exists.intro 198 (And.intro rfl ?_))
            refine And.intro rfl (Exists.intro 8 (Exists.intro (nI s.1) (And.intro rfl (And.intro gσ2 ?_))))
            refine Exists.intro (s.1) (Exists.intro (nI 45) (And.intro rfl (And.intro (Or.inl ⟨400, rfl, by omega, by decide⟩) (And.intro (tp _ afσ2) ?_))))
            refine Exists.intro (nI 43) (And.intro rfl ?_)
            refine And.intro (fun h38 => ?_) (fun h38 => ?_)
            · skip
              refine Exists.intro (nI 3) (And.intro rfl ?_)
              refine And.intro rfl (Exists.intro 8 (Exists.intro (nI s.1) (And.intro rfl (And.intro gσ2 ?_))))
              refine Exists.intro (nI 1) (And.intro rfl ?_)
              refine Exists.intro (nI (s.1 + 1)) (And.intro (nI_add _ _) ?_)
              obtain ⟨σ3, eσ3⟩ : ∃ zs, zs = (qx_wi σ2 197 8 (nI (s.1 + 1))) := ⟨_, rfl⟩
              have fσ3 := qn_wif eσ3
              refine And.intro rfl (Exists.intro 8 (Exists.intro σ3 (And.intro rfl (And.intro eσ3.symm ?_))))
              have hf_σ3 : ql lP σ0 σ3 := hf_σ2.tr (fσ3.mn (by decide))
              have hq_σ3 : mP σ3 Z T t (q_pas T s) := h_σ2.pass hlt ete eσ3
              refine And.intro rfl (Exists.intro _ (And.intro (by decide) (qx_M_mono (mv _ hq_σ3) ?_)))
              rintro _ σ4 ⟨fσ4, rfl, gσ4, zσ4⟩
              have hf_σ4 : ql lP σ0 σ4 := hf_σ3.tr (fσ4.mn (by decide))
              refine And.intro (fun h61 => ?_) (fun h61 => ?_)
              · skip
                have h61 := bI_t h61
                exact absurd (h61.symm.trans (rfl)) (by decide)
              · skip
                have h61 := bI_f h61
                refine Exists.intro (nI 0) (And.intro rfl ?_)
                refine And.intro (Or.inl rfl) ?_
                exact ⟨hf_σ4, rfl, gσ4, zσ4⟩
            · skip
              exact absurd h38 (by decide)
      | ok s1 =>
        obtain ⟨g1, g2⟩ := gP.em rfl (by omega) (q_term_g hv) 100013
        have g3 := (q_term_g hv).2.1
        have nx := fun σ1 => ih (T.1 - s1.1) (by have : s.1 < s1.1 := g1.1; omega) (q_em 100013 s1) σ1 rfl
        have mv : ∀ σ1, mP σ1 Z T t (q_pas T s) → qx_M G qc_T 4 YX12_term [.ref 197] σ1 (fun r s' => ql lP σ1 s' ∧ r = some (.int (bI true)) ∧ mP s' Z T t s1) := by
          intro σ1 a
          have := m_term (G := G) a (Nat.le_trans hl (Nat.le_of_lt (q_nx_gt hlt).1))
          rw [hv] at this
          exact this
        refine qy_wp_ok (c := CX12_sum) (cuts := [9]) vX12_sum wX12_sum 2000 9 _ _ _ ?_
        refine And.intro rfl (Exists.intro _ (And.intro (by decide) (qx_M_mono (sv _ h) ?_)))
        rintro _ σ1 ⟨rfl, fσ1, afσ1, gσ1⟩
        have hf_σ1 : ql lP σ0 σ1 := hf.tr (fσ1.mn (by decide))
        have h_σ1 : mP σ1 Z T t s := afσ1
        refine Exists.intro (nI 43) (And.intro rfl ?_)
        refine And.intro (fun h15 => ?_) (fun h15 => ?_)
        · skip
          exact absurd h15 (by decide)
        · skip
          refine And.intro rfl (Exists.intro _ (And.intro (by decide) (qx_M_mono (sv _ h_σ1) ?_)))
          rintro _ σ2 ⟨rfl, fσ2, afσ2, gσ2⟩
          have hf_σ2 : ql lP σ0 σ2 := hf_σ1.tr (fσ2.mn (by decide))
          have h_σ2 : mP σ2 Z T t s := afσ2
          refine Exists.intro (nI 45) (And.intro rfl ?_)
          refine And.intro (fun h24 => ?_) (fun h24 => ?_)
          · skip
            exact absurd (by decide) h24
          · skip
            refine And.intro rfl (Exists.intro 198 (And.intro rfl ?_))
            refine And.intro rfl (Exists.intro 8 (Exists.intro (nI s.1) (And.intro rfl (And.intro gσ2 ?_))))
            refine Exists.intro (s.1) (Exists.intro (nI 45) (And.intro rfl (And.intro (Or.inl ⟨400, rfl, by omega, by decide⟩) (And.intro (tp _ afσ2) ?_))))
            refine Exists.intro (nI 43) (And.intro rfl ?_)
            refine And.intro (fun h38 => ?_) (fun h38 => ?_)
            · skip
              refine Exists.intro (nI 3) (And.intro rfl ?_)
              refine And.intro rfl (Exists.intro 8 (Exists.intro (nI s.1) (And.intro rfl (And.intro gσ2 ?_))))
              refine Exists.intro (nI 1) (And.intro rfl ?_)
              refine Exists.intro (nI (s.1 + 1)) (And.intro (nI_add _ _) ?_)
              obtain ⟨σ3, eσ3⟩ : ∃ zs, zs = (qx_wi σ2 197 8 (nI (s.1 + 1))) := ⟨_, rfl⟩
              have fσ3 := qn_wif eσ3
              refine And.intro rfl (Exists.intro 8 (Exists.intro σ3 (And.intro rfl (And.intro eσ3.symm ?_))))
              have hf_σ3 : ql lP σ0 σ3 := hf_σ2.tr (fσ3.mn (by decide))
              have hq_σ3 : mP σ3 Z T t (q_pas T s) := h_σ2.pass hlt ete eσ3
              refine And.intro rfl (Exists.intro _ (And.intro (by decide) (qx_M_mono (mv _ hq_σ3) ?_)))
              rintro _ σ4 ⟨fσ4, rfl, aσ4⟩
              have hf_σ4 : ql lP σ0 σ4 := hf_σ3.tr (fσ4.mn (by decide))
              refine And.intro (fun h61 => ?_) (fun h61 => ?_)
              · skip
                have h61 := bI_t h61
                refine Exists.intro (nI 0) (And.intro rfl ?_)
                refine And.intro rfl (Exists.intro _ (And.intro (by decide) (qx_M_mono (m_puts aσ4 (show s1.2.1 < 400 by omega) 100013 (by decide)) ?_)))
                rintro _ σ5 ⟨rfl, fσ5, bσ5⟩
                have hf_σ5 : ql lP σ0 σ5 := hf_σ4.tr (fσ5.mn (by decide))
                refine qx_K_le (ls := [.ref 197, .retAddr 0]) ⟨Or.inr rfl, Or.inl rfl, trivial⟩ ?_
                exact nx _ bσ5 (show s1.2.1 + 1 ≤ s1.1 by omega) hf_σ5
              · skip
                have h61 := bI_f h61
                exact absurd (h61.symm.trans (rfl)) (by decide)
            · skip
              exact absurd h38 (by decide)
    · rw [q_SR_e k43 k45]
      refine qy_wp_ok (c := CX12_sum) (cuts := [9, 27]) vX12_sum wX12_sum 2000 9 _ _ _ ?_
      refine And.intro rfl (Exists.intro _ (And.intro (by decide) (qx_M_mono (m_seeP h) ?_)))
      rintro _ σ1 ⟨rfl, fσ1, afσ1, gσ1⟩
      have hf_σ1 : ql lP σ0 σ1 := hf.tr (fσ1.mn (by decide))
      have h_σ1 : mP σ1 Z T t s := afσ1
      refine Exists.intro (nI 43) (And.intro rfl ?_)
      refine And.intro (fun h15 => ?_) (fun h15 => ?_)
      · skip
        exact absurd ((q_kd_c hb (by decide) (by decide) (by decide) (by decide)).mp h15) k43
      · skip
        refine And.intro rfl (Exists.intro _ (And.intro (by decide) (qx_M_mono (m_seeP h_σ1) ?_)))
        rintro _ σ2 ⟨rfl, fσ2, afσ2, gσ2⟩
        have hf_σ2 : ql lP σ0 σ2 := hf_σ1.tr (fσ2.mn (by decide))
        have h_σ2 : mP σ2 Z T t s := afσ2
        refine Exists.intro (nI 45) (And.intro rfl ?_)
        refine And.intro (fun h24 => ?_) (fun h24 => ?_)
        · skip
          refine Exists.intro (nI 1) (And.intro rfl ?_)
          refine And.intro (Or.inr rfl) ?_
          exact ⟨hf_σ2, rfl, h_σ2⟩
        · skip
          exact absurd ((q_kd_c hb (by decide) (by decide) (by decide) (by decide)).mp h24) k45
theorem m_sum {G : qx_G} {σ : qx_S} {Z : Nat → Int32} {T : q_T} {t : Nat} {s : q_P} (h : mP σ Z T t s) (hl : s.2.1 ≤ s.1) : qx_M G qc_T 5 YX12_sum [.ref 197] σ (fun r s' => rP σ s' Z T t (q_sm T s) r) := by
  have mv := m_term (G := G) h hl
  cases hv : q_term T s with
  | error f =>
    rw [hv] at mv
    rw [show q_sm T s = .error f by show q_bd (q_term T s) _ = _; rw [hv]; rfl]
    refine qx_M_in rfl (Nat.le_of_ble_eq_true rfl) ?_
    refine qy_wp_ok (c := CX12_sum) (cuts := [9]) vX12_sum wX12_sum 2000 0 _ _ _ ?_
    refine And.intro rfl (Exists.intro _ (And.intro (by decide) (qx_M_mono (mv) ?_)))
    rintro _ σ1 ⟨fσ1, rfl, gσ1, zσ1⟩
    refine And.intro (fun h4 => ?_) (fun h4 => ?_)
    · skip
      have h4 := bI_t h4
      exact absurd (h4.symm.trans (rfl)) (by decide)
    · skip
      have h4 := bI_f h4
      refine Exists.intro (nI 0) (And.intro rfl ?_)
      refine And.intro (Or.inl rfl) ?_
      exact ⟨fσ1, rfl, gσ1, zσ1⟩
  | ok s1 =>
    rw [hv] at mv
    have g := q_term_g hv
    obtain ⟨g0, g1, g2, g3, g4, -⟩ := g
    rw [show q_sm T s = q_SR T s1 by show q_bd (q_term T s) _ = _; rw [hv]; rfl]
    refine qx_M_in rfl (Nat.le_of_ble_eq_true rfl) ?_
    refine qy_wp_ok (c := CX12_sum) (cuts := [9]) vX12_sum wX12_sum 2000 0 _ _ _ ?_
    refine And.intro rfl (Exists.intro _ (And.intro (by decide) (qx_M_mono (mv) ?_)))
    rintro _ σ1 ⟨fσ1, rfl, aσ1⟩
    refine And.intro (fun h4 => ?_) (fun h4 => ?_)
    · skip
      have h4 := bI_t h4
      exact l_sum9 _ s1 _ rfl aσ1 (by omega) fσ1
    · skip
      have h4 := bI_f h4
      exact absurd (h4.symm.trans (rfl)) (by decide)

