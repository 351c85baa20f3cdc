/-! THE REFERENCE: comparisons -/
theorem q_sgn2 {T : q_T} {p : Nat} (hb : ∀ k, k < T.1 → T.2 k < 256) (hp : p < T.1) (c : Nat) (hc : c = 60 ∨ c = 62) (hT : T.2 p = c) : q_see T p = nI c ∧ q_kd T p = (if p + 1 < T.1 ∧ T.2 (p + 1) = 61 then (if c = 60 then 258 else 259) else c) ∧ q_te T p = (if p + 1 < T.1 ∧ T.2 (p + 1) = 61 then p + 2 else p + 1) := by
  have nl : isL T p = false := decide_eq_false (fun z => by omega)
  have nd : isD T p = false := decide_eq_false (fun z => by omega)
  have es : q_see T p = nI c := by
    unfold q_see
    rw [if_pos hp, hT]
  obtain ⟨a, b⟩ := q_kd_S hp nl nd
  rw [a, b, hT]
  refine ⟨es, ?_⟩
  by_cases z : p + 1 < T.1 ∧ T.2 (p + 1) = 61
  · have e : q_two2 T p = true := decide_eq_true ⟨by omega, z.1, z.2⟩
    rw [if_pos e, if_pos e, if_pos z, if_pos z]
    exact ⟨rfl, rfl⟩
  · have e : q_two2 T p = false := decide_eq_false (fun y => z y.2)
    have e' : ¬ q_two2 T p = true := by rw [e]; decide
    rw [if_neg e', if_neg e', if_neg z, if_neg z]
    exact ⟨rfl, rfl⟩
/-- a comparison's kind tells its bytes -/
theorem q_cpk {T : q_T} {p k : Nat} (hb : ∀ k, k < T.1 → T.2 k < 256) (hk : q_kd T p = k) (h4 : k = 60 ∨ k = 258 ∨ k = 62 ∨ k = 259) : p < T.1 ∧ T.2 p = (if k = 60 ∨ k = 258 then 60 else 62) ∧ q_see T p = nI (if k = 60 ∨ k = 258 then 60 else 62) ∧ (p + 1 < T.1 ∧ T.2 (p + 1) = 61 ↔ k = 258 ∨ k = 259) ∧ q_te T p = (if k = 258 ∨ k = 259 then p + 2 else p + 1) := by
  have hlt := q_kd_lt (T := T) (p := p) (by omega)
  have b := hb p hlt
  have nl : isL T p = false := by
    cases z : isL T p with
    | false => rfl
    | true => rw [q_kd_L z] at hk; split at hk <;> omega
  have nd : isD T p = false := by
    cases z : isD T p with
    | false => rfl
    | true => rw [q_kd_D z] at hk; split at hk <;> omega
  have e0 := (q_kd_S hlt nl nd).1
  rw [hk] at e0
  have hT : T.2 p = 60 ∨ T.2 p = 62 := by
    cases z : q_two2 T p with
    | true => exact (of_decide_eq_true z).1
    | false =>
      rw [if_neg (by rw [z]; decide)] at e0
      omega
  rcases hT with e | e
  · obtain ⟨a1, a2, a3⟩ := q_sgn2 hb hlt 60 (Or.inl rfl) e
    rw [hk] at a2
    by_cases y : p + 1 < T.1 ∧ T.2 (p + 1) = 61
    · rw [if_pos y] at a2 a3
      have a2 : k = 258 := a2
      subst a2
      exact ⟨hlt, e, a1, ⟨fun _ => Or.inl rfl, fun _ => y⟩, a3⟩
    · rw [if_neg y] at a2 a3
      subst a2
      exact ⟨hlt, e, a1, ⟨fun z => absurd z y, fun z => absurd z (by decide)⟩, a3⟩
  · obtain ⟨a1, a2, a3⟩ := q_sgn2 hb hlt 62 (Or.inr rfl) e
    rw [hk] at a2
    by_cases y : p + 1 < T.1 ∧ T.2 (p + 1) = 61
    · rw [if_pos y] at a2 a3
      have a2 : k = 259 := a2
      subst a2
      exact ⟨hlt, e, a1, ⟨fun _ => Or.inr rfl, fun _ => y⟩, a3⟩
    · rw [if_neg y] at a2 a3
      subst a2
      exact ⟨hlt, e, a1, ⟨fun z => absurd z y, fun z => absurd z (by decide)⟩, a3⟩
theorem l_cmpC {G : qx_G} {σ0 σ : qx_S} {Z : Nat → Int32} {T : q_T} {t j : Nat} {s1 : q_P} (hj : j ≤ 4) (hk : q_kd T s1.1 ≠ 999) (hl : s1.2.1 ≤ s1.1) (h : mP σ Z T t (q_mk T s1)) (hf : ql lP σ0 σ) : qx_K G qc_T 6 RX12 YX12_compare 154 [.ref 197, .retAddr 0, .retAddr 0, .retAddr 0, .int (nI j)] [] σ (fun r s' => rP σ0 s' Z T t (q_bd (q_sm T (q_mk T s1)) (fun s2 => .ok (q_em (100016 + j) s2))) r) := by
  have hp := q_nx_gt (q_kd_lt hk)
  obtain ⟨-, -, h400, -⟩ := h.sk
  have ms := m_sum (G := G) h (show s1.2.1 ≤ q_nx T s1.1 by omega)
  cases hv : q_sm T (q_mk T s1) with
  | error f =>
    rw [hv] at ms
    refine qy_wp_ok (c := CX12_compare) (cuts := []) vX12_compare wX12_compare 2000 154 _ _ _ ?_
    refine And.intro rfl (Exists.intro _ (And.intro (by decide) (qx_M_mono (ms) ?_)))
    rintro _ σ1 ⟨fσ1, rfl, gσ1, zσ1⟩
    refine And.intro (fun h158 => ?_) (fun h158 => ?_)
    · skip
      have h158 := bI_t h158
      exact absurd (h158.symm.trans (rfl)) (by decide)
    · skip
      have h158 := bI_f h158
      refine Exists.intro (nI 0) (And.intro rfl ?_)
      refine And.intro (Or.inl rfl) ?_
      exact ⟨hf.tr fσ1, rfl, gσ1, zσ1⟩
  | ok s2 =>
    rw [hv] at ms
    obtain ⟨g0, g1, g2, g3, g4, -⟩ := q_sm_g hv
    have g3 : s2.2.1 + q_nx T s1.1 ≤ s1.2.1 + s2.1 := g3
    have hcg : 6 + j + 16 * 0 = q_sg (100016 + j) := by
      unfold q_sg
      rw [if_neg (by omega), if_neg (by omega)]
      omega
    refine qy_wp_ok (c := CX12_compare) (cuts := []) vX12_compare wX12_compare 2000 154 _ _ _ ?_
    refine And.intro rfl (Exists.intro _ (And.intro (by decide) (qx_M_mono (ms) ?_)))
    rintro _ σ1 ⟨fσ1, rfl, aσ1⟩
    refine And.intro (fun h158 => ?_) (fun h158 => ?_)
    · skip
      have h158 := bI_t h158
      refine Exists.intro (nI 6) (And.intro rfl ?_)
      refine Exists.intro (nI (6 + j)) (And.intro (nI_add _ _) ?_)
      refine Exists.intro (nI 0) (And.intro rfl ?_)
      refine And.intro rfl (Exists.intro _ (And.intro (by decide) (qx_M_mono (m_puts aσ1 (show s2.2.1 < 400 by omega) (100016 + j) hcg) ?_)))
      rintro _ σ2 ⟨rfl, fσ2, bσ2⟩
      refine Exists.intro (nI 1) (And.intro rfl ?_)
      refine And.intro (Or.inr rfl) ?_
      exact ⟨hf.tr (fσ1.tr (fσ2.mn (by decide))), rfl, bσ2⟩
    · skip
      have h158 := bI_f h158
      exact absurd (h158.symm.trans (rfl)) (by decide)
/-- from the sign on -/
def q_cmr (T : q_T) (s1 : q_P) : q_X := match q_cp1 (q_kd T s1.1) with
  | none => .error (1 + 8 * s1.1 + 0)
  | some c => if s1.2.2.2 = 60 then .error (1 + 8 * s1.1 + 3) else q_bd (q_sm T (q_mk T s1)) (fun s2 => .ok (q_em c s2))
theorem q_cmr_f {T : q_T} {s1 : q_P} {k c : Nat} (hk : q_kd T s1.1 = k) (hc : q_cp1 k = some c) (hm : s1.2.2.2 = 60) : q_cmr T s1 = .error (1 + 8 * s1.1 + 3) := by
  unfold q_cmr
  rw [hk, hc]
  exact if_pos hm
theorem q_cmr_o {T : q_T} {s1 : q_P} {k c : Nat} (hk : q_kd T s1.1 = k) (hc : q_cp1 k = some c) (hm : s1.2.2.2 ≠ 60) : q_cmr T s1 = q_bd (q_sm T (q_mk T s1)) (fun s2 => .ok (q_em c s2)) := by
  unfold q_cmr
  rw [hk, hc]
  exact if_neg hm
theorem q_cmr_n {T : q_T} {s1 : q_P} (hc : q_cp1 (q_kd T s1.1) = none) : q_cmr T s1 = .error (1 + 8 * s1.1 + 0) := by
  unfold q_cmr
  rw [hc]
theorem l_cmpA {G : qx_G} {σ0 σ : qx_S} {Z : Nat → Int32} {T : q_T} {t : Nat} {s1 : q_P} (h : mP σ Z T t s1) (hl : s1.2.1 ≤ s1.1) (hf : ql lP σ0 σ) : qx_K G qc_T 6 RX12 YX12_compare 9 [.ref 197, .retAddr 0, .retAddr 0, .retAddr 0, .retAddr 0] [] σ (fun r s' => rP σ0 s' Z T t (q_cmr T s1) r) := by
  obtain ⟨hsk, hle, h400, hb⟩ := h.sk
  by_cases k60 : q_kd T s1.1 = 60
  · obtain ⟨hlt, eb, es, al, ete⟩ := q_cpk hb k60 (by decide)
    have es : q_see T s1.1 = nI 60 := es
    have ete : q_te T s1.1 = s1.1 + 1 := ete
    have al2 : ¬ (s1.1 + 1 < T.1 ∧ T.2 (s1.1 + 1) = 61) := fun z => absurd (al.mp z) (by decide)
    have sv : qx_M G qc_T 0 YX12_see [.ref 197] σ (fun r s' => r = some (.int (nI 60)) ∧ ql [(197, some 8)] σ s' ∧ mP s' Z T t s1 ∧ qx_mi s' 197 8 = nI s1.1) := by
      have := m_seeP (G := G) h
      rw [es] at this
      exact this
    by_cases m6 : s1.2.2.2 = 60
    · rw [q_cmr_f k60 rfl m6]
      refine qy_wp_ok (c := CX12_compare) (cuts := [154]) vX12_compare wX12_compare 2000 9 _ _ _ ?_
      refine And.intro rfl (Exists.intro _ (And.intro (by decide) (qx_M_mono (sv) ?_)))
      rintro _ σ1 ⟨rfl, fσ1, aσ1, gσ1⟩
      have hf_σ1 : ql lP σ0 σ1 := hf.tr (fσ1.mn (by decide))
      refine And.intro rfl (Exists.intro 8 (Exists.intro (nI s1.1) (And.intro rfl (And.intro gσ1 ?_))))
      refine Exists.intro (nI 60) (And.intro rfl ?_)
      refine And.intro (fun h22 => ?_) (fun h22 => ?_)
      · skip
        refine And.intro rfl (Exists.intro 8 (Exists.intro (nI s1.1) (And.intro rfl (And.intro gσ1 ?_))))
        refine Exists.intro (nI 1) (And.intro rfl ?_)
        refine Exists.intro (nI (s1.1 + 1)) (And.intro (nI_add _ _) ?_)
        obtain ⟨σ2, eσ2⟩ : ∃ zs, zs = (qx_wi σ1 197 8 (nI (s1.1 + 1))) := ⟨_, rfl⟩
        have fσ2 := qn_wif eσ2
        refine And.intro rfl (Exists.intro 8 (Exists.intro σ2 (And.intro rfl (And.intro eσ2.symm ?_))))
        have hf_σ2 : ql lP σ0 σ2 := hf_σ1.tr (fσ2.mn (by decide))
        have hq_σ2 : mP σ2 Z T t (q_pas T s1) := aσ1.pass hlt ete eσ2
        refine Exists.intro (nI 61) (And.intro rfl ?_)
        refine And.intro (fun h57 => ?_) (fun h57 => ?_)
        · skip
          exact absurd h57 (by decide)
        · skip
          refine And.intro rfl (Exists.intro 8 (Exists.intro (nI (s1.1 + 1)) (And.intro rfl (And.intro (qn_eq eσ2) ?_))))
          refine And.intro rfl (Exists.intro 1 (Exists.intro (nI T.1) (And.intro rfl (And.intro ((qn_ne eσ2 (Or.inr (by decide))).trans (aσ1.1.1)) ?_))))
          refine And.intro (fun h68 => ?_) (fun h68 => ?_)
          · skip
            have h68 := nI_leT (a := T.1) (b := s1.1 + 1) (by omega) (by omega) h68
            refine Exists.intro (nI 0) (And.intro rfl ?_)
            refine And.intro (fun h92 => ?_) (fun h92 => ?_)
            · skip
              refine And.intro rfl (Exists.intro _ (And.intro (by decide) (qx_M_mono (m_makes_no hq_σ2 m6) ?_)))
              rintro _ σ3 ⟨rfl, fσ3, gσ3⟩
              have hf_σ3 : ql lP σ0 σ3 := hf_σ2.tr (fσ3.mn (by decide))
              refine And.intro (fun h110 => ?_) (fun h110 => ?_)
              · skip
                have h110 := bI_t h110
                exact absurd (h110.symm.trans (rfl)) (by decide)
              · skip
                have h110 := bI_f h110
                refine Exists.intro (nI 0) (And.intro rfl ?_)
                refine And.intro (Or.inl rfl) ?_
                exact ⟨hf_σ3, rfl, gσ3, hq_σ2.z fσ3 (fun _ => rfl)⟩
            · skip
              exact absurd (by decide) h92
          · skip
            have h68 := nI_leF (a := T.1) (b := s1.1 + 1) (by omega) (by omega) h68
            refine And.intro rfl (Exists.intro 198 (And.intro rfl ?_))
            refine And.intro rfl (Exists.intro 8 (Exists.intro (nI (s1.1 + 1)) (And.intro rfl (And.intro (qn_eq eσ2) ?_))))
            refine Exists.intro (s1.1 + 1) (Exists.intro (sx (T.2 (s1.1 + 1))) (And.intro rfl (And.intro (Or.inl ⟨400, rfl, by omega, by decide⟩) (And.intro ((fσ2.i _ _ rfl).trans ((aσ1.1.2.2 _ (by omega)).1)) ?_))))
            refine Exists.intro (nI 61) (And.intro rfl ?_)
            refine And.intro (fun h82 => ?_) (fun h82 => ?_)
            · skip
              refine Exists.intro (nI 0) (And.intro rfl ?_)
              refine And.intro (fun h92 => ?_) (fun h92 => ?_)
              · skip
                refine And.intro rfl (Exists.intro _ (And.intro (by decide) (qx_M_mono (m_makes_no hq_σ2 m6) ?_)))
                rintro _ σ3 ⟨rfl, fσ3, gσ3⟩
                have hf_σ3 : ql lP σ0 σ3 := hf_σ2.tr (fσ3.mn (by decide))
                refine And.intro (fun h110 => ?_) (fun h110 => ?_)
                · skip
                  have h110 := bI_t h110
                  exact absurd (h110.symm.trans (rfl)) (by decide)
                · skip
                  have h110 := bI_f h110
                  refine Exists.intro (nI 0) (And.intro rfl ?_)
                  refine And.intro (Or.inl rfl) ?_
                  exact ⟨hf_σ3, rfl, gσ3, hq_σ2.z fσ3 (fun _ => rfl)⟩
              · skip
                exact absurd (by decide) h92
            · skip
              exact absurd ⟨by omega, (sx_eq (hb _ (by omega)) (by decide)).mp h82⟩ al2
      · skip
        exact absurd (by decide) h22
    · rw [q_cmr_o k60 rfl m6]
      refine qy_wp_ok (c := CX12_compare) (cuts := [154]) vX12_compare wX12_compare 2000 9 _ _ _ ?_
      refine And.intro rfl (Exists.intro _ (And.intro (by decide) (qx_M_mono (sv) ?_)))
      rintro _ σ1 ⟨rfl, fσ1, aσ1, gσ1⟩
      have hf_σ1 : ql lP σ0 σ1 := hf.tr (fσ1.mn (by decide))
      refine And.intro rfl (Exists.intro 8 (Exists.intro (nI s1.1) (And.intro rfl (And.intro gσ1 ?_))))
      refine Exists.intro (nI 60) (And.intro rfl ?_)
      refine And.intro (fun h22 => ?_) (fun h22 => ?_)
      · skip
        refine And.intro rfl (Exists.intro 8 (Exists.intro (nI s1.1) (And.intro rfl (And.intro gσ1 ?_))))
        refine Exists.intro (nI 1) (And.intro rfl ?_)
        refine Exists.intro (nI (s1.1 + 1)) (And.intro (nI_add _ _) ?_)
        obtain ⟨σ2, eσ2⟩ : ∃ zs, zs = (qx_wi σ1 197 8 (nI (s1.1 + 1))) := ⟨_, rfl⟩
        have fσ2 := qn_wif eσ2
        refine And.intro rfl (Exists.intro 8 (Exists.intro σ2 (And.intro rfl (And.intro eσ2.symm ?_))))
        have hf_σ2 : ql lP σ0 σ2 := hf_σ1.tr (fσ2.mn (by decide))
        have hq_σ2 : mP σ2 Z T t (q_pas T s1) := aσ1.pass hlt ete eσ2
        refine Exists.intro (nI 61) (And.intro rfl ?_)
        refine And.intro (fun h57 => ?_) (fun h57 => ?_)
        · skip
          exact absurd h57 (by decide)
        · skip
          refine And.intro rfl (Exists.intro 8 (Exists.intro (nI (s1.1 + 1)) (And.intro rfl (And.intro (qn_eq eσ2) ?_))))
          refine And.intro rfl (Exists.intro 1 (Exists.intro (nI T.1) (And.intro rfl (And.intro ((qn_ne eσ2 (Or.inr (by decide))).trans (aσ1.1.1)) ?_))))
          refine And.intro (fun h68 => ?_) (fun h68 => ?_)
          · skip
            have h68 := nI_leT (a := T.1) (b := s1.1 + 1) (by omega) (by omega) h68
            refine Exists.intro (nI 0) (And.intro rfl ?_)
            refine And.intro (fun h92 => ?_) (fun h92 => ?_)
            · skip
              refine And.intro rfl (Exists.intro _ (And.intro (by decide) (qx_M_mono (m_makes_ok hq_σ2 m6) ?_)))
              rintro _ σ3 ⟨rfl, fσ3, aσ3⟩
              have hf_σ3 : ql lP σ0 σ3 := hf_σ2.tr (fσ3.mn (by decide))
              refine And.intro (fun h110 => ?_) (fun h110 => ?_)
              · skip
                have h110 := bI_t h110
                refine Exists.intro (nI 60) (And.intro rfl ?_)
                refine And.intro (fun h118 => ?_) (fun h118 => ?_)
                · skip
                  exact absurd (by decide) h118
                · skip
                  refine And.intro (fun h122 => ?_) (fun h122 => ?_)
                  · skip
                    refine Exists.intro (nI 0) (And.intro rfl ?_)
                    refine qx_K_le (ls := [.ref 197, .retAddr 0, .retAddr 0, .retAddr 0, .int (nI 0)]) ⟨Or.inr rfl, Or.inl rfl, Or.inl rfl, Or.inl rfl, Or.inr rfl, trivial⟩ ?_
                    exact l_cmpC (j := 0) (by decide) (by omega) hl aσ3 hf_σ3
                  · skip
                    exact absurd (by decide) h122
              · skip
                have h110 := bI_f h110
                exact absurd (h110.symm.trans (rfl)) (by decide)
            · skip
              exact absurd (by decide) h92
          · skip
            have h68 := nI_leF (a := T.1) (b := s1.1 + 1) (by omega) (by omega) h68
            refine And.intro rfl (Exists.intro 198 (And.intro rfl ?_))
            refine And.intro rfl (Exists.intro 8 (Exists.intro (nI (s1.1 + 1)) (And.intro rfl (And.intro (qn_eq eσ2) ?_))))
            refine Exists.intro (s1.1 + 1) (Exists.intro (sx (T.2 (s1.1 + 1))) (And.intro rfl (And.intro (Or.inl ⟨400, rfl, by omega, by decide⟩) (And.intro ((fσ2.i _ _ rfl).trans ((aσ1.1.2.2 _ (by omega)).1)) ?_))))
            refine Exists.intro (nI 61) (And.intro rfl ?_)
            refine And.intro (fun h82 => ?_) (fun h82 => ?_)
            · skip
              refine Exists.intro (nI 0) (And.intro rfl ?_)
              refine And.intro (fun h92 => ?_) (fun h92 => ?_)
              · skip
                refine And.intro rfl (Exists.intro _ (And.intro (by decide) (qx_M_mono (m_makes_ok hq_σ2 m6) ?_)))
                rintro _ σ3 ⟨rfl, fσ3, aσ3⟩
                have hf_σ3 : ql lP σ0 σ3 := hf_σ2.tr (fσ3.mn (by decide))
                refine And.intro (fun h110 => ?_) (fun h110 => ?_)
                · skip
                  have h110 := bI_t h110
                  refine Exists.intro (nI 60) (And.intro rfl ?_)
                  refine And.intro (fun h118 => ?_) (fun h118 => ?_)
                  · skip
                    exact absurd (by decide) h118
                  · skip
                    refine And.intro (fun h122 => ?_) (fun h122 => ?_)
                    · skip
                      refine Exists.intro (nI 0) (And.intro rfl ?_)
                      refine qx_K_le (ls := [.ref 197, .retAddr 0, .retAddr 0, .retAddr 0, .int (nI 0)]) ⟨Or.inr rfl, Or.inl rfl, Or.inl rfl, Or.inl rfl, Or.inr rfl, trivial⟩ ?_
                      exact l_cmpC (j := 0) (by decide) (by omega) hl aσ3 hf_σ3
                    · skip
                      exact absurd (by decide) h122
                · skip
                  have h110 := bI_f h110
                  exact absurd (h110.symm.trans (rfl)) (by decide)
              · skip
                exact absurd (by decide) h92
            · skip
              exact absurd ⟨by omega, (sx_eq (hb _ (by omega)) (by decide)).mp h82⟩ al2
      · skip
        exact absurd (by decide) h22
  by_cases k258 : q_kd T s1.1 = 258
  · obtain ⟨hlt, eb, es, al, ete⟩ := q_cpk hb k258 (by decide)
    have es : q_see T s1.1 = nI 60 := es
    have ete : q_te T s1.1 = s1.1 + 2 := ete
    have al2 := al.mpr (by decide)
    have sv : qx_M G qc_T 0 YX12_see [.ref 197] σ (fun r s' => r = some (.int (nI 60)) ∧ ql [(197, some 8)] σ s' ∧ mP s' Z T t s1 ∧ qx_mi s' 197 8 = nI s1.1) := by
      have := m_seeP (G := G) h
      rw [es] at this
      exact this
    by_cases m6 : s1.2.2.2 = 60
    · rw [q_cmr_f k258 rfl m6]
      refine qy_wp_ok (c := CX12_compare) (cuts := [154]) vX12_compare wX12_compare 2000 9 _ _ _ ?_
      refine And.intro rfl (Exists.intro _ (And.intro (by decide) (qx_M_mono (sv) ?_)))
      rintro _ σ1 ⟨rfl, fσ1, aσ1, gσ1⟩
      have hf_σ1 : ql lP σ0 σ1 := hf.tr (fσ1.mn (by decide))
      refine And.intro rfl (Exists.intro 8 (Exists.intro (nI s1.1) (And.intro rfl (And.intro gσ1 ?_))))
      refine Exists.intro (nI 60) (And.intro rfl ?_)
      refine And.intro (fun h22 => ?_) (fun h22 => ?_)
      · skip
        refine And.intro rfl (Exists.intro 8 (Exists.intro (nI s1.1) (And.intro rfl (And.intro gσ1 ?_))))
        refine Exists.intro (nI 1) (And.intro rfl ?_)
        refine Exists.intro (nI (s1.1 + 1)) (And.intro (nI_add _ _) ?_)
        obtain ⟨σ2, eσ2⟩ : ∃ zs, zs = (qx_wi σ1 197 8 (nI (s1.1 + 1))) := ⟨_, rfl⟩
        have fσ2 := qn_wif eσ2
        refine And.intro rfl (Exists.intro 8 (Exists.intro σ2 (And.intro rfl (And.intro eσ2.symm ?_))))
        have hf_σ2 : ql lP σ0 σ2 := hf_σ1.tr (fσ2.mn (by decide))
        refine Exists.intro (nI 61) (And.intro rfl ?_)
        refine And.intro (fun h57 => ?_) (fun h57 => ?_)
        · skip
          exact absurd h57 (by decide)
        · skip
          refine And.intro rfl (Exists.intro 8 (Exists.intro (nI (s1.1 + 1)) (And.intro rfl (And.intro (qn_eq eσ2) ?_))))
          refine And.intro rfl (Exists.intro 1 (Exists.intro (nI T.1) (And.intro rfl (And.intro ((qn_ne eσ2 (Or.inr (by decide))).trans (aσ1.1.1)) ?_))))
          refine And.intro (fun h68 => ?_) (fun h68 => ?_)
          · skip
            have h68 := nI_leT (a := T.1) (b := s1.1 + 1) (by omega) (by omega) h68
            exact absurd h68 (by omega)
          · skip
            have h68 := nI_leF (a := T.1) (b := s1.1 + 1) (by omega) (by omega) h68
            refine And.intro rfl (Exists.intro 198 (And.intro rfl ?_))
            refine And.intro rfl (Exists.intro 8 (Exists.intro (nI (s1.1 + 1)) (And.intro rfl (And.intro (qn_eq eσ2) ?_))))
            refine Exists.intro (s1.1 + 1) (Exists.intro (nI 61) (And.intro rfl (And.intro (Or.inl ⟨400, rfl, by omega, by decide⟩) (And.intro ((fσ2.i _ _ rfl).trans (((aσ1.1.2.2 _ al2.1).1.trans (congrArg sx al2.2)))) ?_))))
            refine Exists.intro (nI 61) (And.intro rfl ?_)
            refine And.intro (fun h82 => ?_) (fun h82 => ?_)
            · skip
              exact absurd (by decide) h82
            · skip
              refine Exists.intro (nI 1) (And.intro rfl ?_)
              refine And.intro (fun h92 => ?_) (fun h92 => ?_)
              · skip
                exact absurd h92 (by decide)
              · skip
                refine And.intro rfl (Exists.intro 8 (Exists.intro (nI (s1.1 + 1)) (And.intro rfl (And.intro (qn_eq eσ2) ?_))))
                refine Exists.intro (nI 1) (And.intro rfl ?_)
                refine Exists.intro (nI (s1.1 + 1 + 1)) (And.intro (nI_add _ _) ?_)
                obtain ⟨σ3, eσ3⟩ : ∃ zs, zs = (qx_wi σ2 197 8 (nI (s1.1 + 1 + 1))) := ⟨_, rfl⟩
                have fσ3 := qn_wif eσ3
                refine And.intro rfl (Exists.intro 8 (Exists.intro σ3 (And.intro rfl (And.intro eσ3.symm ?_))))
                have hf_σ3 : ql lP σ0 σ3 := hf_σ2.tr (fσ3.mn (by decide))
                have hq_σ3 : mP σ3 Z T t (q_pas T s1) := aσ1.to (fσ2.tr fσ3) (by decide) (qn_eq eσ3) (by omega) (congrArg (q_sk T) ete.symm)
                refine And.intro rfl (Exists.intro _ (And.intro (by decide) (qx_M_mono (m_makes_no hq_σ3 m6) ?_)))
                rintro _ σ4 ⟨rfl, fσ4, gσ4⟩
                have hf_σ4 : ql lP σ0 σ4 := hf_σ3.tr (fσ4.mn (by decide))
                refine And.intro (fun h110 => ?_) (fun h110 => ?_)
                · skip
                  have h110 := bI_t h110
                  exact absurd (h110.symm.trans (rfl)) (by decide)
                · skip
                  have h110 := bI_f h110
                  refine Exists.intro (nI 0) (And.intro rfl ?_)
                  refine And.intro (Or.inl rfl) ?_
                  exact ⟨hf_σ4, rfl, gσ4, hq_σ3.z fσ4 (fun _ => rfl)⟩
      · skip
        exact absurd (by decide) h22
    · rw [q_cmr_o k258 rfl m6]
      refine qy_wp_ok (c := CX12_compare) (cuts := [154]) vX12_compare wX12_compare 2000 9 _ _ _ ?_
      refine And.intro rfl (Exists.intro _ (And.intro (by decide) (qx_M_mono (sv) ?_)))
      rintro _ σ1 ⟨rfl, fσ1, aσ1, gσ1⟩
      have hf_σ1 : ql lP σ0 σ1 := hf.tr (fσ1.mn (by decide))
      refine And.intro rfl (Exists.intro 8 (Exists.intro (nI s1.1) (And.intro rfl (And.intro gσ1 ?_))))
      refine Exists.intro (nI 60) (And.intro rfl ?_)
      refine And.intro (fun h22 => ?_) (fun h22 => ?_)
      · skip
        refine And.intro rfl (Exists.intro 8 (Exists.intro (nI s1.1) (And.intro rfl (And.intro gσ1 ?_))))
        refine Exists.intro (nI 1) (And.intro rfl ?_)
        refine Exists.intro (nI (s1.1 + 1)) (And.intro (nI_add _ _) ?_)
        obtain ⟨σ2, eσ2⟩ : ∃ zs, zs = (qx_wi σ1 197 8 (nI (s1.1 + 1))) := ⟨_, rfl⟩
        have fσ2 := qn_wif eσ2
        refine And.intro rfl (Exists.intro 8 (Exists.intro σ2 (And.intro rfl (And.intro eσ2.symm ?_))))
        have hf_σ2 : ql lP σ0 σ2 := hf_σ1.tr (fσ2.mn (by decide))
        refine Exists.intro (nI 61) (And.intro rfl ?_)
        refine And.intro (fun h57 => ?_) (fun h57 => ?_)
        · skip
          exact absurd h57 (by decide)
        · skip
          refine And.intro rfl (Exists.intro 8 (Exists.intro (nI (s1.1 + 1)) (And.intro rfl (And.intro (qn_eq eσ2) ?_))))
          refine And.intro rfl (Exists.intro 1 (Exists.intro (nI T.1) (And.intro rfl (And.intro ((qn_ne eσ2 (Or.inr (by decide))).trans (aσ1.1.1)) ?_))))
          refine And.intro (fun h68 => ?_) (fun h68 => ?_)
          · skip
            have h68 := nI_leT (a := T.1) (b := s1.1 + 1) (by omega) (by omega) h68
            exact absurd h68 (by omega)
          · skip
            have h68 := nI_leF (a := T.1) (b := s1.1 + 1) (by omega) (by omega) h68
            refine And.intro rfl (Exists.intro 198 (And.intro rfl ?_))
            refine And.intro rfl (Exists.intro 8 (Exists.intro (nI (s1.1 + 1)) (And.intro rfl (And.intro (qn_eq eσ2) ?_))))
            refine Exists.intro (s1.1 + 1) (Exists.intro (nI 61) (And.intro rfl (And.intro (Or.inl ⟨400, rfl, by omega, by decide⟩) (And.intro ((fσ2.i _ _ rfl).trans (((aσ1.1.2.2 _ al2.1).1.trans (congrArg sx al2.2)))) ?_))))
            refine Exists.intro (nI 61) (And.intro rfl ?_)
            refine And.intro (fun h82 => ?_) (fun h82 => ?_)
            · skip
              exact absurd (by decide) h82
            · skip
              refine Exists.intro (nI 1) (And.intro rfl ?_)
              refine And.intro (fun h92 => ?_) (fun h92 => ?_)
              · skip
                exact absurd h92 (by decide)
              · skip
                refine And.intro rfl (Exists.intro 8 (Exists.intro (nI (s1.1 + 1)) (And.intro rfl (And.intro (qn_eq eσ2) ?_))))
                refine Exists.intro (nI 1) (And.intro rfl ?_)
                refine Exists.intro (nI (s1.1 + 1 + 1)) (And.intro (nI_add _ _) ?_)
                obtain ⟨σ3, eσ3⟩ : ∃ zs, zs = (qx_wi σ2 197 8 (nI (s1.1 + 1 + 1))) := ⟨_, rfl⟩
                have fσ3 := qn_wif eσ3
                refine And.intro rfl (Exists.intro 8 (Exists.intro σ3 (And.intro rfl (And.intro eσ3.symm ?_))))
                have hf_σ3 : ql lP σ0 σ3 := hf_σ2.tr (fσ3.mn (by decide))
                have hq_σ3 : mP σ3 Z T t (q_pas T s1) := aσ1.to (fσ2.tr fσ3) (by decide) (qn_eq eσ3) (by omega) (congrArg (q_sk T) ete.symm)
                refine And.intro rfl (Exists.intro _ (And.intro (by decide) (qx_M_mono (m_makes_ok hq_σ3 m6) ?_)))
                rintro _ σ4 ⟨rfl, fσ4, aσ4⟩
                have hf_σ4 : ql lP σ0 σ4 := hf_σ3.tr (fσ4.mn (by decide))
                refine And.intro (fun h110 => ?_) (fun h110 => ?_)
                · skip
                  have h110 := bI_t h110
                  refine Exists.intro (nI 60) (And.intro rfl ?_)
                  refine And.intro (fun h118 => ?_) (fun h118 => ?_)
                  · skip
                    exact absurd (by decide) h118
                  · skip
                    refine And.intro (fun h122 => ?_) (fun h122 => ?_)
                    · skip
                      exact absurd h122 (by decide)
                    · skip
                      refine Exists.intro (nI 1) (And.intro rfl ?_)
                      refine qx_K_le (ls := [.ref 197, .retAddr 0, .retAddr 0, .retAddr 0, .int (nI 1)]) ⟨Or.inr rfl, Or.inl rfl, Or.inl rfl, Or.inl rfl, Or.inr rfl, trivial⟩ ?_
                      exact l_cmpC (j := 1) (by decide) (by omega) hl aσ4 hf_σ4
                · skip
                  have h110 := bI_f h110
                  exact absurd (h110.symm.trans (rfl)) (by decide)
      · skip
        exact absurd (by decide) h22
  by_cases k61 : q_kd T s1.1 = 61
  · obtain ⟨es, eb, hlt, ete⟩ := q_sgn hb (c := 61) (by decide) (by decide) (by decide) (by decide) k61
    have sv : qx_M G qc_T 0 YX12_see [.ref 197] σ (fun r s' => r = some (.int (nI 61)) ∧ ql [(197, some 8)] σ s' ∧ mP s' Z T t s1 ∧ qx_mi s' 197 8 = nI s1.1) := by
      have := m_seeP (G := G) h
      rw [es] at this
      exact this
    by_cases m6 : s1.2.2.2 = 60
    · rw [q_cmr_f k61 rfl m6]
      refine qy_wp_ok (c := CX12_compare) (cuts := [154]) vX12_compare wX12_compare 2000 9 _ _ _ ?_
      refine And.intro rfl (Exists.intro _ (And.intro (by decide) (qx_M_mono (sv) ?_)))
      rintro _ σ1 ⟨rfl, fσ1, aσ1, gσ1⟩
      have hf_σ1 : ql lP σ0 σ1 := hf.tr (fσ1.mn (by decide))
      refine And.intro rfl (Exists.intro 8 (Exists.intro (nI s1.1) (And.intro rfl (And.intro gσ1 ?_))))
      refine Exists.intro (nI 60) (And.intro rfl ?_)
      refine And.intro (fun h22 => ?_) (fun h22 => ?_)
      · skip
        exact absurd h22 (by decide)
      · skip
        refine Exists.intro (nI 61) (And.intro rfl ?_)
        refine And.intro (fun h28 => ?_) (fun h28 => ?_)
        · skip
          refine And.intro rfl (Exists.intro 8 (Exists.intro (nI s1.1) (And.intro rfl (And.intro gσ1 ?_))))
          refine Exists.intro (nI 1) (And.intro rfl ?_)
          refine Exists.intro (nI (s1.1 + 1)) (And.intro (nI_add _ _) ?_)
          obtain ⟨σ2, eσ2⟩ : ∃ zs, zs = (qx_wi σ1 197 8 (nI (s1.1 + 1))) := ⟨_, rfl⟩
          have fσ2 := qn_wif eσ2
          refine And.intro rfl (Exists.intro 8 (Exists.intro σ2 (And.intro rfl (And.intro eσ2.symm ?_))))
          have hf_σ2 : ql lP σ0 σ2 := hf_σ1.tr (fσ2.mn (by decide))
          have hq_σ2 : mP σ2 Z T t (q_pas T s1) := aσ1.pass hlt ete eσ2
          refine Exists.intro (nI 61) (And.intro rfl ?_)
          refine And.intro (fun h57 => ?_) (fun h57 => ?_)
          · skip
            refine Exists.intro (nI 0) (And.intro rfl ?_)
            refine And.intro (fun h92 => ?_) (fun h92 => ?_)
            · skip
              refine And.intro rfl (Exists.intro _ (And.intro (by decide) (qx_M_mono (m_makes_no hq_σ2 m6) ?_)))
              rintro _ σ3 ⟨rfl, fσ3, gσ3⟩
              have hf_σ3 : ql lP σ0 σ3 := hf_σ2.tr (fσ3.mn (by decide))
              refine And.intro (fun h110 => ?_) (fun h110 => ?_)
              · skip
                have h110 := bI_t h110
                exact absurd (h110.symm.trans (rfl)) (by decide)
              · skip
                have h110 := bI_f h110
                refine Exists.intro (nI 0) (And.intro rfl ?_)
                refine And.intro (Or.inl rfl) ?_
                exact ⟨hf_σ3, rfl, gσ3, hq_σ2.z fσ3 (fun _ => rfl)⟩
            · skip
              exact absurd (by decide) h92
          · skip
            exact absurd (by decide) h57
        · skip
          exact absurd (by decide) h28
    · rw [q_cmr_o k61 rfl m6]
      refine qy_wp_ok (c := CX12_compare) (cuts := [154]) vX12_compare wX12_compare 2000 9 _ _ _ ?_
      refine And.intro rfl (Exists.intro _ (And.intro (by decide) (qx_M_mono (sv) ?_)))
      rintro _ σ1 ⟨rfl, fσ1, aσ1, gσ1⟩
      have hf_σ1 : ql lP σ0 σ1 := hf.tr (fσ1.mn (by decide))
      refine And.intro rfl (Exists.intro 8 (Exists.intro (nI s1.1) (And.intro rfl (And.intro gσ1 ?_))))
      refine Exists.intro (nI 60) (And.intro rfl ?_)
      refine And.intro (fun h22 => ?_) (fun h22 => ?_)
      · skip
        exact absurd h22 (by decide)
      · skip
        refine Exists.intro (nI 61) (And.intro rfl ?_)
        refine And.intro (fun h28 => ?_) (fun h28 => ?_)
        · skip
          refine And.intro rfl (Exists.intro 8 (Exists.intro (nI s1.1) (And.intro rfl (And.intro gσ1 ?_))))
          refine Exists.intro (nI 1) (And.intro rfl ?_)
          refine Exists.intro (nI (s1.1 + 1)) (And.intro (nI_add _ _) ?_)
          obtain ⟨σ2, eσ2⟩ : ∃ zs, zs = (qx_wi σ1 197 8 (nI (s1.1 + 1))) := ⟨_, rfl⟩
          have fσ2 := qn_wif eσ2
          refine And.intro rfl (Exists.intro 8 (Exists.intro σ2 (And.intro rfl (And.intro eσ2.symm ?_))))
          have hf_σ2 : ql lP σ0 σ2 := hf_σ1.tr (fσ2.mn (by decide))
          have hq_σ2 : mP σ2 Z T t (q_pas T s1) := aσ1.pass hlt ete eσ2
          refine Exists.intro (nI 61) (And.intro rfl ?_)
          refine And.intro (fun h57 => ?_) (fun h57 => ?_)
          · skip
            refine Exists.intro (nI 0) (And.intro rfl ?_)
            refine And.intro (fun h92 => ?_) (fun h92 => ?_)
            · skip
              refine And.intro rfl (Exists.intro _ (And.intro (by decide) (qx_M_mono (m_makes_ok hq_σ2 m6) ?_)))
              rintro _ σ3 ⟨rfl, fσ3, aσ3⟩
              have hf_σ3 : ql lP σ0 σ3 := hf_σ2.tr (fσ3.mn (by decide))
              refine And.intro (fun h110 => ?_) (fun h110 => ?_)
              · skip
                have h110 := bI_t h110
                refine Exists.intro (nI 60) (And.intro rfl ?_)
                refine And.intro (fun h118 => ?_) (fun h118 => ?_)
                · skip
                  refine Exists.intro (nI 61) (And.intro rfl ?_)
                  refine And.intro (fun h136 => ?_) (fun h136 => ?_)
                  · skip
                    exact absurd (by decide) h136
                  · skip
                    refine Exists.intro (nI 2) (And.intro rfl ?_)
                    refine qx_K_le (ls := [.ref 197, .retAddr 0, .retAddr 0, .retAddr 0, .int (nI 2)]) ⟨Or.inr rfl, Or.inl rfl, Or.inl rfl, Or.inl rfl, Or.inr rfl, trivial⟩ ?_
                    exact l_cmpC (j := 2) (by decide) (by omega) hl aσ3 hf_σ3
                · skip
                  exact absurd h118 (by decide)
              · skip
                have h110 := bI_f h110
                exact absurd (h110.symm.trans (rfl)) (by decide)
            · skip
              exact absurd (by decide) h92
          · skip
            exact absurd (by decide) h57
        · skip
          exact absurd (by decide) h28
  by_cases k259 : q_kd T s1.1 = 259
  · obtain ⟨hlt, eb, es, al, ete⟩ := q_cpk hb k259 (by decide)
    have es : q_see T s1.1 = nI 62 := es
    have ete : q_te T s1.1 = s1.1 + 2 := ete
    have al2 := al.mpr (by decide)
    have sv : qx_M G qc_T 0 YX12_see [.ref 197] σ (fun r s' => r = some (.int (nI 62)) ∧ ql [(197, some 8)] σ s' ∧ mP s' Z T t s1 ∧ qx_mi s' 197 8 = nI s1.1) := by
      have := m_seeP (G := G) h
      rw [es] at this
      exact this
    by_cases m6 : s1.2.2.2 = 60
    · rw [q_cmr_f k259 rfl m6]
      refine qy_wp_ok (c := CX12_compare) (cuts := [154]) vX12_compare wX12_compare 2000 9 _ _ _ ?_
      refine And.intro rfl (Exists.intro _ (And.intro (by decide) (qx_M_mono (sv) ?_)))
      rintro _ σ1 ⟨rfl, fσ1, aσ1, gσ1⟩
      have hf_σ1 : ql lP σ0 σ1 := hf.tr (fσ1.mn (by decide))
      refine And.intro rfl (Exists.intro 8 (Exists.intro (nI s1.1) (And.intro rfl (And.intro gσ1 ?_))))
      refine Exists.intro (nI 60) (And.intro rfl ?_)
      refine And.intro (fun h22 => ?_) (fun h22 => ?_)
      · skip
        exact absurd h22 (by decide)
      · skip
        refine Exists.intro (nI 61) (And.intro rfl ?_)
        refine And.intro (fun h28 => ?_) (fun h28 => ?_)
        · skip
          exact absurd h28 (by decide)
        · skip
          refine Exists.intro (nI 62) (And.intro rfl ?_)
          refine And.intro (fun h34 => ?_) (fun h34 => ?_)
          · skip
            refine And.intro rfl (Exists.intro 8 (Exists.intro (nI s1.1) (And.intro rfl (And.intro gσ1 ?_))))
            refine Exists.intro (nI 1) (And.intro rfl ?_)
            refine Exists.intro (nI (s1.1 + 1)) (And.intro (nI_add _ _) ?_)
            obtain ⟨σ2, eσ2⟩ : ∃ zs, zs = (qx_wi σ1 197 8 (nI (s1.1 + 1))) := ⟨_, rfl⟩
            have fσ2 := qn_wif eσ2
            refine And.intro rfl (Exists.intro 8 (Exists.intro σ2 (And.intro rfl (And.intro eσ2.symm ?_))))
            have hf_σ2 : ql lP σ0 σ2 := hf_σ1.tr (fσ2.mn (by decide))
            refine Exists.intro (nI 61) (And.intro rfl ?_)
            refine And.intro (fun h57 => ?_) (fun h57 => ?_)
            · skip
              exact absurd h57 (by decide)
            · skip
              refine And.intro rfl (Exists.intro 8 (Exists.intro (nI (s1.1 + 1)) (And.intro rfl (And.intro (qn_eq eσ2) ?_))))
              refine And.intro rfl (Exists.intro 1 (Exists.intro (nI T.1) (And.intro rfl (And.intro ((qn_ne eσ2 (Or.inr (by decide))).trans (aσ1.1.1)) ?_))))
              refine And.intro (fun h68 => ?_) (fun h68 => ?_)
              · skip
                have h68 := nI_leT (a := T.1) (b := s1.1 + 1) (by omega) (by omega) h68
                exact absurd h68 (by omega)
              · skip
                have h68 := nI_leF (a := T.1) (b := s1.1 + 1) (by omega) (by omega) h68
                refine And.intro rfl (Exists.intro 198 (And.intro rfl ?_))
                refine And.intro rfl (Exists.intro 8 (Exists.intro (nI (s1.1 + 1)) (And.intro rfl (And.intro (qn_eq eσ2) ?_))))
                refine Exists.intro (s1.1 + 1) (Exists.intro (nI 61) (And.intro rfl (And.intro (Or.inl ⟨400, rfl, by omega, by decide⟩) (And.intro ((fσ2.i _ _ rfl).trans (((aσ1.1.2.2 _ al2.1).1.trans (congrArg sx al2.2)))) ?_))))
                refine Exists.intro (nI 61) (And.intro rfl ?_)
                refine And.intro (fun h82 => ?_) (fun h82 => ?_)
                · skip
                  exact absurd (by decide) h82
                · skip
                  refine Exists.intro (nI 1) (And.intro rfl ?_)
                  refine And.intro (fun h92 => ?_) (fun h92 => ?_)
                  · skip
                    exact absurd h92 (by decide)
                  · skip
                    refine And.intro rfl (Exists.intro 8 (Exists.intro (nI (s1.1 + 1)) (And.intro rfl (And.intro (qn_eq eσ2) ?_))))
                    refine Exists.intro (nI 1) (And.intro rfl ?_)
                    refine Exists.intro (nI (s1.1 + 1 + 1)) (And.intro (nI_add _ _) ?_)
                    obtain ⟨σ3, eσ3⟩ : ∃ zs, zs = (qx_wi σ2 197 8 (nI (s1.1 + 1 + 1))) := ⟨_, rfl⟩
                    have fσ3 := qn_wif eσ3
                    refine And.intro rfl (Exists.intro 8 (Exists.intro σ3 (And.intro rfl (And.intro eσ3.symm ?_))))
                    have hf_σ3 : ql lP σ0 σ3 := hf_σ2.tr (fσ3.mn (by decide))
                    have hq_σ3 : mP σ3 Z T t (q_pas T s1) := aσ1.to (fσ2.tr fσ3) (by decide) (qn_eq eσ3) (by omega) (congrArg (q_sk T) ete.symm)
                    refine And.intro rfl (Exists.intro _ (And.intro (by decide) (qx_M_mono (m_makes_no hq_σ3 m6) ?_)))
                    rintro _ σ4 ⟨rfl, fσ4, gσ4⟩
                    have hf_σ4 : ql lP σ0 σ4 := hf_σ3.tr (fσ4.mn (by decide))
                    refine And.intro (fun h110 => ?_) (fun h110 => ?_)
                    · skip
                      have h110 := bI_t h110
                      exact absurd (h110.symm.trans (rfl)) (by decide)
                    · skip
                      have h110 := bI_f h110
                      refine Exists.intro (nI 0) (And.intro rfl ?_)
                      refine And.intro (Or.inl rfl) ?_
                      exact ⟨hf_σ4, rfl, gσ4, hq_σ3.z fσ4 (fun _ => rfl)⟩
          · skip
            exact absurd (by decide) h34
    · rw [q_cmr_o k259 rfl m6]
      refine qy_wp_ok (c := CX12_compare) (cuts := [154]) vX12_compare wX12_compare 2000 9 _ _ _ ?_
      refine And.intro rfl (Exists.intro _ (And.intro (by decide) (qx_M_mono (sv) ?_)))
      rintro _ σ1 ⟨rfl, fσ1, aσ1, gσ1⟩
      have hf_σ1 : ql lP σ0 σ1 := hf.tr (fσ1.mn (by decide))
      refine And.intro rfl (Exists.intro 8 (Exists.intro (nI s1.1) (And.intro rfl (And.intro gσ1 ?_))))
      refine Exists.intro (nI 60) (And.intro rfl ?_)
      refine And.intro (fun h22 => ?_) (fun h22 => ?_)
      · skip
        exact absurd h22 (by decide)
      · skip
        refine Exists.intro (nI 61) (And.intro rfl ?_)
        refine And.intro (fun h28 => ?_) (fun h28 => ?_)
        · skip
          exact absurd h28 (by decide)
        · skip
          refine Exists.intro (nI 62) (And.intro rfl ?_)
          refine And.intro (fun h34 => ?_) (fun h34 => ?_)
          · skip
            refine And.intro rfl (Exists.intro 8 (Exists.intro (nI s1.1) (And.intro rfl (And.intro gσ1 ?_))))
            refine Exists.intro (nI 1) (And.intro rfl ?_)
            refine Exists.intro (nI (s1.1 + 1)) (And.intro (nI_add _ _) ?_)
            obtain ⟨σ2, eσ2⟩ : ∃ zs, zs = (qx_wi σ1 197 8 (nI (s1.1 + 1))) := ⟨_, rfl⟩
            have fσ2 := qn_wif eσ2
            refine And.intro rfl (Exists.intro 8 (Exists.intro σ2 (And.intro rfl (And.intro eσ2.symm ?_))))
            have hf_σ2 : ql lP σ0 σ2 := hf_σ1.tr (fσ2.mn (by decide))
            refine Exists.intro (nI 61) (And.intro rfl ?_)
            refine And.intro (fun h57 => ?_) (fun h57 => ?_)
            · skip
              exact absurd h57 (by decide)
            · skip
              refine And.intro rfl (Exists.intro 8 (Exists.intro (nI (s1.1 + 1)) (And.intro rfl (And.intro (qn_eq eσ2) ?_))))
              refine And.intro rfl (Exists.intro 1 (Exists.intro (nI T.1) (And.intro rfl (And.intro ((qn_ne eσ2 (Or.inr (by decide))).trans (aσ1.1.1)) ?_))))
              refine And.intro (fun h68 => ?_) (fun h68 => ?_)
              · skip
                have h68 := nI_leT (a := T.1) (b := s1.1 + 1) (by omega) (by omega) h68
                exact absurd h68 (by omega)
              · skip
                have h68 := nI_leF (a := T.1) (b := s1.1 + 1) (by omega) (by omega) h68
                refine And.intro rfl (Exists.intro 198 (And.intro rfl ?_))
                refine And.intro rfl (Exists.intro 8 (Exists.intro (nI (s1.1 + 1)) (And.intro rfl (And.intro (qn_eq eσ2) ?_))))
                refine Exists.intro (s1.1 + 1) (Exists.intro (nI 61) (And.intro rfl (And.intro (Or.inl ⟨400, rfl, by omega, by decide⟩) (And.intro ((fσ2.i _ _ rfl).trans (((aσ1.1.2.2 _ al2.1).1.trans (congrArg sx al2.2)))) ?_))))
                refine Exists.intro (nI 61) (And.intro rfl ?_)
                refine And.intro (fun h82 => ?_) (fun h82 => ?_)
                · skip
                  exact absurd (by decide) h82
                · skip
                  refine Exists.intro (nI 1) (And.intro rfl ?_)
                  refine And.intro (fun h92 => ?_) (fun h92 => ?_)
                  · skip
                    exact absurd h92 (by decide)
                  · skip
                    refine And.intro rfl (Exists.intro 8 (Exists.intro (nI (s1.1 + 1)) (And.intro rfl (And.intro (qn_eq eσ2) ?_))))
                    refine Exists.intro (nI 1) (And.intro rfl ?_)
                    refine Exists.intro (nI (s1.1 + 1 + 1)) (And.intro (nI_add _ _) ?_)
                    obtain ⟨σ3, eσ3⟩ : ∃ zs, zs = (qx_wi σ2 197 8 (nI (s1.1 + 1 + 1))) := ⟨_, rfl⟩
                    have fσ3 := qn_wif eσ3
                    refine And.intro rfl (Exists.intro 8 (Exists.intro σ3 (And.intro rfl (And.intro eσ3.symm ?_))))
                    have hf_σ3 : ql lP σ0 σ3 := hf_σ2.tr (fσ3.mn (by decide))
                    have hq_σ3 : mP σ3 Z T t (q_pas T s1) := aσ1.to (fσ2.tr fσ3) (by decide) (qn_eq eσ3) (by omega) (congrArg (q_sk T) ete.symm)
                    refine And.intro rfl (Exists.intro _ (And.intro (by decide) (qx_M_mono (m_makes_ok hq_σ3 m6) ?_)))
                    rintro _ σ4 ⟨rfl, fσ4, aσ4⟩
                    have hf_σ4 : ql lP σ0 σ4 := hf_σ3.tr (fσ4.mn (by decide))
                    refine And.intro (fun h110 => ?_) (fun h110 => ?_)
                    · skip
                      have h110 := bI_t h110
                      refine Exists.intro (nI 60) (And.intro rfl ?_)
                      refine And.intro (fun h118 => ?_) (fun h118 => ?_)
                      · skip
                        refine Exists.intro (nI 61) (And.intro rfl ?_)
                        refine And.intro (fun h136 => ?_) (fun h136 => ?_)
                        · skip
                          refine And.intro (fun h144 => ?_) (fun h144 => ?_)
                          · skip
                            exact absurd h144 (by decide)
                          · skip
                            refine Exists.intro (nI 3) (And.intro rfl ?_)
                            refine qx_K_le (ls := [.ref 197, .retAddr 0, .retAddr 0, .retAddr 0, .int (nI 3)]) ⟨Or.inr rfl, Or.inl rfl, Or.inl rfl, Or.inl rfl, Or.inr rfl, trivial⟩ ?_
                            exact l_cmpC (j := 3) (by decide) (by omega) hl aσ4 hf_σ4
                        · skip
                          exact absurd h136 (by decide)
                      · skip
                        exact absurd h118 (by decide)
                    · skip
                      have h110 := bI_f h110
                      exact absurd (h110.symm.trans (rfl)) (by decide)
          · skip
            exact absurd (by decide) h34
  by_cases k62 : q_kd T s1.1 = 62
  · obtain ⟨hlt, eb, es, al, ete⟩ := q_cpk hb k62 (by decide)
    have es : q_see T s1.1 = nI 62 := es
    have ete : q_te T s1.1 = s1.1 + 1 := ete
    have al2 : ¬ (s1.1 + 1 < T.1 ∧ T.2 (s1.1 + 1) = 61) := fun z => absurd (al.mp z) (by decide)
    have sv : qx_M G qc_T 0 YX12_see [.ref 197] σ (fun r s' => r = some (.int (nI 62)) ∧ ql [(197, some 8)] σ s' ∧ mP s' Z T t s1 ∧ qx_mi s' 197 8 = nI s1.1) := by
      have := m_seeP (G := G) h
      rw [es] at this
      exact this
    by_cases m6 : s1.2.2.2 = 60
    · rw [q_cmr_f k62 rfl m6]
      refine qy_wp_ok (c := CX12_compare) (cuts := [154]) vX12_compare wX12_compare 2000 9 _ _ _ ?_
      refine And.intro rfl (Exists.intro _ (And.intro (by decide) (qx_M_mono (sv) ?_)))
      rintro _ σ1 ⟨rfl, fσ1, aσ1, gσ1⟩
      have hf_σ1 : ql lP σ0 σ1 := hf.tr (fσ1.mn (by decide))
      refine And.intro rfl (Exists.intro 8 (Exists.intro (nI s1.1) (And.intro rfl (And.intro gσ1 ?_))))
      refine Exists.intro (nI 60) (And.intro rfl ?_)
      refine And.intro (fun h22 => ?_) (fun h22 => ?_)
      · skip
        exact absurd h22 (by decide)
      · skip
        refine Exists.intro (nI 61) (And.intro rfl ?_)
        refine And.intro (fun h28 => ?_) (fun h28 => ?_)
        · skip
          exact absurd h28 (by decide)
        · skip
          refine Exists.intro (nI 62) (And.intro rfl ?_)
          refine And.intro (fun h34 => ?_) (fun h34 => ?_)
          · skip
            refine And.intro rfl (Exists.intro 8 (Exists.intro (nI s1.1) (And.intro rfl (And.intro gσ1 ?_))))
            refine Exists.intro (nI 1) (And.intro rfl ?_)
            refine Exists.intro (nI (s1.1 + 1)) (And.intro (nI_add _ _) ?_)
            obtain ⟨σ2, eσ2⟩ : ∃ zs, zs = (qx_wi σ1 197 8 (nI (s1.1 + 1))) := ⟨_, rfl⟩
            have fσ2 := qn_wif eσ2
            refine And.intro rfl (Exists.intro 8 (Exists.intro σ2 (And.intro rfl (And.intro eσ2.symm ?_))))
            have hf_σ2 : ql lP σ0 σ2 := hf_σ1.tr (fσ2.mn (by decide))
            have hq_σ2 : mP σ2 Z T t (q_pas T s1) := aσ1.pass hlt ete eσ2
            refine Exists.intro (nI 61) (And.intro rfl ?_)
            refine And.intro (fun h57 => ?_) (fun h57 => ?_)
            · skip
              exact absurd h57 (by decide)
            · skip
              refine And.intro rfl (Exists.intro 8 (Exists.intro (nI (s1.1 + 1)) (And.intro rfl (And.intro (qn_eq eσ2) ?_))))
              refine And.intro rfl (Exists.intro 1 (Exists.intro (nI T.1) (And.intro rfl (And.intro ((qn_ne eσ2 (Or.inr (by decide))).trans (aσ1.1.1)) ?_))))
              refine And.intro (fun h68 => ?_) (fun h68 => ?_)
              · skip
                have h68 := nI_leT (a := T.1) (b := s1.1 + 1) (by omega) (by omega) h68
                refine Exists.intro (nI 0) (And.intro rfl ?_)
                refine And.intro (fun h92 => ?_) (fun h92 => ?_)
                · skip
                  refine And.intro rfl (Exists.intro _ (And.intro (by decide) (qx_M_mono (m_makes_no hq_σ2 m6) ?_)))
                  rintro _ σ3 ⟨rfl, fσ3, gσ3⟩
                  have hf_σ3 : ql lP σ0 σ3 := hf_σ2.tr (fσ3.mn (by decide))
                  refine And.intro (fun h110 => ?_) (fun h110 => ?_)
                  · skip
                    have h110 := bI_t h110
                    exact absurd (h110.symm.trans (rfl)) (by decide)
                  · skip
                    have h110 := bI_f h110
                    refine Exists.intro (nI 0) (And.intro rfl ?_)
                    refine And.intro (Or.inl rfl) ?_
                    exact ⟨hf_σ3, rfl, gσ3, hq_σ2.z fσ3 (fun _ => rfl)⟩
                · skip
                  exact absurd (by decide) h92
              · skip
                have h68 := nI_leF (a := T.1) (b := s1.1 + 1) (by omega) (by omega) h68
                refine And.intro rfl (Exists.intro 198 (And.intro rfl ?_))
                refine And.intro rfl (Exists.intro 8 (Exists.intro (nI (s1.1 + 1)) (And.intro rfl (And.intro (qn_eq eσ2) ?_))))
                refine Exists.intro (s1.1 + 1) (Exists.intro (sx (T.2 (s1.1 + 1))) (And.intro rfl (And.intro (Or.inl ⟨400, rfl, by omega, by decide⟩) (And.intro ((fσ2.i _ _ rfl).trans ((aσ1.1.2.2 _ (by omega)).1)) ?_))))
                refine Exists.intro (nI 61) (And.intro rfl ?_)
                refine And.intro (fun h82 => ?_) (fun h82 => ?_)
                · skip
                  refine Exists.intro (nI 0) (And.intro rfl ?_)
                  refine And.intro (fun h92 => ?_) (fun h92 => ?_)
                  · skip
                    refine And.intro rfl (Exists.intro _ (And.intro (by decide) (qx_M_mono (m_makes_no hq_σ2 m6) ?_)))
                    rintro _ σ3 ⟨rfl, fσ3, gσ3⟩
                    have hf_σ3 : ql lP σ0 σ3 := hf_σ2.tr (fσ3.mn (by decide))
                    refine And.intro (fun h110 => ?_) (fun h110 => ?_)
                    · skip
                      have h110 := bI_t h110
                      exact absurd (h110.symm.trans (rfl)) (by decide)
                    · skip
                      have h110 := bI_f h110
                      refine Exists.intro (nI 0) (And.intro rfl ?_)
                      refine And.intro (Or.inl rfl) ?_
                      exact ⟨hf_σ3, rfl, gσ3, hq_σ2.z fσ3 (fun _ => rfl)⟩
                  · skip
                    exact absurd (by decide) h92
                · skip
                  exact absurd ⟨by omega, (sx_eq (hb _ (by omega)) (by decide)).mp h82⟩ al2
          · skip
            exact absurd (by decide) h34
    · rw [q_cmr_o k62 rfl m6]
      refine qy_wp_ok (c := CX12_compare) (cuts := [154]) vX12_compare wX12_compare 2000 9 _ _ _ ?_
      refine And.intro rfl (Exists.intro _ (And.intro (by decide) (qx_M_mono (sv) ?_)))
      rintro _ σ1 ⟨rfl, fσ1, aσ1, gσ1⟩
      have hf_σ1 : ql lP σ0 σ1 := hf.tr (fσ1.mn (by decide))
      refine And.intro rfl (Exists.intro 8 (Exists.intro (nI s1.1) (And.intro rfl (And.intro gσ1 ?_))))
      refine Exists.intro (nI 60) (And.intro rfl ?_)
      refine And.intro (fun h22 => ?_) (fun h22 => ?_)
      · skip
        exact absurd h22 (by decide)
      · skip
        refine Exists.intro (nI 61) (And.intro rfl ?_)
        refine And.intro (fun h28 => ?_) (fun h28 => ?_)
        · skip
          exact absurd h28 (by decide)
        · skip
          refine Exists.intro (nI 62) (And.intro rfl ?_)
          refine And.intro (fun h34 => ?_) (fun h34 => ?_)
          · skip
            refine And.intro rfl (Exists.intro 8 (Exists.intro (nI s1.1) (And.intro rfl (And.intro gσ1 ?_))))
            refine Exists.intro (nI 1) (And.intro rfl ?_)
            refine Exists.intro (nI (s1.1 + 1)) (And.intro (nI_add _ _) ?_)
            obtain ⟨σ2, eσ2⟩ : ∃ zs, zs = (qx_wi σ1 197 8 (nI (s1.1 + 1))) := ⟨_, rfl⟩
            have fσ2 := qn_wif eσ2
            refine And.intro rfl (Exists.intro 8 (Exists.intro σ2 (And.intro rfl (And.intro eσ2.symm ?_))))
            have hf_σ2 : ql lP σ0 σ2 := hf_σ1.tr (fσ2.mn (by decide))
            have hq_σ2 : mP σ2 Z T t (q_pas T s1) := aσ1.pass hlt ete eσ2
            refine Exists.intro (nI 61) (And.intro rfl ?_)
            refine And.intro (fun h57 => ?_) (fun h57 => ?_)
            · skip
              exact absurd h57 (by decide)
            · skip
              refine And.intro rfl (Exists.intro 8 (Exists.intro (nI (s1.1 + 1)) (And.intro rfl (And.intro (qn_eq eσ2) ?_))))
              refine And.intro rfl (Exists.intro 1 (Exists.intro (nI T.1) (And.intro rfl (And.intro ((qn_ne eσ2 (Or.inr (by decide))).trans (aσ1.1.1)) ?_))))
              refine And.intro (fun h68 => ?_) (fun h68 => ?_)
              · skip
                have h68 := nI_leT (a := T.1) (b := s1.1 + 1) (by omega) (by omega) h68
                refine Exists.intro (nI 0) (And.intro rfl ?_)
                refine And.intro (fun h92 => ?_) (fun h92 => ?_)
                · skip
                  refine And.intro rfl (Exists.intro _ (And.intro (by decide) (qx_M_mono (m_makes_ok hq_σ2 m6) ?_)))
                  rintro _ σ3 ⟨rfl, fσ3, aσ3⟩
                  have hf_σ3 : ql lP σ0 σ3 := hf_σ2.tr (fσ3.mn (by decide))
                  refine And.intro (fun h110 => ?_) (fun h110 => ?_)
                  · skip
                    have h110 := bI_t h110
                    refine Exists.intro (nI 60) (And.intro rfl ?_)
                    refine And.intro (fun h118 => ?_) (fun h118 => ?_)
                    · skip
                      refine Exists.intro (nI 61) (And.intro rfl ?_)
                      refine And.intro (fun h136 => ?_) (fun h136 => ?_)
                      · skip
                        refine And.intro (fun h144 => ?_) (fun h144 => ?_)
                        · skip
                          refine Exists.intro (nI 4) (And.intro rfl ?_)
                          refine qx_K_le (ls := [.ref 197, .retAddr 0, .retAddr 0, .retAddr 0, .int (nI 4)]) ⟨Or.inr rfl, Or.inl rfl, Or.inl rfl, Or.inl rfl, Or.inr rfl, trivial⟩ ?_
                          exact l_cmpC (j := 4) (by decide) (by omega) hl aσ3 hf_σ3
                        · skip
                          exact absurd (by decide) h144
                      · skip
                        exact absurd h136 (by decide)
                    · skip
                      exact absurd h118 (by decide)
                  · skip
                    have h110 := bI_f h110
                    exact absurd (h110.symm.trans (rfl)) (by decide)
                · skip
                  exact absurd (by decide) h92
              · skip
                have h68 := nI_leF (a := T.1) (b := s1.1 + 1) (by omega) (by omega) h68
                refine And.intro rfl (Exists.intro 198 (And.intro rfl ?_))
                refine And.intro rfl (Exists.intro 8 (Exists.intro (nI (s1.1 + 1)) (And.intro rfl (And.intro (qn_eq eσ2) ?_))))
                refine Exists.intro (s1.1 + 1) (Exists.intro (sx (T.2 (s1.1 + 1))) (And.intro rfl (And.intro (Or.inl ⟨400, rfl, by omega, by decide⟩) (And.intro ((fσ2.i _ _ rfl).trans ((aσ1.1.2.2 _ (by omega)).1)) ?_))))
                refine Exists.intro (nI 61) (And.intro rfl ?_)
                refine And.intro (fun h82 => ?_) (fun h82 => ?_)
                · skip
                  refine Exists.intro (nI 0) (And.intro rfl ?_)
                  refine And.intro (fun h92 => ?_) (fun h92 => ?_)
                  · skip
                    refine And.intro rfl (Exists.intro _ (And.intro (by decide) (qx_M_mono (m_makes_ok hq_σ2 m6) ?_)))
                    rintro _ σ3 ⟨rfl, fσ3, aσ3⟩
                    have hf_σ3 : ql lP σ0 σ3 := hf_σ2.tr (fσ3.mn (by decide))
                    refine And.intro (fun h110 => ?_) (fun h110 => ?_)
                    · skip
                      have h110 := bI_t h110
                      refine Exists.intro (nI 60) (And.intro rfl ?_)
                      refine And.intro (fun h118 => ?_) (fun h118 => ?_)
                      · skip
                        refine Exists.intro (nI 61) (And.intro rfl ?_)
                        refine And.intro (fun h136 => ?_) (fun h136 => ?_)
                        · skip
                          refine And.intro (fun h144 => ?_) (fun h144 => ?_)
                          · skip
                            refine Exists.intro (nI 4) (And.intro rfl ?_)
                            refine qx_K_le (ls := [.ref 197, .retAddr 0, .retAddr 0, .retAddr 0, .int (nI 4)]) ⟨Or.inr rfl, Or.inl rfl, Or.inl rfl, Or.inl rfl, Or.inr rfl, trivial⟩ ?_
                            exact l_cmpC (j := 4) (by decide) (by omega) hl aσ3 hf_σ3
                          · skip
                            exact absurd (by decide) h144
                        · skip
                          exact absurd h136 (by decide)
                      · skip
                        exact absurd h118 (by decide)
                    · skip
                      have h110 := bI_f h110
                      exact absurd (h110.symm.trans (rfl)) (by decide)
                  · skip
                    exact absurd (by decide) h92
                · skip
                  exact absurd ⟨by omega, (sx_eq (hb _ (by omega)) (by decide)).mp h82⟩ al2
          · skip
            exact absurd (by decide) h34
  · have cn : q_cp1 (q_kd T s1.1) = none := by
      unfold q_cp1
      rw [if_neg k60, if_neg k258, if_neg k61, if_neg k259, if_neg k62]
    rw [q_cmr_n cn]
    have ns : q_see T s1.1 ≠ nI 60 ∧ q_see T s1.1 ≠ nI 62 := by
      constructor
      · intro z
        have hlt : s1.1 < T.1 := by
          rcases Nat.lt_or_ge s1.1 T.1 with y | y
          · exact y
          · unfold q_see at z
            rw [if_neg (by omega)] at z
            exact absurd z (by decide)
        unfold q_see at z
        have b := hb _ hlt
        rw [if_pos hlt, nI_eq (by omega) (by omega)] at z
        have := (q_sgn2 hb hlt 60 (Or.inl rfl) z).2.1
        rw [this] at k60 k258
        split at k60
        · next y => rw [if_pos y] at k258; exact k258 rfl
        · exact k60 rfl
      · intro z
        have hlt : s1.1 < T.1 := by
          rcases Nat.lt_or_ge s1.1 T.1 with y | y
          · exact y
          · unfold q_see at z
            rw [if_neg (by omega)] at z
            exact absurd z (by decide)
        unfold q_see at z
        have b := hb _ hlt
        rw [if_pos hlt, nI_eq (by omega) (by omega)] at z
        have := (q_sgn2 hb hlt 62 (Or.inr rfl) z).2.1
        rw [this] at k259 k62
        split at k62
        · next y => rw [if_pos y] at k259; exact k259 rfl
        · exact k62 rfl
    refine qy_wp_ok (c := CX12_compare) (cuts := [44]) vX12_compare wX12_compare 2000 9 _ _ _ ?_
    refine And.intro rfl (Exists.intro _ (And.intro (by decide) (qx_M_mono (m_seeP h) ?_)))
    rintro _ σ1 ⟨rfl, fσ1, aσ1, gσ1⟩
    refine And.intro rfl (Exists.intro 8 (Exists.intro (nI s1.1) (And.intro rfl (And.intro gσ1 ?_))))
    refine Exists.intro (nI 60) (And.intro rfl ?_)
    refine And.intro (fun h22 => ?_) (fun h22 => ?_)
    · skip
      exact absurd h22 ns.1
    · skip
      refine Exists.intro (nI 61) (And.intro rfl ?_)
      refine And.intro (fun h28 => ?_) (fun h28 => ?_)
      · skip
        exact absurd ((q_kd_c hb (by decide) (by decide) (by decide) (by decide)).mp h28) k61
      · skip
        refine Exists.intro (nI 62) (And.intro rfl ?_)
        refine And.intro (fun h34 => ?_) (fun h34 => ?_)
        · skip
          exact absurd h34 ns.2
        · skip
          refine Exists.intro (nI 0) (And.intro rfl ?_)
          refine And.intro rfl (Exists.intro _ (And.intro (by decide) (qx_M_mono (m_fails aσ1.2.1) ?_)))
          rintro _ σ2 ⟨rfl, fσ2, gσ2⟩
          refine And.intro (bI_01 _) ?_
          exact ⟨hf.tr ((fσ1.mn (by decide)).tr (fσ2.mn (by decide))), rfl, gσ2, aσ1.z fσ2 (fun _ => rfl)⟩
theorem m_compare {G : qx_G} {σ : qx_S} {Z : Nat → Int32} {T : q_T} {t : Nat} {s : q_P} (h : mP σ Z T t s) (hl : s.2.1 ≤ s.1) : qx_M G qc_T 6 YX12_compare [.ref 197] σ (fun r s' => rP σ s' Z T t (q_cmq T s) r) := by
  have mv := m_sum (G := G) h hl
  cases hv : q_sm T s with
  | error f =>
    rw [hv] at mv
    rw [show q_cmq T s = .error f by show q_bd (q_sm T s) _ = _; rw [hv]; rfl]
    refine qx_M_in rfl (Nat.le_of_ble_eq_true rfl) ?_
    refine qy_wp_ok (c := CX12_compare) (cuts := [9]) vX12_compare wX12_compare 2000 0 _ _ _ ?_
    refine And.intro rfl (Exists.intro _ (And.intro (by decide) (qx_M_mono (mv) ?_)))
    rintro _ σ1 ⟨fσ1, rfl, gσ1, zσ1⟩
    refine And.intro (fun h4 => ?_) (fun h4 => ?_)
    · skip
      have h4 := bI_t h4
      exact absurd (h4.symm.trans (rfl)) (by decide)
    · skip
      have h4 := bI_f h4
      refine Exists.intro (nI 0) (And.intro rfl ?_)
      refine And.intro (Or.inl rfl) ?_
      exact ⟨fσ1, rfl, gσ1, zσ1⟩
  | ok s1 =>
    rw [hv] at mv
    obtain ⟨g0, g1, g2, g3, g4, -⟩ := q_sm_g hv
    rw [show q_cmq T s = q_cmr T s1 by show q_bd (q_sm T s) _ = _; rw [hv]; rfl]
    refine qx_M_in rfl (Nat.le_of_ble_eq_true rfl) ?_
    refine qy_wp_ok (c := CX12_compare) (cuts := [9]) vX12_compare wX12_compare 2000 0 _ _ _ ?_
    refine And.intro rfl (Exists.intro _ (And.intro (by decide) (qx_M_mono (mv) ?_)))
    rintro _ σ1 ⟨fσ1, rfl, aσ1⟩
    refine And.intro (fun h4 => ?_) (fun h4 => ?_)
    · skip
      have h4 := bI_t h4
      exact l_cmpA aσ1 (by omega) fσ1
    · skip
      have h4 := bI_f h4
      exact absurd (h4.symm.trans (rfl)) (by decide)

