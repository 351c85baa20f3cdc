/-! THE REFERENCE: a whole rule -/
/-- a rule in memory, but for its being sound -/
def mR0 (σ : qx_S) (t : Nat) (R : qR) : Prop := qx_mi σ 202 t = nI (q_nc R) ∧ (∀ i, i < q_len R → qx_mi σ 199 (400 * t + i) = nI (q_sg (q_cd R i))) ∧ q_nc R ≤ 12 ∧ ∀ c, c < q_nc R → mCl σ t c (R.2.2.2 c)
abbrev lA2 : List (Nat × Option Nat) := [(197, some 8), (197, some 9), (197, some 10), (197, some 12), (199, none), (200, none), (197, some 13), (197, some 16), (204, none), (201, none), (202, none), (197, some 14), (197, some 1)]
/-- what lies below stays -/
def bZ (σ s' : qx_S) (t : Nat) : Prop := (∀ j, j < 400 * t → qx_mi s' 199 j = qx_mi σ 199 j) ∧ (∀ j, j < 60 * t → qx_mi s' 201 j = qx_mi σ 201 j) ∧ ∀ j, j ≠ t → qx_mi s' 202 j = qx_mi σ 202 j
def rA (σ s' : qx_S) (T : q_T) (t : Nat) (x : Except Nat qR) (r : Option Value) : Prop := ql lA2 σ s' ∧ bZ σ s' t ∧ tR s' (0, T.2) ∧ (match x with
  | .error f => r = some (.int (bI false)) ∧ qx_mi s' 197 9 = nI f
  | .ok R => r = some (.int (bI true)) ∧ mR0 s' t R)
def q_rr (T : q_T) (m : Nat) (s : q_P) (nc : Nat) (ci : q_ci) : Except Nat qR := if q_kd T s.1 = 59 then q_ruc T m (q_pas T s) nc ci else if q_kd T s.1 = 999 then .ok (nc, s.2.1, s.2.2.1, ci) else .error (1 + 8 * s.1 + 0)
theorem q_ruc_er {T : q_T} {m : Nat} {s : q_P} {nc f : Nat} {ci : q_ci} (h : q_oc T s nc = .error f) : q_ruc T (m + 1) s nc ci = .error f := by
  unfold q_ruc
  rw [h]
theorem q_ruc_ok {T : q_T} {m : Nat} {s : q_P} {nc : Nat} {ci : q_ci} {y : q_P × Bool × Nat × Nat × Nat} (h : q_oc T s nc = .ok y) : q_ruc T (m + 1) s nc ci = q_rr T m y.1 (nc + 1) (va_up ci nc y.2) := by
  unfold q_ruc
  rw [h]
  rfl
theorem nI_ne0' {f : Nat} (h : 0 < f) (h2 : f < 2147483648) : ¬ nI f = nI 0 := fun z => absurd ((nI_eq h2 (by decide)).mp z) (by omega)
theorem tR.zero {σ s' : qx_S} {T : q_T} (h : tR σ T) (e : qx_mi s' 197 1 = nI 0) : tR s' (0, T.2) := ⟨e, by show 0 ≤ 400; omega, fun k hk => absurd hk (by show ¬ k < 0; omega)⟩
theorem l_ra {G : qx_G} {σ0 : qx_S} {T : q_T} {t : Nat} : ∀ (m : Nat) (s : q_P) (nc : Nat) (ci : q_ci) (σ : qx_S), m + nc = 13 → mU σ (qx_mi σ0 199) T t s nc ci → ql lA2 σ0 σ → bZ σ0 σ t →
    qx_K G qc_T 11 RX12 YX12_readsAll 35 [.ref 197, .int (bI true)] [] σ (fun r s' => rA σ0 s' T t (q_rr T m s nc ci) r) := by
  intro m
  induction m with
  | zero =>
    intro s nc ci σ hm hU
    have := hU.2.2.2.2.1
    omega
  | succ m ih =>
    intro s nc ci σ hm hU hf hz
    obtain ⟨h, hb, u3, u4, u5, u6⟩ := id hU
    obtain ⟨hsk, hle, h400, hby⟩ := h.sk
    by_cases k9 : q_kd T s.1 = 59
    · obtain ⟨es, eb, hlt, ete⟩ := q_sgn hby (c := 59) (by decide) (by decide) (by decide) (by decide) k9
      have hnx := q_nx_gt hlt
      have sv := m_seeP (G := G) h
      rw [es] at sv
      have er : q_rr T (m + 1) s nc ci = q_ruc T (m + 1) (q_pas T s) nc ci := if_pos k9
      rw [er]
      have mc : ∀ σ1, mU σ1 (qx_mi σ0 199) T t (q_pas T s) nc ci → qx_M G qc_T 10 YX12_clauseHere [.ref 197] σ1 (fun r s' => rL σ1 s' (qx_mi σ0 199) T t nc ci (q_oc T (q_pas T s) nc) r) := fun σ1 a => m_clauseR a
      have hup : ∀ σ1 σ2, mP σ1 (qx_mi σ0 199) T t s → ql [(197, some 8)] σ σ1 → σ2 = qx_wi σ1 197 8 (nI (s.1 + 1)) → mU σ2 (qx_mi σ0 199) T t (q_pas T s) nc ci := by
        intro σ1 σ2 a f1 e
        have f2 := qn_wif e
        refine ⟨a.pass hlt ete e, by show s.2.1 ≤ q_nx T s.1; omega, (f2.i _ _ rfl).trans ((f1.i _ _ rfl).trans u3), (f2.i _ _ rfl).trans ((f1.i _ _ rfl).trans u4), u5, fun c hc => (u6 c hc).fr (nc := nc) (fun j hj => (f2.i _ _ rfl).trans (f1.i _ _ rfl)) hc⟩
      cases ho : q_oc T (q_pas T s) nc with
      | error f =>
        rw [ho] at mc
        have e1 : q_ruc T (m + 1) (q_pas T s) nc ci = .error f := q_ruc_er ho
        rw [e1]
        have eb := q_oc_er (show (q_pas T s).1 ≤ T.1 from hnx.2) ho
        have f0 : ¬ nI f = nI 0 := nI_ne0' eb.1 (by have := eb.2; omega)
        refine qy_wp_ok (c := CX12_readsAll) (cuts := []) vX12_readsAll wX12_readsAll 2000 35 _ _ _ ?_
        refine And.intro (fun h36 => ?_) (fun h36 => ?_)
        · skip
          have h36 := bI_f h36
          exact absurd (h36.symm.trans (rfl)) (by decide)
        · skip
          have h36 := bI_t h36
          refine And.intro rfl (Exists.intro _ (And.intro (by decide) (qx_M_mono (sv) ?_)))
          rintro _ σ1 ⟨rfl, fσ1, aσ1, gσ1⟩
          refine Exists.intro (nI 59) (And.intro rfl ?_)
          refine And.intro (fun h45 => ?_) (fun h45 => ?_)
          · skip
            exact absurd (by decide) h45
          · skip
            refine And.intro rfl (Exists.intro 8 (Exists.intro (nI s.1) (And.intro rfl (And.intro gσ1 ?_))))
            refine Exists.intro (nI 1) (And.intro rfl ?_)
            refine Exists.intro (nI (s.1 + 1)) (And.intro (nI_add _ _) ?_)
            obtain ⟨σ2, eσ2⟩ : ∃ zs, zs = (qx_wi σ1 197 8 (nI (s.1 + 1))) := ⟨_, rfl⟩
            have fσ2 := qn_wif eσ2
            refine And.intro rfl (Exists.intro 8 (Exists.intro σ2 (And.intro rfl (And.intro eσ2.symm ?_))))
            refine And.intro rfl (Exists.intro _ (And.intro (by decide) (qx_M_mono (mc _ (hup _ _ aσ1 fσ1 eσ2)) ?_)))
            rintro _ σ3 ⟨fσ3, lσ3, mσ3, rfl, gσ3, zσ3⟩
            refine And.intro (fun h36_1 => ?_) (fun h36_1 => ?_)
            · skip
              have h36_1 := bI_f h36_1
              refine And.intro (fun h67 => ?_) (fun h67 => ?_)
              · skip
                have h67 := bI_f h67
                refine Exists.intro (nI 0) (And.intro rfl ?_)
                obtain ⟨σ4, eσ4⟩ : ∃ zs, zs = (qx_wi σ3 197 1 (nI 0)) := ⟨_, rfl⟩
                have fσ4 := qn_wif eσ4
                refine And.intro rfl (Exists.intro 1 (Exists.intro σ4 (And.intro rfl (And.intro eσ4.symm ?_))))
                refine And.intro rfl (Exists.intro 9 (Exists.intro (nI f) (And.intro rfl (And.intro ((qn_ne eσ4 (Or.inr (by decide))).trans (gσ3)) ?_))))
                refine And.intro (fun h97 => ?_) (fun h97 => ?_)
                · skip
                  refine Exists.intro (nI 0) (And.intro rfl ?_)
                  refine And.intro (Or.inl rfl) ?_
                  exact ⟨hf.tr ((fσ1.mn (by decide)).tr ((fσ2.mn (by decide)).tr ((fσ3.mn (by decide)).tr (fσ4.mn (by decide))))), ⟨fun j hj => (fσ4.i _ _ rfl).trans (zσ3 j hj), fun j hj => (fσ4.i _ _ rfl).trans ((lσ3 j hj).trans ((fσ2.i _ _ rfl).trans ((fσ1.i _ _ rfl).trans (hz.2.1 j hj)))), fun j hj => (fσ4.i _ _ rfl).trans ((mσ3 j hj).trans ((fσ2.i _ _ rfl).trans ((fσ1.i _ _ rfl).trans (hz.2.2 j hj))))⟩, h.1.zero (qn_eq eσ4), rfl, (fσ4.i _ _ rfl).trans gσ3⟩
                · skip
                  exact absurd h97 f0
              · skip
                have h67 := bI_t h67
                exact absurd (h67.symm.trans (rfl)) (by decide)
            · skip
              have h36_1 := bI_t h36_1
              exact absurd (h36_1.symm.trans (rfl)) (by decide)
      | ok y =>
        rw [ho] at mc
        have e1 : q_ruc T (m + 1) (q_pas T s) nc ci = q_rr T m y.1 (nc + 1) (va_up ci nc y.2) := q_ruc_ok ho
        rw [e1]
        refine qy_wp_ok (c := CX12_readsAll) (cuts := [35]) vX12_readsAll wX12_readsAll 2000 35 _ _ _ ?_
        refine And.intro (fun h36 => ?_) (fun h36 => ?_)
        · skip
          have h36 := bI_f h36
          exact absurd (h36.symm.trans (rfl)) (by decide)
        · skip
          have h36 := bI_t h36
          refine And.intro rfl (Exists.intro _ (And.intro (by decide) (qx_M_mono (sv) ?_)))
          rintro _ σ1 ⟨rfl, fσ1, aσ1, gσ1⟩
          refine Exists.intro (nI 59) (And.intro rfl ?_)
          refine And.intro (fun h45 => ?_) (fun h45 => ?_)
          · skip
            exact absurd (by decide) h45
          · skip
            refine And.intro rfl (Exists.intro 8 (Exists.intro (nI s.1) (And.intro rfl (And.intro gσ1 ?_))))
            refine Exists.intro (nI 1) (And.intro rfl ?_)
            refine Exists.intro (nI (s.1 + 1)) (And.intro (nI_add _ _) ?_)
            obtain ⟨σ2, eσ2⟩ : ∃ zs, zs = (qx_wi σ1 197 8 (nI (s.1 + 1))) := ⟨_, rfl⟩
            have fσ2 := qn_wif eσ2
            refine And.intro rfl (Exists.intro 8 (Exists.intro σ2 (And.intro rfl (And.intro eσ2.symm ?_))))
            refine And.intro rfl (Exists.intro _ (And.intro (by decide) (qx_M_mono (mc _ (hup _ _ aσ1 fσ1 eσ2)) ?_)))
            rintro _ σ3 ⟨fσ3, lσ3, mσ3, rfl, uσ3⟩
            exact ih y.1 (nc + 1) _ _ (by omega) uσ3 (hf.tr ((fσ1.mn (by decide)).tr ((fσ2.mn (by decide)).tr (fσ3.mn (by decide))))) ⟨fun j hj => uσ3.1.2.2.2.2.2.2.2.1 j hj, fun j hj => (lσ3 j hj).trans ((fσ2.i _ _ rfl).trans ((fσ1.i _ _ rfl).trans (hz.2.1 j hj))), fun j hj => (mσ3 j hj).trans ((fσ2.i _ _ rfl).trans ((fσ1.i _ _ rfl).trans (hz.2.2 j hj)))⟩
    · have ns : q_see T s.1 ≠ nI 59 := fun z => k9 ((q_kd_c hby (by decide) (by decide) (by decide) (by decide)).mp z)
      have hn9 := h.2.1
      by_cases ke : q_kd T s.1 = 999
      · have hge : T.1 ≤ s.1 := by
          rcases Nat.lt_or_ge s.1 T.1 with z | z
          · exfalso
            have b := hby _ z
            cases hl : isL T s.1 with
            | true =>
              rw [q_kd_L hl] at ke
              split at ke <;> omega
            | false =>
              cases hd : isD T s.1 with
              | true => rw [q_kd_D hd] at ke; split at ke <;> omega
              | false =>
                rw [(q_kd_S z hl hd).1] at ke
                split at ke
                · split at ke <;> omega
                · omega
          · exact z
        have es : q_see T s.1 = -1 := if_neg (by omega)
        have er : q_rr T (m + 1) s nc ci = .ok (nc, s.2.1, s.2.2.1, ci) := by
          unfold q_rr
          rw [if_neg k9, if_pos ke]
        rw [er]
        have sv : ∀ σ1, mP σ1 (qx_mi σ0 199) T t s → qx_M G qc_T 0 YX12_see [.ref 197] σ1 (fun r s' => r = some (.int (-1)) ∧ ql [(197, some 8)] σ1 s' ∧ mP s' (qx_mi σ0 199) T t s ∧ qx_mi s' 197 8 = nI s.1) := by
          intro σ1 a
          have := m_seeP (G := G) a
          rw [es] at this
          exact this
        refine qy_wp_ok (c := CX12_readsAll) (cuts := []) vX12_readsAll wX12_readsAll 2000 35 _ _ _ ?_
        refine And.intro (fun h36 => ?_) (fun h36 => ?_)
        · skip
          have h36 := bI_f h36
          exact absurd (h36.symm.trans (rfl)) (by decide)
        · skip
          have h36 := bI_t h36
          refine And.intro rfl (Exists.intro _ (And.intro (by decide) (qx_M_mono (sv _ h) ?_)))
          rintro _ σ1 ⟨rfl, fσ1, afσ1, gσ1⟩
          have h_σ1 : mP σ1 (qx_mi σ0 199) T t s := afσ1
          refine Exists.intro (nI 59) (And.intro rfl ?_)
          refine And.intro (fun h45 => ?_) (fun h45 => ?_)
          · skip
            refine And.intro (fun h67 => ?_) (fun h67 => ?_)
            · skip
              have h67 := bI_f h67
              exact absurd (h67.symm.trans (rfl)) (by decide)
            · skip
              have h67 := bI_t h67
              refine And.intro rfl (Exists.intro _ (And.intro (by decide) (qx_M_mono (sv _ h_σ1) ?_)))
              rintro _ σ2 ⟨rfl, fσ2, afσ2, gσ2⟩
              have h_σ2 : mP σ2 (qx_mi σ0 199) T t s := afσ2
              refine Exists.intro ((-1)) (And.intro (by decide) ?_)
              refine And.intro (fun h75 => ?_) (fun h75 => ?_)
              · skip
                refine Exists.intro (nI 0) (And.intro rfl ?_)
                obtain ⟨σ3, eσ3⟩ : ∃ zs, zs = (qx_wi σ2 197 1 (nI 0)) := ⟨_, rfl⟩
                have fσ3 := qn_wif eσ3
                refine And.intro rfl (Exists.intro 1 (Exists.intro σ3 (And.intro rfl (And.intro eσ3.symm ?_))))
                refine And.intro rfl (Exists.intro 9 (Exists.intro (nI 0) (And.intro rfl (And.intro ((qn_ne eσ3 (Or.inr (by decide))).trans ((fσ2.i _ _ rfl).trans ((fσ1.i _ _ rfl).trans (hn9)))) ?_))))
                refine And.intro (fun h97 => ?_) (fun h97 => ?_)
                · skip
                  exact absurd (by decide) h97
                · skip
                  refine Exists.intro (nI 1) (And.intro rfl ?_)
                  refine And.intro (Or.inr rfl) ?_
                  exact ⟨hf.tr ((fσ1.mn (by decide)).tr ((fσ2.mn (by decide)).tr (fσ3.mn (by decide)))), ⟨fun j hj => (fσ3.i _ _ rfl).trans ((fσ2.i _ _ rfl).trans ((fσ1.i _ _ rfl).trans (hz.1 j hj))), fun j hj => (fσ3.i _ _ rfl).trans ((fσ2.i _ _ rfl).trans ((fσ1.i _ _ rfl).trans (hz.2.1 j hj))), fun j hj => (fσ3.i _ _ rfl).trans ((fσ2.i _ _ rfl).trans ((fσ1.i _ _ rfl).trans (hz.2.2 j hj)))⟩, h.1.zero (qn_eq eσ3), rfl, (fσ3.i _ _ rfl).trans ((fσ2.i _ _ rfl).trans ((fσ1.i _ _ rfl).trans u3)), fun i hi => (fσ3.i _ _ rfl).trans ((fσ2.i _ _ rfl).trans ((fσ1.i _ _ rfl).trans (h.2.2.2.2.2.2.2.2.1 i hi))), u5, fun c hc => (u6 c hc).fr (nc := nc) (fun j hj => (fσ3.i _ _ rfl).trans ((fσ2.i _ _ rfl).trans (fσ1.i _ _ rfl))) hc⟩
              · skip
                exact absurd (by decide) h75
          · skip
            exact absurd h45 (by decide)
      · have es : q_see T s.1 ≠ -1 := by
          have hlt := q_kd_lt ke
          unfold q_see
          rw [if_pos hlt]
          have b := hby _ hlt
          intro z
          have h2 := congrArg Int32.toInt z
          rw [nI_toInt (by omega)] at h2
          exact absurd h2 (by rw [show (-1 : Int32).toInt = -1 from rfl]; omega)
        have er : q_rr T (m + 1) s nc ci = .error (1 + 8 * s.1 + 0) := by
          unfold q_rr
          rw [if_neg k9, if_neg ke]
        rw [er]
        have f0 : ¬ nI (1 + 8 * s.1 + 0) = nI 0 := nI_ne0' (by omega) (by omega)
        refine qy_wp_ok (c := CX12_readsAll) (cuts := [48]) vX12_readsAll wX12_readsAll 2000 35 _ _ _ ?_
        refine And.intro (fun h36 => ?_) (fun h36 => ?_)
        · skip
          have h36 := bI_f h36
          exact absurd (h36.symm.trans (rfl)) (by decide)
        · skip
          have h36 := bI_t h36
          refine And.intro rfl (Exists.intro _ (And.intro (by decide) (qx_M_mono (m_seeP h) ?_)))
          rintro _ σ1 ⟨rfl, fσ1, afσ1, gσ1⟩
          have h_σ1 : mP σ1 (qx_mi σ0 199) T t s := afσ1
          refine Exists.intro (nI 59) (And.intro rfl ?_)
          refine And.intro (fun h45 => ?_) (fun h45 => ?_)
          · skip
            refine And.intro (fun h67 => ?_) (fun h67 => ?_)
            · skip
              have h67 := bI_f h67
              exact absurd (h67.symm.trans (rfl)) (by decide)
            · skip
              have h67 := bI_t h67
              refine And.intro rfl (Exists.intro _ (And.intro (by decide) (qx_M_mono (m_seeP h_σ1) ?_)))
              rintro _ σ2 ⟨rfl, fσ2, afσ2, gσ2⟩
              have h_σ2 : mP σ2 (qx_mi σ0 199) T t s := afσ2
              refine Exists.intro ((-1)) (And.intro (by decide) ?_)
              refine And.intro (fun h75 => ?_) (fun h75 => ?_)
              · skip
                exact absurd h75 es
              · skip
                refine Exists.intro (nI 0) (And.intro rfl ?_)
                refine And.intro rfl (Exists.intro 8 (Exists.intro (nI s.1) (And.intro rfl (And.intro gσ2 ?_))))
                refine And.intro rfl (Exists.intro _ (And.intro (by decide) (qx_M_mono (m_fails h_σ2.2.1) ?_)))
                rintro _ σ3 ⟨rfl, fσ3, gσ3⟩
                refine Exists.intro (nI 0) (And.intro rfl ?_)
                obtain ⟨σ4, eσ4⟩ : ∃ zs, zs = (qx_wi σ3 197 1 (nI 0)) := ⟨_, rfl⟩
                have fσ4 := qn_wif eσ4
                refine And.intro rfl (Exists.intro 1 (Exists.intro σ4 (And.intro rfl (And.intro eσ4.symm ?_))))
                refine And.intro rfl (Exists.intro 9 (Exists.intro (nI (1 + 8 * s.1 + 0)) (And.intro rfl (And.intro ((qn_ne eσ4 (Or.inr (by decide))).trans (gσ3)) ?_))))
                refine And.intro (fun h97 => ?_) (fun h97 => ?_)
                · skip
                  refine Exists.intro (nI 0) (And.intro rfl ?_)
                  refine And.intro (Or.inl rfl) ?_
                  exact ⟨hf.tr ((fσ1.mn (by decide)).tr ((fσ2.mn (by decide)).tr ((fσ3.mn (by decide)).tr (fσ4.mn (by decide))))), ⟨fun j hj => (fσ4.i _ _ rfl).trans ((fσ3.i _ _ rfl).trans ((fσ2.i _ _ rfl).trans ((fσ1.i _ _ rfl).trans (hz.1 j hj)))), fun j hj => (fσ4.i _ _ rfl).trans ((fσ3.i _ _ rfl).trans ((fσ2.i _ _ rfl).trans ((fσ1.i _ _ rfl).trans (hz.2.1 j hj)))), fun j hj => (fσ4.i _ _ rfl).trans ((fσ3.i _ _ rfl).trans ((fσ2.i _ _ rfl).trans ((fσ1.i _ _ rfl).trans (hz.2.2 j hj))))⟩, h.1.zero (qn_eq eσ4), rfl, (fσ4.i _ _ rfl).trans gσ3⟩
                · skip
                  exact absurd h97 f0
          · skip
            refine qx_K_le (ls := [.ref 197, .retAddr 0]) ⟨Or.inr rfl, Or.inl rfl, trivial⟩ ?_
            exact absurd h45 ns
theorem m_readsAllR {G : qx_G} {σ : qx_S} {T : q_T} {t : Nat} (hT : tR σ T) (ht : t < 6) (e11 : qx_mi σ 197 11 = nI t) (e202 : qx_mi σ 202 t = nI 0) : qx_M G qc_T 11 YX12_readsAll [.ref 197] σ (fun r s' => rA σ s' T t (q_ru T) r) := by
  have key : ∀ σ1 σ2 σ3 σ4 σ5, σ1 = qx_wi σ 200 t (nI 0) → σ2 = qx_wi σ1 197 14 (nI 0) → σ3 = qx_wi σ2 197 8 (nI 0) → σ4 = qx_wi σ3 197 9 (nI 0) → σ5 = qx_wi σ4 197 12 (nI 0) → mU σ5 (qx_mi σ 199) T t (q_s0 T) 0 (fun _ => (false, 0, 0, 0)) ∧ ql lA2 σ σ5 ∧ bZ σ σ5 t := by
    intro σ1 σ2 σ3 σ4 σ5 e1 e2 e3 e4 e5
    have f1 := qn_wi e1
    have f2 := qn_wif e2
    have f3 := qn_wif e3
    have f4 := qn_wif e4
    have f5 := qn_wif e5
    have f : ql lA2 σ σ5 := (f1.mn (by decide)).tr ((f2.mn (by decide)).tr ((f3.mn (by decide)).tr ((f4.mn (by decide)).tr (f5.mn (by decide)))))
    have r199 : ∀ j, qx_mi σ5 199 j = qx_mi σ 199 j := fun j => (f5.i _ _ rfl).trans ((f4.i _ _ rfl).trans ((f3.i _ _ rfl).trans ((f2.i _ _ rfl).trans (f1.i _ _ rfl))))
    have r201 : ∀ j, qx_mi σ5 201 j = qx_mi σ 201 j := fun j => (f5.i _ _ rfl).trans ((f4.i _ _ rfl).trans ((f3.i _ _ rfl).trans ((f2.i _ _ rfl).trans (f1.i _ _ rfl))))
    have r202 : ∀ j, qx_mi σ5 202 j = qx_mi σ 202 j := fun j => (f5.i _ _ rfl).trans ((f4.i _ _ rfl).trans ((f3.i _ _ rfl).trans ((f2.i _ _ rfl).trans (f1.i _ _ rfl))))
    refine ⟨⟨⟨((((hT.fr f1 rfl (fun _ => rfl)).fr f2 rfl (fun _ => rfl)).fr f3 rfl (fun _ => rfl)).fr f4 rfl (fun _ => rfl)).fr f5 rfl (fun _ => rfl), (f5.i _ _ rfl).trans (qn_eq e4), (f5.i _ _ rfl).trans ((f4.i _ _ rfl).trans ((f3.i _ _ rfl).trans ((f2.i _ _ rfl).trans ((f1.i _ _ rfl).trans e11)))), ht, qn_eq e5, by show 0 ≤ 60; omega, (f5.i _ _ rfl).trans ((f4.i _ _ rfl).trans ((f3.i _ _ rfl).trans ((f2.i _ _ rfl).trans (qn_eq e1)))), fun j _ => r199 j, fun i hi => absurd hi (by show ¬ i < 0; omega), 0, (f5.i _ _ rfl).trans ((f4.i _ _ rfl).trans (qn_eq e3)), Nat.zero_le _, rfl⟩, Nat.zero_le _, (r202 t).trans e202, (f5.i _ _ rfl).trans ((f4.i _ _ rfl).trans ((f3.i _ _ rfl).trans (qn_eq e2))), by omega, fun c hc => absurd hc (by omega)⟩, f, fun j _ => r199 j, fun j _ => r201 j, fun j _ => r202 j⟩
  cases ho : q_oc T (q_s0 T) 0 with
  | error f =>
    have e1 : q_ru T = .error f := q_ruc_er ho
    rw [e1]
    have eb := q_oc_er (show (q_s0 T).1 ≤ T.1 from q_rn_le _ (Nat.zero_le _)) ho
    have h400 := hT.2.1
    have f0 : ¬ nI f = nI 0 := nI_ne0' eb.1 (by have := eb.2; omega)
    refine qx_M_in rfl (Nat.le_of_ble_eq_true rfl) ?_
    refine qy_wp_ok (c := CX12_readsAll) (cuts := []) vX12_readsAll wX12_readsAll 2000 0 _ _ _ ?_
    refine And.intro rfl (Exists.intro 200 (And.intro rfl ?_))
    refine And.intro rfl (Exists.intro 11 (Exists.intro (nI t) (And.intro rfl (And.intro e11 ?_))))
    refine Exists.intro (nI 0) (And.intro rfl ?_)
    obtain ⟨σ1, eσ1⟩ : ∃ zs, zs = (qx_wi σ 200 t (nI 0)) := ⟨_, rfl⟩
    have fσ1 := qn_wi eσ1
    refine Exists.intro (t) (Exists.intro σ1 (And.intro rfl (And.intro ⟨7, rfl, by omega, by decide⟩ (And.intro eσ1.symm ?_))))
    refine Exists.intro (nI 0) (And.intro rfl ?_)
    obtain ⟨σ2, eσ2⟩ : ∃ zs, zs = (qx_wi σ1 197 14 (nI 0)) := ⟨_, rfl⟩
    have fσ2 := qn_wif eσ2
    refine And.intro rfl (Exists.intro 14 (Exists.intro σ2 (And.intro rfl (And.intro eσ2.symm ?_))))
    refine Exists.intro (nI 0) (And.intro rfl ?_)
    obtain ⟨σ3, eσ3⟩ : ∃ zs, zs = (qx_wi σ2 197 8 (nI 0)) := ⟨_, rfl⟩
    have fσ3 := qn_wif eσ3
    refine And.intro rfl (Exists.intro 8 (Exists.intro σ3 (And.intro rfl (And.intro eσ3.symm ?_))))
    refine Exists.intro (nI 0) (And.intro rfl ?_)
    obtain ⟨σ4, eσ4⟩ : ∃ zs, zs = (qx_wi σ3 197 9 (nI 0)) := ⟨_, rfl⟩
    have fσ4 := qn_wif eσ4
    refine And.intro rfl (Exists.intro 9 (Exists.intro σ4 (And.intro rfl (And.intro eσ4.symm ?_))))
    refine Exists.intro (nI 0) (And.intro rfl ?_)
    obtain ⟨σ5, eσ5⟩ : ∃ zs, zs = (qx_wi σ4 197 12 (nI 0)) := ⟨_, rfl⟩
    have fσ5 := qn_wif eσ5
    refine And.intro rfl (Exists.intro 12 (Exists.intro σ5 (And.intro rfl (And.intro eσ5.symm ?_))))
    obtain ⟨kU, kf, kz⟩ := key _ _ _ _ _ eσ1 eσ2 eσ3 eσ4 eσ5
    have mc := m_clauseR (G := G) kU
    rw [ho] at mc
    refine And.intro rfl (Exists.intro _ (And.intro (by decide) (qx_M_mono (mc) ?_)))
    rintro _ σ6 ⟨fσ6, lσ6, mσ6, rfl, gσ6, zσ6⟩
    refine And.intro (fun h36 => ?_) (fun h36 => ?_)
    · skip
      have h36 := bI_f h36
      refine And.intro (fun h67 => ?_) (fun h67 => ?_)
      · skip
        have h67 := bI_f h67
        refine Exists.intro (nI 0) (And.intro rfl ?_)
        obtain ⟨σ7, eσ7⟩ : ∃ zs, zs = (qx_wi σ6 197 1 (nI 0)) := ⟨_, rfl⟩
        have fσ7 := qn_wif eσ7
        refine And.intro rfl (Exists.intro 1 (Exists.intro σ7 (And.intro rfl (And.intro eσ7.symm ?_))))
        refine And.intro rfl (Exists.intro 9 (Exists.intro (nI f) (And.intro rfl (And.intro ((qn_ne eσ7 (Or.inr (by decide))).trans (gσ6)) ?_))))
        refine And.intro (fun h97 => ?_) (fun h97 => ?_)
        · skip
          refine Exists.intro (nI 0) (And.intro rfl ?_)
          refine And.intro (Or.inl rfl) ?_
          exact ⟨kf.tr ((fσ6.mn (by decide)).tr (fσ7.mn (by decide))), ⟨fun j hj => (fσ7.i _ _ rfl).trans (zσ6 j hj), fun j hj => (fσ7.i _ _ rfl).trans ((lσ6 j hj).trans (kz.2.1 j hj)), fun j hj => (fσ7.i _ _ rfl).trans ((mσ6 j hj).trans (kz.2.2 j hj))⟩, hT.zero (qn_eq eσ7), rfl, (fσ7.i _ _ rfl).trans gσ6⟩
        · skip
          exact absurd h97 f0
      · skip
        have h67 := bI_t h67
        exact absurd (h67.symm.trans (rfl)) (by decide)
    · skip
      have h36 := bI_t h36
      exact absurd (h36.symm.trans (rfl)) (by decide)
  | ok y =>
    have e1 : q_ru T = q_rr T 12 y.1 1 (va_up (fun _ => (false, 0, 0, 0)) 0 y.2) := q_ruc_ok ho
    rw [e1]
    refine qx_M_in rfl (Nat.le_of_ble_eq_true rfl) ?_
    refine qy_wp_ok (c := CX12_readsAll) (cuts := [35]) vX12_readsAll wX12_readsAll 2000 0 _ _ _ ?_
    refine And.intro rfl (Exists.intro 200 (And.intro rfl ?_))
    refine And.intro rfl (Exists.intro 11 (Exists.intro (nI t) (And.intro rfl (And.intro e11 ?_))))
    refine Exists.intro (nI 0) (And.intro rfl ?_)
    obtain ⟨σ1, eσ1⟩ : ∃ zs, zs = (qx_wi σ 200 t (nI 0)) := ⟨_, rfl⟩
    have fσ1 := qn_wi eσ1
    refine Exists.intro (t) (Exists.intro σ1 (And.intro rfl (And.intro ⟨7, rfl, by omega, by decide⟩ (And.intro eσ1.symm ?_))))
    refine Exists.intro (nI 0) (And.intro rfl ?_)
    obtain ⟨σ2, eσ2⟩ : ∃ zs, zs = (qx_wi σ1 197 14 (nI 0)) := ⟨_, rfl⟩
    have fσ2 := qn_wif eσ2
    refine And.intro rfl (Exists.intro 14 (Exists.intro σ2 (And.intro rfl (And.intro eσ2.symm ?_))))
    refine Exists.intro (nI 0) (And.intro rfl ?_)
    obtain ⟨σ3, eσ3⟩ : ∃ zs, zs = (qx_wi σ2 197 8 (nI 0)) := ⟨_, rfl⟩
    have fσ3 := qn_wif eσ3
    refine And.intro rfl (Exists.intro 8 (Exists.intro σ3 (And.intro rfl (And.intro eσ3.symm ?_))))
    refine Exists.intro (nI 0) (And.intro rfl ?_)
    obtain ⟨σ4, eσ4⟩ : ∃ zs, zs = (qx_wi σ3 197 9 (nI 0)) := ⟨_, rfl⟩
    have fσ4 := qn_wif eσ4
    refine And.intro rfl (Exists.intro 9 (Exists.intro σ4 (And.intro rfl (And.intro eσ4.symm ?_))))
    refine Exists.intro (nI 0) (And.intro rfl ?_)
    obtain ⟨σ5, eσ5⟩ : ∃ zs, zs = (qx_wi σ4 197 12 (nI 0)) := ⟨_, rfl⟩
    have fσ5 := qn_wif eσ5
    refine And.intro rfl (Exists.intro 12 (Exists.intro σ5 (And.intro rfl (And.intro eσ5.symm ?_))))
    obtain ⟨kU, kf, kz⟩ := key _ _ _ _ _ eσ1 eσ2 eσ3 eσ4 eσ5
    have mc := m_clauseR (G := G) kU
    rw [ho] at mc
    refine And.intro rfl (Exists.intro _ (And.intro (by decide) (qx_M_mono (mc) ?_)))
    rintro _ σ6 ⟨fσ6, lσ6, mσ6, rfl, uσ6⟩
    exact l_ra 12 y.1 1 _ _ rfl uσ6 (kf.tr (fσ6.mn (by decide))) ⟨fun j hj => uσ6.1.2.2.2.2.2.2.2.1 j hj, fun j hj => (lσ6 j hj).trans (kz.2.1 j hj), fun j hj => (mσ6 j hj).trans (kz.2.2 j hj)⟩
theorem mR0.bz {σ s' : qx_S} {t t' : Nat} {R : qR} (h : mR1 σ t' R) (z : bZ σ s' t) (ht : t' < t) : mR1 s' t' R := by
  obtain ⟨w, a, b, c⟩ := h
  have w1 := w.1
  have w2 := w.2.1
  refine ⟨w, (z.2.2 t' (by omega)).trans a, fun i hi => (z.1 _ (by omega)).trans (b i hi), fun k hk => ?_⟩
  obtain ⟨c1, c2, c3, c4, c5⟩ := c k hk
  exact ⟨(z.2.1 _ (by omega)).trans c1, (z.2.1 _ (by omega)).trans c2, (z.2.1 _ (by omega)).trans c3, (z.2.1 _ (by omega)).trans c4, (z.2.1 _ (by omega)).trans c5⟩
theorem mR0.r1 {σ : qx_S} {t : Nat} {R : qR} (h : mR0 σ t R) (w : q_wf R) : mR1 σ t R := ⟨w, h.1, h.2.1, fun c hc => h.2.2.2 c hc⟩
abbrev lRu : List (Nat × Option Nat) := [(197, some 8), (197, some 9), (197, some 10), (197, some 12), (199, none), (200, none), (197, some 13), (197, some 16), (204, none), (201, none), (202, none), (197, some 14), (197, some 1), (197, some 11), (197, some 2)]
theorem m_rule_no {G : qx_G} {σ : qx_S} (er : qx_mi σ 197 2 = nI 6) : qx_M G qc_T 12 YX12_rule [.ref 197] σ (qr (-1) σ) := by
  refine qx_M_in rfl (Nat.le_of_ble_eq_true rfl) ?_
  refine qy_wp_ok (c := CX12_rule) (cuts := []) vX12_rule wX12_rule 2000 0 _ _ _ ?_
  refine And.intro rfl (Exists.intro 2 (Exists.intro (nI 6) (And.intro rfl (And.intro er ?_))))
  refine Exists.intro (nI 6) (And.intro rfl ?_)
  refine And.intro (fun h6 => ?_) (fun h6 => ?_)
  · skip
    exact absurd (by decide) h6
  · skip
    refine Exists.intro ((-1)) (And.intro (by decide) ?_)
    exact ⟨rfl, rfl⟩
theorem bZ.wi {σ σ1 σ2 s' : qx_S} {t : Nat} (e1 : ql [(197, some 11)] σ σ1) (e2 : σ2 = qx_wi σ1 202 t (nI 0)) (z : bZ σ2 s' t) : bZ σ s' t := by
  have f2 := qn_wi e2
  exact ⟨fun j hj => (z.1 j hj).trans ((f2.i _ _ rfl).trans (e1.i _ _ rfl)), fun j hj => (z.2.1 j hj).trans ((f2.i _ _ rfl).trans (e1.i _ _ rfl)), fun j hj => (z.2.2 j hj).trans ((qn_ne e2 (Or.inr hj)).trans (e1.i _ _ rfl))⟩
theorem bZ.fr {σ s s' : qx_S} {t : Nat} (z : bZ σ s t) (f : ql [(197, some 2)] s s') : bZ σ s' t := ⟨fun j hj => (f.i _ _ rfl).trans (z.1 j hj), fun j hj => (f.i _ _ rfl).trans (z.2.1 j hj), fun j hj => (f.i _ _ rfl).trans (z.2.2 j hj)⟩
/-- a rule is read: its number, or its fault -/
theorem m_rule_ok {G : qx_G} {σ : qx_S} {T : q_T} {nr : Nat} (hT : tR σ T) (er : qx_mi σ 197 2 = nI nr) (hr : nr < 6) : qx_M G qc_T 12 YX12_rule [.ref 197] σ (fun r s' => ql lRu σ s' ∧ bZ σ s' nr ∧ tR s' (0, T.2) ∧ (match q_ru T with
    | .error f => r = some (.int (-2 - nI f)) ∧ qx_mi s' 197 2 = nI nr
    | .ok R => r = some (.int (nI nr)) ∧ qx_mi s' 197 2 = nI (nr + 1) ∧ mR0 s' nr R)) := by
  have key : ∀ σ1 σ2, σ1 = qx_wi σ 197 11 (nI nr) → σ2 = qx_wi σ1 202 nr (nI 0) → qx_M G qc_T 11 YX12_readsAll [.ref 197] σ2 (fun r s' => rA σ2 s' T nr (q_ru T) r) := by
    intro σ1 σ2 e1 e2
    have f1 := qn_wif e1
    have f2 := qn_wi e2
    exact m_readsAllR ((hT.fr f1 rfl (fun _ => rfl)).fr f2 rfl (fun _ => rfl)) hr ((f2.i _ _ rfl).trans (qn_eq e1)) (qn_eq e2)
  cases ho : q_ru T with
  | error f =>
    rw [ho] at key
    refine qx_M_in rfl (Nat.le_of_ble_eq_true rfl) ?_
    refine qy_wp_ok (c := CX12_rule) (cuts := [9]) vX12_rule wX12_rule 2000 0 _ _ _ ?_
    refine And.intro rfl (Exists.intro 2 (Exists.intro (nI nr) (And.intro rfl (And.intro er ?_))))
    refine Exists.intro (nI 6) (And.intro rfl ?_)
    refine And.intro (fun h6 => ?_) (fun h6 => ?_)
    · skip
      have h6 := nI_neT (a := nr) (b := 6) (by omega) (by decide) h6
      refine And.intro rfl (Exists.intro 2 (Exists.intro (nI nr) (And.intro rfl (And.intro er ?_))))
      obtain ⟨σ1, eσ1⟩ : ∃ zs, zs = (qx_wi σ 197 11 (nI nr)) := ⟨_, rfl⟩
      have fσ1 := qn_wif eσ1
      refine And.intro rfl (Exists.intro 11 (Exists.intro σ1 (And.intro rfl (And.intro eσ1.symm ?_))))
      refine And.intro rfl (Exists.intro 202 (And.intro rfl ?_))
      refine And.intro rfl (Exists.intro 11 (Exists.intro (nI nr) (And.intro rfl (And.intro (qn_eq eσ1) ?_))))
      refine Exists.intro (nI 0) (And.intro rfl ?_)
      obtain ⟨σ2, eσ2⟩ : ∃ zs, zs = (qx_wi σ1 202 nr (nI 0)) := ⟨_, rfl⟩
      have fσ2 := qn_wi eσ2
      refine Exists.intro (nr) (Exists.intro σ2 (And.intro rfl (And.intro ⟨6, rfl, by omega, by decide⟩ (And.intro eσ2.symm ?_))))
      refine And.intro rfl (Exists.intro _ (And.intro (by decide) (qx_M_mono (key _ _ eσ1 eσ2) ?_)))
      rintro _ σ3 ⟨fσ3, zσ3, tσ3, rfl, gσ3⟩
      refine And.intro (fun h33 => ?_) (fun h33 => ?_)
      · skip
        have h33 := bI_t h33
        exact absurd (h33.symm.trans (rfl)) (by decide)
      · skip
        have h33 := bI_f h33
        refine Exists.intro ((-2)) (And.intro (by decide) ?_)
        refine And.intro rfl (Exists.intro 9 (Exists.intro (nI f) (And.intro rfl (And.intro gσ3 ?_))))
        refine Exists.intro ((-2) - (nI f)) (And.intro rfl ?_)
        exact ⟨(fσ1.mn (by decide)).tr ((fσ2.mn (by decide)).tr (fσ3.mn (by decide))), bZ.wi fσ1 eσ2 zσ3, tσ3, rfl, (fσ3.i _ _ rfl).trans ((fσ2.i _ _ rfl).trans ((fσ1.i _ _ rfl).trans er))⟩
    · skip
      have h6 := nI_eqT (a := nr) (b := 6) (by omega) (by decide) h6
      refine qx_K_le (ls := [.retAddr 0]) ⟨Or.inl rfl, trivial⟩ ?_
      exact absurd h6 (by omega)
  | ok R =>
    rw [ho] at key
    refine qx_M_in rfl (Nat.le_of_ble_eq_true rfl) ?_
    refine qy_wp_ok (c := CX12_rule) (cuts := [9]) vX12_rule wX12_rule 2000 0 _ _ _ ?_
    refine And.intro rfl (Exists.intro 2 (Exists.intro (nI nr) (And.intro rfl (And.intro er ?_))))
    refine Exists.intro (nI 6) (And.intro rfl ?_)
    refine And.intro (fun h6 => ?_) (fun h6 => ?_)
    · skip
      have h6 := nI_neT (a := nr) (b := 6) (by omega) (by decide) h6
      refine And.intro rfl (Exists.intro 2 (Exists.intro (nI nr) (And.intro rfl (And.intro er ?_))))
      obtain ⟨σ1, eσ1⟩ : ∃ zs, zs = (qx_wi σ 197 11 (nI nr)) := ⟨_, rfl⟩
      have fσ1 := qn_wif eσ1
      refine And.intro rfl (Exists.intro 11 (Exists.intro σ1 (And.intro rfl (And.intro eσ1.symm ?_))))
      refine And.intro rfl (Exists.intro 202 (And.intro rfl ?_))
      refine And.intro rfl (Exists.intro 11 (Exists.intro (nI nr) (And.intro rfl (And.intro (qn_eq eσ1) ?_))))
      refine Exists.intro (nI 0) (And.intro rfl ?_)
      obtain ⟨σ2, eσ2⟩ : ∃ zs, zs = (qx_wi σ1 202 nr (nI 0)) := ⟨_, rfl⟩
      have fσ2 := qn_wi eσ2
      refine Exists.intro (nr) (Exists.intro σ2 (And.intro rfl (And.intro ⟨6, rfl, by omega, by decide⟩ (And.intro eσ2.symm ?_))))
      refine And.intro rfl (Exists.intro _ (And.intro (by decide) (qx_M_mono (key _ _ eσ1 eσ2) ?_)))
      rintro _ σ3 ⟨fσ3, zσ3, tσ3, rfl, mσ3⟩
      refine And.intro (fun h33 => ?_) (fun h33 => ?_)
      · skip
        have h33 := bI_t h33
        refine And.intro rfl (Exists.intro 2 (Exists.intro (nI nr) (And.intro rfl (And.intro ((fσ3.i _ _ rfl).trans ((fσ2.i _ _ rfl).trans ((qn_ne eσ1 (Or.inr (by decide))).trans (er)))) ?_))))
        refine Exists.intro (nI 1) (And.intro rfl ?_)
        refine Exists.intro (nI (nr + 1)) (And.intro (nI_add _ _) ?_)
        obtain ⟨σ4, eσ4⟩ : ∃ zs, zs = (qx_wi σ3 197 2 (nI (nr + 1))) := ⟨_, rfl⟩
        have fσ4 := qn_wif eσ4
        refine And.intro rfl (Exists.intro 2 (Exists.intro σ4 (And.intro rfl (And.intro eσ4.symm ?_))))
        refine And.intro rfl (Exists.intro 2 (Exists.intro (nI (nr + 1)) (And.intro rfl (And.intro (qn_eq eσ4) ?_))))
        refine Exists.intro (nI 1) (And.intro rfl ?_)
        refine Exists.intro (nI nr) (And.intro (nI_sub (by omega)) ?_)
        exact ⟨(fσ1.mn (by decide)).tr ((fσ2.mn (by decide)).tr ((fσ3.mn (by decide)).tr (fσ4.mn (by decide)))), (bZ.wi fσ1 eσ2 zσ3).fr fσ4, tσ3.fr fσ4 rfl (fun _ => rfl), rfl, qn_eq eσ4, (fσ4.i _ _ rfl).trans mσ3.1, fun i hi => (fσ4.i _ _ rfl).trans (mσ3.2.1 i hi), mσ3.2.2.1, fun c hc => (mσ3.2.2.2 c hc).fr (nc := c + 1) (fun j _ => fσ4.i _ _ rfl) (Nat.lt_succ_self _)⟩
      · skip
        have h33 := bI_f h33
        exact absurd (h33.symm.trans (rfl)) (by decide)
    · skip
      have h6 := nI_eqT (a := nr) (b := 6) (by omega) (by decide) h6
      refine qx_K_le (ls := [.retAddr 0]) ⟨Or.inl rfl, trivial⟩ ?_
      exact absurd h6 (by omega)

