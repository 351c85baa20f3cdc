/-! THE REFERENCE: country -/
/-- all clauses from one on: fault, or what was read -/
def q_coc (T : q_T) : Nat → Nat → qS → Nat → Except Nat qS
  | 0, _, _, _ => .error 0
  | m + 1, p, D, ln => match q_k1 T p D ln with
    | .error f => .error f
    | .ok y => if q_kd T y.1 = 59 then q_coc T m (q_nx T y.1) y.2 (ln + 1) else if q_kd T y.1 = 999 then .ok y.2 else .error (1 + 8 * y.1 + 0)
def q_crr (T : q_T) (m p : Nat) (D : qS) (ln : Nat) : Except Nat qS := if q_kd T p = 59 then q_coc T m (q_nx T p) D ln else if q_kd T p = 999 then .ok D else .error (1 + 8 * p + 0)
theorem q_coc_er {T : q_T} {m p ln f : Nat} {D : qS} (h : q_k1 T p D ln = .error f) : q_coc T (m + 1) p D ln = .error f := by
  unfold q_coc
  rw [h]
theorem q_coc_ok {T : q_T} {m p ln : Nat} {D : qS} {y : Nat × qS} (h : q_k1 T p D ln = .ok y) : q_coc T (m + 1) p D ln = q_crr T m y.1 y.2 (ln + 1) := by
  unfold q_coc
  rw [h]
  rfl
def q_z3 (D : qS) : qS := va_up (va_up (va_up D 0 (nI 0)) 1 (nI 0)) 2 (nI 0)
def q_cty (T : q_T) (D : qS) : Except Nat qS := q_coc T 49 (q_sk T 0) (q_z3 D) 0
theorem q_z3_g (D : qS) : gC (q_z3 D) := by
  have e0 : q_z3 D 0 = nI 0 := by
    show va_up (va_up (va_up D 0 (nI 0)) 1 (nI 0)) 2 (nI 0) 0 = _
    rw [va_up_ne _ _ (by decide), va_up_ne _ _ (by decide), va_up_self]
  have e1 : q_z3 D 1 = nI 0 := by
    show va_up (va_up (va_up D 0 (nI 0)) 1 (nI 0)) 2 (nI 0) 1 = _
    rw [va_up_ne _ _ (by decide), va_up_self]
  have e2 : q_z3 D 2 = nI 0 := by
    show va_up (va_up (va_up D 0 (nI 0)) 1 (nI 0)) 2 (nI 0) 2 = _
    rw [va_up_self]
  have n0 : s_n (q_z3 D) 0 = 0 := by unfold s_n; rw [e0]; rfl
  have n1 : s_n (q_z3 D) 1 = 0 := by unfold s_n; rw [e1]; rfl
  have n2 : s_n (q_z3 D) 2 = 0 := by unfold s_n; rw [e2]; rfl
  refine ⟨⟨⟨by rw [n0]; exact e0, by omega⟩, ⟨by rw [n1]; exact e1, by omega⟩, ⟨by rw [n2]; exact e2, by omega⟩⟩, fun p hp => by omega, fun c hc => by omega, fun _ => ⟨n1, n2⟩, fun z => absurd n0 z⟩
abbrev lC4 : List (Nat × Option Nat) := [(197, some 8), (197, some 9), (197, some 10), (203, none), (197, some 14), (197, some 1), (200, none), (197, some 12)]
def rC4 (σ s' : qx_S) (T : q_T) (x : Except Nat qS) (r : Option Value) : Prop := ql lC4 σ s' ∧ tR s' (0, T.2) ∧ (match x with
  | .error f => r = some (.int (bI false)) ∧ qx_mi s' 197 9 = nI f
  | .ok D => r = some (.int (bI true)) ∧ qx_mi s' 203 = D)
theorem l_rc {G : qx_G} {σ0 : qx_S} {T : q_T} : ∀ (m p : Nat) (D : qS) (ln : Nat) (σ : qx_S), m + ln = 49 → ln ≤ 48 → mC σ T p D → gC D → qx_mi σ 197 11 = nI 6 → qx_mi σ 197 14 = nI ln → ql lC4 σ0 σ →
    qx_K G qc_T 6 RX12 YX12_readsAll 35 [.ref 197, .int (bI true)] [] σ (fun r s' => rC4 σ0 s' T (q_crr T m p D ln) r) := by
  intro m
  induction m with
  | zero =>
    intro p D ln σ hm hl
    omega
  | succ m ih =>
    intro p D ln σ hm hl h g e11 e14 hf
    obtain ⟨hsk, hle, h400, hby⟩ := h.sk
    by_cases k9 : q_kd T p = 59
    · obtain ⟨es, eb, hlt, ete⟩ := q_sgn hby (c := 59) (by decide) (by decide) (by decide) (by decide) k9
      have hnx := q_nx_gt hlt
      have sv := m_seeC (G := G) h
      rw [es] at sv
      have er : q_crr T (m + 1) p D ln = q_coc T (m + 1) (q_nx T p) D ln := if_pos k9
      rw [er]
      have mc : ∀ σ1, mC σ1 T (q_nx T p) D → qx_mi σ1 197 11 = nI 6 → qx_mi σ1 197 14 = nI ln → qx_M G qc_T 5 YX12_clauseHere [.ref 197] σ1 (fun r s' => rC3 σ1 s' T ln (q_k1 T (q_nx T p) D ln) r) := fun σ1 a b c => m_clauseC a g.1 b c hl
      have hup : ∀ σ1 σ2, mC σ1 T p D → σ2 = qx_wi σ1 197 8 (nI (p + 1)) → mC σ2 T (q_nx T p) D := by
        intro σ1 σ2 a e
        refine a.to (qn_wif e) (by decide) (qn_eq e) hlt ?_
        show q_sk T (p + 1) = q_sk T (q_te T p)
        rw [ete]
      cases ho : q_k1 T (q_nx T p) D ln with
      | error f =>
        rw [ho] at mc
        rw [q_coc_er ho]
        have eb := q_k1_er hnx.2 ho
        have f0 : ¬ nI f = nI 0 := nI_ne0' eb.1 (by have := eb.2; omega)
        refine qy_wp_ok (c := CX12_readsAll) (cuts := []) vX12_readsAll wX12_readsAll 2000 35 _ _ _ ?_
        refine And.intro (fun h36 => ?_) (fun h36 => ?_)
        · skip
          have h36 := bI_f h36
          exact absurd (h36.symm.trans (rfl)) (by decide)
        · skip
          have h36 := bI_t h36
          refine And.intro rfl (Exists.intro _ (And.intro (by decide) (qx_M_mono (sv) ?_)))
          rintro _ σ1 ⟨rfl, fσ1, aσ1, gσ1⟩
          refine Exists.intro (nI 59) (And.intro rfl ?_)
          refine And.intro (fun h45 => ?_) (fun h45 => ?_)
          · skip
            exact absurd (by decide) h45
          · skip
            refine And.intro rfl (Exists.intro 8 (Exists.intro (nI p) (And.intro rfl (And.intro gσ1 ?_))))
            refine Exists.intro (nI 1) (And.intro rfl ?_)
            refine Exists.intro (nI (p + 1)) (And.intro (nI_add _ _) ?_)
            obtain ⟨σ2, eσ2⟩ : ∃ zs, zs = (qx_wi σ1 197 8 (nI (p + 1))) := ⟨_, rfl⟩
            have fσ2 := qn_wif eσ2
            refine And.intro rfl (Exists.intro 8 (Exists.intro σ2 (And.intro rfl (And.intro eσ2.symm ?_))))
            refine And.intro rfl (Exists.intro _ (And.intro (by decide) (qx_M_mono (mc _ (hup _ _ aσ1 eσ2) ((fσ2.i _ _ rfl).trans ((fσ1.i _ _ rfl).trans e11)) ((fσ2.i _ _ rfl).trans ((fσ1.i _ _ rfl).trans e14))) ?_)))
            rintro _ σ3 ⟨fσ3, rfl, gσ3⟩
            refine And.intro (fun h36_1 => ?_) (fun h36_1 => ?_)
            · skip
              have h36_1 := bI_f h36_1
              refine And.intro (fun h67 => ?_) (fun h67 => ?_)
              · skip
                have h67 := bI_f h67
                refine Exists.intro (nI 0) (And.intro rfl ?_)
                obtain ⟨σ4, eσ4⟩ : ∃ zs, zs = (qx_wi σ3 197 1 (nI 0)) := ⟨_, rfl⟩
                have fσ4 := qn_wif eσ4
                refine And.intro rfl (Exists.intro 1 (Exists.intro σ4 (And.intro rfl (And.intro eσ4.symm ?_))))
                refine And.intro rfl (Exists.intro 9 (Exists.intro (nI f) (And.intro rfl (And.intro ((qn_ne eσ4 (Or.inr (by decide))).trans (gσ3)) ?_))))
                refine And.intro (fun h97 => ?_) (fun h97 => ?_)
                · skip
                  refine Exists.intro (nI 0) (And.intro rfl ?_)
                  refine And.intro (Or.inl rfl) ?_
                  exact ⟨hf.tr ((fσ1.mn (by decide)).tr ((fσ2.mn (by decide)).tr ((fσ3.mn (by decide)).tr (fσ4.mn (by decide))))), h.1.zero (qn_eq eσ4), rfl, (fσ4.i _ _ rfl).trans gσ3⟩
                · skip
                  exact absurd h97 f0
              · skip
                have h67 := bI_t h67
                exact absurd (h67.symm.trans (rfl)) (by decide)
            · skip
              have h36_1 := bI_t h36_1
              exact absurd (h36_1.symm.trans (rfl)) (by decide)
      | ok y =>
        rw [ho] at mc
        rw [q_coc_ok ho]
        obtain ⟨y1, y2, y3, y4⟩ := q_k1_g g ho
        refine qy_wp_ok (c := CX12_readsAll) (cuts := [35]) vX12_readsAll wX12_readsAll 2000 35 _ _ _ ?_
        refine And.intro (fun h36 => ?_) (fun h36 => ?_)
        · skip
          have h36 := bI_f h36
          exact absurd (h36.symm.trans (rfl)) (by decide)
        · skip
          have h36 := bI_t h36
          refine And.intro rfl (Exists.intro _ (And.intro (by decide) (qx_M_mono (sv) ?_)))
          rintro _ σ1 ⟨rfl, fσ1, aσ1, gσ1⟩
          refine Exists.intro (nI 59) (And.intro rfl ?_)
          refine And.intro (fun h45 => ?_) (fun h45 => ?_)
          · skip
            exact absurd (by decide) h45
          · skip
            refine And.intro rfl (Exists.intro 8 (Exists.intro (nI p) (And.intro rfl (And.intro gσ1 ?_))))
            refine Exists.intro (nI 1) (And.intro rfl ?_)
            refine Exists.intro (nI (p + 1)) (And.intro (nI_add _ _) ?_)
            obtain ⟨σ2, eσ2⟩ : ∃ zs, zs = (qx_wi σ1 197 8 (nI (p + 1))) := ⟨_, rfl⟩
            have fσ2 := qn_wif eσ2
            refine And.intro rfl (Exists.intro 8 (Exists.intro σ2 (And.intro rfl (And.intro eσ2.symm ?_))))
            refine And.intro rfl (Exists.intro _ (And.intro (by decide) (qx_M_mono (mc _ (hup _ _ aσ1 eσ2) ((fσ2.i _ _ rfl).trans ((fσ1.i _ _ rfl).trans e11)) ((fσ2.i _ _ rfl).trans ((fσ1.i _ _ rfl).trans e14))) ?_)))
            rintro _ σ3 ⟨fσ3, rfl, aσ3, gσ3⟩
            exact ih y.1 y.2 (ln + 1) _ (by omega) (by omega) aσ3 y1 ((fσ3.i _ _ rfl).trans ((fσ2.i _ _ rfl).trans ((fσ1.i _ _ rfl).trans e11))) gσ3 (hf.tr ((fσ1.mn (by decide)).tr ((fσ2.mn (by decide)).tr (fσ3.mn (by decide)))))
    · have ns : q_see T p ≠ nI 59 := fun z => k9 ((q_kd_c hby (by decide) (by decide) (by decide) (by decide)).mp z)
      have hn9 := h.2.1
      by_cases ke : q_kd T p = 999
      · have hge : T.1 ≤ p := by
          rcases Nat.lt_or_ge p T.1 with z | z
          · exfalso
            have b := hby _ z
            cases hl : isL T p with
            | true =>
              rw [q_kd_L hl] at ke
              split at ke <;> omega
            | false =>
              cases hd : isD T p with
              | true => rw [q_kd_D hd] at ke; split at ke <;> omega
              | false =>
                rw [(q_kd_S z hl hd).1] at ke
                split at ke
                · split at ke <;> omega
                · omega
          · exact z
        have es : q_see T p = -1 := if_neg (by omega)
        have er : q_crr T (m + 1) p D ln = .ok D := by
          unfold q_crr
          rw [if_neg k9, if_pos ke]
        rw [er]
        have sv : ∀ σ1, mC σ1 T p D → qx_M G qc_T 0 YX12_see [.ref 197] σ1 (fun r s' => r = some (.int (-1)) ∧ ql [(197, some 8)] σ1 s' ∧ mC s' T p D ∧ qx_mi s' 197 8 = nI p) := by
          intro σ1 a
          have := m_seeC (G := G) a
          rw [es] at this
          exact this
        refine qy_wp_ok (c := CX12_readsAll) (cuts := []) vX12_readsAll wX12_readsAll 2000 35 _ _ _ ?_
        refine And.intro (fun h36 => ?_) (fun h36 => ?_)
        · skip
          have h36 := bI_f h36
          exact absurd (h36.symm.trans (rfl)) (by decide)
        · skip
          have h36 := bI_t h36
          refine And.intro rfl (Exists.intro _ (And.intro (by decide) (qx_M_mono (sv _ h) ?_)))
          rintro _ σ1 ⟨rfl, fσ1, afσ1, gσ1⟩
          have h_σ1 : mC σ1 T p D := afσ1
          refine Exists.intro (nI 59) (And.intro rfl ?_)
          refine And.intro (fun h45 => ?_) (fun h45 => ?_)
          · skip
            refine And.intro (fun h67 => ?_) (fun h67 => ?_)
            · skip
              have h67 := bI_f h67
              exact absurd (h67.symm.trans (rfl)) (by decide)
            · skip
              have h67 := bI_t h67
              refine And.intro rfl (Exists.intro _ (And.intro (by decide) (qx_M_mono (sv _ h_σ1) ?_)))
              rintro _ σ2 ⟨rfl, fσ2, afσ2, gσ2⟩
              have h_σ2 : mC σ2 T p D := afσ2
              refine Exists.intro ((-1)) (And.intro (by decide) ?_)
              refine And.intro (fun h75 => ?_) (fun h75 => ?_)
              · skip
                refine Exists.intro (nI 0) (And.intro rfl ?_)
                obtain ⟨σ3, eσ3⟩ : ∃ zs, zs = (qx_wi σ2 197 1 (nI 0)) := ⟨_, rfl⟩
                have fσ3 := qn_wif eσ3
                refine And.intro rfl (Exists.intro 1 (Exists.intro σ3 (And.intro rfl (And.intro eσ3.symm ?_))))
                refine And.intro rfl (Exists.intro 9 (Exists.intro (nI 0) (And.intro rfl (And.intro ((qn_ne eσ3 (Or.inr (by decide))).trans ((fσ2.i _ _ rfl).trans ((fσ1.i _ _ rfl).trans (hn9)))) ?_))))
                refine And.intro (fun h97 => ?_) (fun h97 => ?_)
                · skip
                  exact absurd (by decide) h97
                · skip
                  refine Exists.intro (nI 1) (And.intro rfl ?_)
                  refine And.intro (Or.inr rfl) ?_
                  exact ⟨hf.tr ((fσ1.mn (by decide)).tr ((fσ2.mn (by decide)).tr (fσ3.mn (by decide)))), h.1.zero (qn_eq eσ3), rfl, (fσ3.row 203 (fun _ => rfl)).trans afσ2.2.2.1⟩
              · skip
                exact absurd (by decide) h75
          · skip
            exact absurd h45 (by decide)
      · have es : q_see T p ≠ -1 := by
          have hlt := q_kd_lt ke
          unfold q_see
          rw [if_pos hlt]
          have b := hby _ hlt
          intro z
          have h2 := congrArg Int32.toInt z
          rw [nI_toInt (by omega)] at h2
          exact absurd h2 (by rw [show (-1 : Int32).toInt = -1 from rfl]; omega)
        have er : q_crr T (m + 1) p D ln = .error (1 + 8 * p + 0) := by
          unfold q_crr
          rw [if_neg k9, if_neg ke]
        rw [er]
        have f0 : ¬ nI (1 + 8 * p + 0) = nI 0 := nI_ne0' (by omega) (by omega)
        refine qy_wp_ok (c := CX12_readsAll) (cuts := [48]) vX12_readsAll wX12_readsAll 2000 35 _ _ _ ?_
        refine And.intro (fun h36 => ?_) (fun h36 => ?_)
        · skip
          have h36 := bI_f h36
          exact absurd (h36.symm.trans (rfl)) (by decide)
        · skip
          have h36 := bI_t h36
          refine And.intro rfl (Exists.intro _ (And.intro (by decide) (qx_M_mono (m_seeC h) ?_)))
          rintro _ σ1 ⟨rfl, fσ1, afσ1, gσ1⟩
          have h_σ1 : mC σ1 T p D := afσ1
          refine Exists.intro (nI 59) (And.intro rfl ?_)
          refine And.intro (fun h45 => ?_) (fun h45 => ?_)
          · skip
            refine And.intro (fun h67 => ?_) (fun h67 => ?_)
            · skip
              have h67 := bI_f h67
              exact absurd (h67.symm.trans (rfl)) (by decide)
            · skip
              have h67 := bI_t h67
              refine And.intro rfl (Exists.intro _ (And.intro (by decide) (qx_M_mono (m_seeC h_σ1) ?_)))
              rintro _ σ2 ⟨rfl, fσ2, afσ2, gσ2⟩
              have h_σ2 : mC σ2 T p D := afσ2
              refine Exists.intro ((-1)) (And.intro (by decide) ?_)
              refine And.intro (fun h75 => ?_) (fun h75 => ?_)
              · skip
                exact absurd h75 es
              · skip
                refine Exists.intro (nI 0) (And.intro rfl ?_)
                refine And.intro rfl (Exists.intro 8 (Exists.intro (nI p) (And.intro rfl (And.intro gσ2 ?_))))
                refine And.intro rfl (Exists.intro _ (And.intro (by decide) (qx_M_mono (m_fails h_σ2.2.1) ?_)))
                rintro _ σ3 ⟨rfl, fσ3, gσ3⟩
                refine Exists.intro (nI 0) (And.intro rfl ?_)
                obtain ⟨σ4, eσ4⟩ : ∃ zs, zs = (qx_wi σ3 197 1 (nI 0)) := ⟨_, rfl⟩
                have fσ4 := qn_wif eσ4
                refine And.intro rfl (Exists.intro 1 (Exists.intro σ4 (And.intro rfl (And.intro eσ4.symm ?_))))
                refine And.intro rfl (Exists.intro 9 (Exists.intro (nI (1 + 8 * p + 0)) (And.intro rfl (And.intro ((qn_ne eσ4 (Or.inr (by decide))).trans (gσ3)) ?_))))
                refine And.intro (fun h97 => ?_) (fun h97 => ?_)
                · skip
                  refine Exists.intro (nI 0) (And.intro rfl ?_)
                  refine And.intro (Or.inl rfl) ?_
                  exact ⟨hf.tr ((fσ1.mn (by decide)).tr ((fσ2.mn (by decide)).tr ((fσ3.mn (by decide)).tr (fσ4.mn (by decide))))), h.1.zero (qn_eq eσ4), rfl, (fσ4.i _ _ rfl).trans gσ3⟩
                · skip
                  exact absurd h97 f0
          · skip
            refine qx_K_le (ls := [.ref 197, .retAddr 0]) ⟨Or.inr rfl, Or.inl rfl, trivial⟩ ?_
            exact absurd h45 ns
theorem m_readsAllC {G : qx_G} {σ : qx_S} {T : q_T} {D : qS} (hT : tR σ T) (g : gC D) (e11 : qx_mi σ 197 11 = nI 6) (e203 : qx_mi σ 203 = D) : qx_M G qc_T 6 YX12_readsAll [.ref 197] σ (fun r s' => rC4 σ s' T (q_coc T 49 (q_sk T 0) D 0) r) := by
  have key : ∀ σ1 σ2 σ3 σ4 σ5, σ1 = qx_wi σ 200 6 (nI 0) → σ2 = qx_wi σ1 197 14 (nI 0) → σ3 = qx_wi σ2 197 8 (nI 0) → σ4 = qx_wi σ3 197 9 (nI 0) → σ5 = qx_wi σ4 197 12 (nI 0) → mC σ5 T (q_sk T 0) D ∧ qx_mi σ5 197 11 = nI 6 ∧ qx_mi σ5 197 14 = nI 0 ∧ ql lC4 σ σ5 := by
    intro σ1 σ2 σ3 σ4 σ5 e1 e2 e3 e4 e5
    have f1 := qn_wi e1
    have f2 := qn_wif e2
    have f3 := qn_wif e3
    have f4 := qn_wif e4
    have f5 := qn_wif e5
    exact ⟨⟨((((hT.fr f1 rfl (fun _ => rfl)).fr f2 rfl (fun _ => rfl)).fr f3 rfl (fun _ => rfl)).fr f4 rfl (fun _ => rfl)).fr f5 rfl (fun _ => rfl), (f5.i _ _ rfl).trans (qn_eq e4), (f5.row 203 (fun _ => rfl)).trans ((f4.row 203 (fun _ => rfl)).trans ((f3.row 203 (fun _ => rfl)).trans ((f2.row 203 (fun _ => rfl)).trans ((f1.row 203 (fun _ => rfl)).trans e203)))), 0, (f5.i _ _ rfl).trans ((f4.i _ _ rfl).trans (qn_eq e3)), Nat.zero_le _, rfl⟩, (f5.i _ _ rfl).trans ((f4.i _ _ rfl).trans ((f3.i _ _ rfl).trans ((f2.i _ _ rfl).trans ((f1.i _ _ rfl).trans e11)))), (f5.i _ _ rfl).trans ((f4.i _ _ rfl).trans ((f3.i _ _ rfl).trans (qn_eq e2))), (f1.mn (by decide)).tr ((f2.mn (by decide)).tr ((f3.mn (by decide)).tr ((f4.mn (by decide)).tr (f5.mn (by decide)))))⟩
  cases ho : q_k1 T (q_sk T 0) D 0 with
  | error f =>
    rw [q_coc_er ho]
    have eb := q_k1_er (show q_sk T 0 ≤ T.1 from q_rn_le _ (Nat.zero_le _)) ho
    have h400 := hT.2.1
    have f0 : ¬ nI f = nI 0 := nI_ne0' eb.1 (by have := eb.2; omega)
    refine qx_M_in rfl (Nat.le_of_ble_eq_true rfl) ?_
    refine qy_wp_ok (c := CX12_readsAll) (cuts := []) vX12_readsAll wX12_readsAll 2000 0 _ _ _ ?_
    refine And.intro rfl (Exists.intro 200 (And.intro rfl ?_))
    refine And.intro rfl (Exists.intro 11 (Exists.intro (nI 6) (And.intro rfl (And.intro e11 ?_))))
    refine Exists.intro (nI 0) (And.intro rfl ?_)
    obtain ⟨σ1, eσ1⟩ : ∃ zs, zs = (qx_wi σ 200 6 (nI 0)) := ⟨_, rfl⟩
    have fσ1 := qn_wi eσ1
    refine Exists.intro (6) (Exists.intro σ1 (And.intro rfl (And.intro ⟨7, rfl, by decide, by decide⟩ (And.intro eσ1.symm ?_))))
    refine Exists.intro (nI 0) (And.intro rfl ?_)
    obtain ⟨σ2, eσ2⟩ : ∃ zs, zs = (qx_wi σ1 197 14 (nI 0)) := ⟨_, rfl⟩
    have fσ2 := qn_wif eσ2
    refine And.intro rfl (Exists.intro 14 (Exists.intro σ2 (And.intro rfl (And.intro eσ2.symm ?_))))
    refine Exists.intro (nI 0) (And.intro rfl ?_)
    obtain ⟨σ3, eσ3⟩ : ∃ zs, zs = (qx_wi σ2 197 8 (nI 0)) := ⟨_, rfl⟩
    have fσ3 := qn_wif eσ3
    refine And.intro rfl (Exists.intro 8 (Exists.intro σ3 (And.intro rfl (And.intro eσ3.symm ?_))))
    refine Exists.intro (nI 0) (And.intro rfl ?_)
    obtain ⟨σ4, eσ4⟩ : ∃ zs, zs = (qx_wi σ3 197 9 (nI 0)) := ⟨_, rfl⟩
    have fσ4 := qn_wif eσ4
    refine And.intro rfl (Exists.intro 9 (Exists.intro σ4 (And.intro rfl (And.intro eσ4.symm ?_))))
    refine Exists.intro (nI 0) (And.intro rfl ?_)
    obtain ⟨σ5, eσ5⟩ : ∃ zs, zs = (qx_wi σ4 197 12 (nI 0)) := ⟨_, rfl⟩
    have fσ5 := qn_wif eσ5
    refine And.intro rfl (Exists.intro 12 (Exists.intro σ5 (And.intro rfl (And.intro eσ5.symm ?_))))
    obtain ⟨kC, k11, k14, kf⟩ := key _ _ _ _ _ eσ1 eσ2 eσ3 eσ4 eσ5
    have mc := m_clauseC (G := G) kC g.1 k11 k14 (by omega)
    rw [ho] at mc
    refine And.intro rfl (Exists.intro _ (And.intro (by decide) (qx_M_mono (mc) ?_)))
    rintro _ σ6 ⟨fσ6, rfl, gσ6⟩
    refine And.intro (fun h36 => ?_) (fun h36 => ?_)
    · skip
      have h36 := bI_f h36
      refine And.intro (fun h67 => ?_) (fun h67 => ?_)
      · skip
        have h67 := bI_f h67
        refine Exists.intro (nI 0) (And.intro rfl ?_)
        obtain ⟨σ7, eσ7⟩ : ∃ zs, zs = (qx_wi σ6 197 1 (nI 0)) := ⟨_, rfl⟩
        have fσ7 := qn_wif eσ7
        refine And.intro rfl (Exists.intro 1 (Exists.intro σ7 (And.intro rfl (And.intro eσ7.symm ?_))))
        refine And.intro rfl (Exists.intro 9 (Exists.intro (nI f) (And.intro rfl (And.intro ((qn_ne eσ7 (Or.inr (by decide))).trans (gσ6)) ?_))))
        refine And.intro (fun h97 => ?_) (fun h97 => ?_)
        · skip
          refine Exists.intro (nI 0) (And.intro rfl ?_)
          refine And.intro (Or.inl rfl) ?_
          exact ⟨kf.tr ((fσ6.mn (by decide)).tr (fσ7.mn (by decide))), hT.zero (qn_eq eσ7), rfl, (fσ7.i _ _ rfl).trans gσ6⟩
        · skip
          exact absurd h97 f0
      · skip
        have h67 := bI_t h67
        exact absurd (h67.symm.trans (rfl)) (by decide)
    · skip
      have h36 := bI_t h36
      exact absurd (h36.symm.trans (rfl)) (by decide)
  | ok y =>
    rw [q_coc_ok ho]
    obtain ⟨y1, y2, y3, y4⟩ := q_k1_g g ho
    refine qx_M_in rfl (Nat.le_of_ble_eq_true rfl) ?_
    refine qy_wp_ok (c := CX12_readsAll) (cuts := [35]) vX12_readsAll wX12_readsAll 2000 0 _ _ _ ?_
    refine And.intro rfl (Exists.intro 200 (And.intro rfl ?_))
    refine And.intro rfl (Exists.intro 11 (Exists.intro (nI 6) (And.intro rfl (And.intro e11 ?_))))
    refine Exists.intro (nI 0) (And.intro rfl ?_)
    obtain ⟨σ1, eσ1⟩ : ∃ zs, zs = (qx_wi σ 200 6 (nI 0)) := ⟨_, rfl⟩
    have fσ1 := qn_wi eσ1
    refine Exists.intro (6) (Exists.intro σ1 (And.intro rfl (And.intro ⟨7, rfl, by decide, by decide⟩ (And.intro eσ1.symm ?_))))
    refine Exists.intro (nI 0) (And.intro rfl ?_)
    obtain ⟨σ2, eσ2⟩ : ∃ zs, zs = (qx_wi σ1 197 14 (nI 0)) := ⟨_, rfl⟩
    have fσ2 := qn_wif eσ2
    refine And.intro rfl (Exists.intro 14 (Exists.intro σ2 (And.intro rfl (And.intro eσ2.symm ?_))))
    refine Exists.intro (nI 0) (And.intro rfl ?_)
    obtain ⟨σ3, eσ3⟩ : ∃ zs, zs = (qx_wi σ2 197 8 (nI 0)) := ⟨_, rfl⟩
    have fσ3 := qn_wif eσ3
    refine And.intro rfl (Exists.intro 8 (Exists.intro σ3 (And.intro rfl (And.intro eσ3.symm ?_))))
    refine Exists.intro (nI 0) (And.intro rfl ?_)
    obtain ⟨σ4, eσ4⟩ : ∃ zs, zs = (qx_wi σ3 197 9 (nI 0)) := ⟨_, rfl⟩
    have fσ4 := qn_wif eσ4
    refine And.intro rfl (Exists.intro 9 (Exists.intro σ4 (And.intro rfl (And.intro eσ4.symm ?_))))
    refine Exists.intro (nI 0) (And.intro rfl ?_)
    obtain ⟨σ5, eσ5⟩ : ∃ zs, zs = (qx_wi σ4 197 12 (nI 0)) := ⟨_, rfl⟩
    have fσ5 := qn_wif eσ5
    refine And.intro rfl (Exists.intro 12 (Exists.intro σ5 (And.intro rfl (And.intro eσ5.symm ?_))))
    obtain ⟨kC, k11, k14, kf⟩ := key _ _ _ _ _ eσ1 eσ2 eσ3 eσ4 eσ5
    have mc := m_clauseC (G := G) kC g.1 k11 k14 (by omega)
    rw [ho] at mc
    refine And.intro rfl (Exists.intro _ (And.intro (by decide) (qx_M_mono (mc) ?_)))
    rintro _ σ6 ⟨fσ6, rfl, aσ6, gσ6⟩
    exact l_rc 48 y.1 y.2 1 _ rfl (by omega) aσ6 y1 ((fσ6.i _ _ rfl).trans k11) gσ6 (kf.tr (fσ6.mn (by decide)))
/-- cells from a on, below b, are f's -/
def q_fr3 (f g : qS) (a b : Nat) : qS := fun i => if a ≤ i ∧ i < b then f i else g i
theorem q_fr3_0 (f g : qS) (a : Nat) : q_fr3 f g a a = g := by
  funext i
  exact if_neg (by omega)
theorem q_fr3_s (f g : qS) {a k : Nat} (h : a ≤ k) : q_fr3 f g a (k + 1) = va_up (q_fr3 f g a k) k (f k) := by
  funext i
  by_cases z : i = k
  · subst z
    rw [va_up_self]
    exact if_pos (by omega)
  · rw [va_up_ne _ _ z]
    unfold q_fr3
    by_cases y : a ≤ i ∧ i < k
    · rw [if_pos y, if_pos (by omega)]
    · rw [if_neg y, if_neg (by omega)]
/-- the state of a new country -/
def q_nc2 (S D : qS) : qS := va_up (va_up (va_up (q_fr3 (fun _ => -1) (q_fr3 D (q_fr3 D (q_fr3 (fun _ => nI 0) S 0 2788) 0 3) 10 148) 338 348) 3 (nI 1)) 7 (S 7)) 8 (S 8)
theorem l_cyA {G : qx_G} {Φ : qx_F} {σ0 : qx_S} {S : qS} {x y : Int32} (hc : ∀ s, ql [(207, none)] σ0 s → qx_mi s 207 = q_fr3 (fun _ => nI 0) S 0 2788 → qx_K G qc_T 7 RX12 YX12_country 79 [.ref 197, .int x, .int y, .retAddr 0] [] s Φ) : ∀ (m k : Nat) (σ : qx_S), k + m = 2788 → ql [(207, none)] σ0 σ → qx_mi σ 207 = q_fr3 (fun _ => nI 0) S 0 k →
    qx_K G qc_T 7 RX12 YX12_country 59 [.ref 197, .int x, .int y, .int (nI k)] [] σ Φ := by
  intro m
  induction m with
  | zero =>
    intro k σ hk hf hS
    obtain rfl : k = 2788 := by omega
    refine qy_wp_ok (c := CX12_country) (cuts := [59, 79]) vX12_country wX12_country 2000 59 _ _ _ ?_
    refine Exists.intro (nI 2788) (And.intro rfl ?_)
    refine And.intro (fun h63 => ?_) (fun h63 => ?_)
    · skip
      refine qx_K_le (ls := [.ref 197, .int x, .int y, .retAddr 0]) ⟨Or.inr rfl, Or.inr rfl, Or.inr rfl, Or.inl rfl, trivial⟩ ?_
      exact hc _ hf hS
    · skip
      exact absurd (by decide) h63
  | succ m ih =>
    intro k σ hk hf hS
    refine qy_wp_ok (c := CX12_country) (cuts := [59, 79]) vX12_country wX12_country 2000 59 _ _ _ ?_
    refine Exists.intro (nI 2788) (And.intro rfl ?_)
    refine And.intro (fun h63 => ?_) (fun h63 => ?_)
    · skip
      have h63 := nI_leT (a := 2788) (b := k) (by decide) (by omega) h63
      exact absurd h63 (by omega)
    · skip
      have h63 := nI_leF (a := 2788) (b := k) (by decide) (by omega) h63
      refine And.intro rfl (Exists.intro 207 (And.intro rfl ?_))
      refine Exists.intro (nI 0) (And.intro rfl ?_)
      obtain ⟨σ1, eσ1⟩ : ∃ zs, zs = (qx_wi σ 207 k (nI 0)) := ⟨_, rfl⟩
      have fσ1 := qn_wi eσ1
      refine Exists.intro (k) (Exists.intro σ1 (And.intro rfl (And.intro ⟨2788, rfl, by omega, by decide⟩ (And.intro eσ1.symm ?_))))
      refine Exists.intro (nI (k + 1)) (And.intro (nI_add _ _) ?_)
      exact ih (k + 1) _ (by omega) (hf.tr fσ1) ((qn_rowS eσ1 hS).trans (q_fr3_s _ _ (Nat.zero_le _)).symm)
theorem l_cyB {G : qx_G} {Φ : qx_F} {σ0 : qx_S} {E D : qS} {x y : Int32} (e203 : qx_mi σ0 203 = D) (hc : ∀ s, ql [(207, none)] σ0 s → qx_mi s 207 = q_fr3 D E 0 3 → qx_K G qc_T 7 RX12 YX12_country 104 [.ref 197, .int x, .int y, .retAddr 0] [] s Φ) : ∀ (m k : Nat) (σ : qx_S), k + m = 3 → ql [(207, none)] σ0 σ → qx_mi σ 207 = q_fr3 D E 0 k →
    qx_K G qc_T 7 RX12 YX12_country 81 [.ref 197, .int x, .int y, .int (nI k)] [] σ Φ := by
  intro m
  induction m with
  | zero =>
    intro k σ hk hf hS
    obtain rfl : k = 3 := by omega
    refine qy_wp_ok (c := CX12_country) (cuts := [81, 104]) vX12_country wX12_country 2000 81 _ _ _ ?_
    refine Exists.intro (nI 3) (And.intro rfl ?_)
    refine And.intro (fun h83 => ?_) (fun h83 => ?_)
    · skip
      refine qx_K_le (ls := [.ref 197, .int x, .int y, .retAddr 0]) ⟨Or.inr rfl, Or.inr rfl, Or.inr rfl, Or.inl rfl, trivial⟩ ?_
      exact hc _ hf hS
    · skip
      exact absurd (by decide) h83
  | succ m ih =>
    intro k σ hk hf hS
    have ed : qx_mi σ 203 k = D k := (hf.i _ _ rfl).trans (congrFun e203 k)
    refine qy_wp_ok (c := CX12_country) (cuts := [81, 104]) vX12_country wX12_country 2000 81 _ _ _ ?_
    refine Exists.intro (nI 3) (And.intro rfl ?_)
    refine And.intro (fun h83 => ?_) (fun h83 => ?_)
    · skip
      have h83 := nI_leT (a := 3) (b := k) (by decide) (by omega) h83
      exact absurd h83 (by omega)
    · skip
      have h83 := nI_leF (a := 3) (b := k) (by decide) (by omega) h83
      refine And.intro rfl (Exists.intro 207 (And.intro rfl ?_))
      refine And.intro rfl (Exists.intro 203 (And.intro rfl ?_))
      refine Exists.intro (k) (Exists.intro (D k) (And.intro rfl (And.intro ⟨148, rfl, by omega, by decide⟩ (And.intro ed ?_))))
      obtain ⟨σ1, eσ1⟩ : ∃ zs, zs = (qx_wi σ 207 k (D k)) := ⟨_, rfl⟩
      have fσ1 := qn_wi eσ1
      refine Exists.intro (k) (Exists.intro σ1 (And.intro rfl (And.intro ⟨2788, rfl, by omega, by decide⟩ (And.intro eσ1.symm ?_))))
      refine Exists.intro (nI (k + 1)) (And.intro (nI_add _ _) ?_)
      exact ih (k + 1) _ (by omega) (hf.tr fσ1) ((qn_rowS eσ1 hS).trans (q_fr3_s _ _ (Nat.zero_le _)).symm)
theorem l_cyC {G : qx_G} {Φ : qx_F} {σ0 : qx_S} {E D : qS} {x y : Int32} (e203 : qx_mi σ0 203 = D) (hc : ∀ s, ql [(207, none)] σ0 s → qx_mi s 207 = q_fr3 D E 10 148 → qx_K G qc_T 7 RX12 YX12_country 132 [.ref 197, .int x, .int y, .retAddr 0] [] s Φ) : ∀ (m k : Nat) (σ : qx_S), k + m = 148 → 10 ≤ k → ql [(207, none)] σ0 σ → qx_mi σ 207 = q_fr3 D E 10 k →
    qx_K G qc_T 7 RX12 YX12_country 107 [.ref 197, .int x, .int y, .int (nI k)] [] σ Φ := by
  intro m
  induction m with
  | zero =>
    intro k σ hk h10 hf hS
    obtain rfl : k = 148 := by omega
    refine qy_wp_ok (c := CX12_country) (cuts := [107, 132]) vX12_country wX12_country 2000 107 _ _ _ ?_
    refine Exists.intro (nI 148) (And.intro rfl ?_)
    refine And.intro (fun h111 => ?_) (fun h111 => ?_)
    · skip
      refine qx_K_le (ls := [.ref 197, .int x, .int y, .retAddr 0]) ⟨Or.inr rfl, Or.inr rfl, Or.inr rfl, Or.inl rfl, trivial⟩ ?_
      exact hc _ hf hS
    · skip
      exact absurd (by decide) h111
  | succ m ih =>
    intro k σ hk h10 hf hS
    have ed : qx_mi σ 203 k = D k := (hf.i _ _ rfl).trans (congrFun e203 k)
    refine qy_wp_ok (c := CX12_country) (cuts := [107, 132]) vX12_country wX12_country 2000 107 _ _ _ ?_
    refine Exists.intro (nI 148) (And.intro rfl ?_)
    refine And.intro (fun h111 => ?_) (fun h111 => ?_)
    · skip
      have h111 := nI_leT (a := 148) (b := k) (by decide) (by omega) h111
      exact absurd h111 (by omega)
    · skip
      have h111 := nI_leF (a := 148) (b := k) (by decide) (by omega) h111
      refine And.intro rfl (Exists.intro 207 (And.intro rfl ?_))
      refine And.intro rfl (Exists.intro 203 (And.intro rfl ?_))
      refine Exists.intro (k) (Exists.intro (D k) (And.intro rfl (And.intro ⟨148, rfl, by omega, by decide⟩ (And.intro ed ?_))))
      obtain ⟨σ1, eσ1⟩ : ∃ zs, zs = (qx_wi σ 207 k (D k)) := ⟨_, rfl⟩
      have fσ1 := qn_wi eσ1
      refine Exists.intro (k) (Exists.intro σ1 (And.intro rfl (And.intro ⟨2788, rfl, by omega, by decide⟩ (And.intro eσ1.symm ?_))))
      refine Exists.intro (nI (k + 1)) (And.intro (nI_add _ _) ?_)
      exact ih (k + 1) _ (by omega) (by omega) (hf.tr fσ1) ((qn_rowS eσ1 hS).trans (q_fr3_s _ _ h10).symm)
theorem l_cyD {G : qx_G} {σ0 : qx_S} {E : qS} {x y : Int32} : ∀ (m k : Nat) (σ : qx_S), k + m = 10 → ql [(207, none)] σ0 σ → qx_mi σ 207 = q_fr3 (fun _ => -1) E 338 (338 + k) →
    qx_K G qc_T 7 RX12 YX12_country 134 [.ref 197, .int x, .int y, .int (nI k)] [] σ (fun r s => ql [(207, none)] σ0 s ∧ qx_mi s 207 = va_up (va_up (va_up (q_fr3 (fun _ => -1) E 338 348) 3 (nI 1)) 7 x) 8 y ∧ r = some (.int (E 1))) := by
  intro m
  induction m with
  | zero =>
    intro k σ hk hf hS
    obtain rfl : k = 10 := by omega
    have e1 : qx_mi σ 207 1 = E 1 := (congrFun hS 1).trans (if_neg (by omega))
    refine qy_wp_ok (c := CX12_country) (cuts := [134]) vX12_country wX12_country 2000 134 _ _ _ ?_
    refine Exists.intro (nI 10) (And.intro rfl ?_)
    refine And.intro (fun h137 => ?_) (fun h137 => ?_)
    · skip
      refine And.intro rfl (Exists.intro 207 (And.intro rfl ?_))
      refine Exists.intro (nI 3) (And.intro rfl ?_)
      refine Exists.intro (nI 1) (And.intro rfl ?_)
      obtain ⟨σ1, eσ1⟩ : ∃ zs, zs = (qx_wi σ 207 3 (nI 1)) := ⟨_, rfl⟩
      have fσ1 := qn_wi eσ1
      refine Exists.intro (3) (Exists.intro σ1 (And.intro rfl (And.intro ⟨2788, rfl, by decide, by decide⟩ (And.intro eσ1.symm ?_))))
      refine And.intro rfl (Exists.intro 207 (And.intro rfl ?_))
      refine Exists.intro (nI 7) (And.intro rfl ?_)
      obtain ⟨σ2, eσ2⟩ : ∃ zs, zs = (qx_wi σ1 207 7 x) := ⟨_, rfl⟩
      have fσ2 := qn_wi eσ2
      refine Exists.intro (7) (Exists.intro σ2 (And.intro rfl (And.intro ⟨2788, rfl, by decide, by decide⟩ (And.intro eσ2.symm ?_))))
      refine And.intro rfl (Exists.intro 207 (And.intro rfl ?_))
      refine Exists.intro (nI 8) (And.intro rfl ?_)
      obtain ⟨σ3, eσ3⟩ : ∃ zs, zs = (qx_wi σ2 207 8 y) := ⟨_, rfl⟩
      have fσ3 := qn_wi eσ3
      refine Exists.intro (8) (Exists.intro σ3 (And.intro rfl (And.intro ⟨2788, rfl, by decide, by decide⟩ (And.intro eσ3.symm ?_))))
      refine And.intro rfl (Exists.intro 207 (And.intro rfl ?_))
      refine Exists.intro (nI 1) (And.intro rfl ?_)
      refine Exists.intro (1) (Exists.intro (E 1) (And.intro rfl (And.intro ⟨2788, rfl, by decide, by decide⟩ (And.intro ((qn_ne eσ3 (Or.inr (by decide))).trans ((qn_ne eσ2 (Or.inr (by decide))).trans ((qn_ne eσ1 (Or.inr (by decide))).trans (e1)))) ?_))))
      exact ⟨hf.tr (fσ1.tr (fσ2.tr fσ3)), qn_rowS eσ3 (qn_rowS eσ2 (qn_rowS eσ1 hS)), rfl⟩
    · skip
      exact absurd (by decide) h137
  | succ m ih =>
    intro k σ hk hf hS
    refine qy_wp_ok (c := CX12_country) (cuts := [134]) vX12_country wX12_country 2000 134 _ _ _ ?_
    refine Exists.intro (nI 10) (And.intro rfl ?_)
    refine And.intro (fun h137 => ?_) (fun h137 => ?_)
    · skip
      have h137 := nI_leT (a := 10) (b := k) (by decide) (by omega) h137
      exact absurd h137 (by omega)
    · skip
      have h137 := nI_leF (a := 10) (b := k) (by decide) (by omega) h137
      refine And.intro rfl (Exists.intro 207 (And.intro rfl ?_))
      refine Exists.intro (nI 338) (And.intro rfl ?_)
      refine Exists.intro (nI (338 + k)) (And.intro (nI_add _ _) ?_)
      refine Exists.intro ((-1)) (And.intro (by decide) ?_)
      obtain ⟨σ1, eσ1⟩ : ∃ zs, zs = (qx_wi σ 207 (338 + k) (-1)) := ⟨_, rfl⟩
      have fσ1 := qn_wi eσ1
      refine Exists.intro (338 + k) (Exists.intro σ1 (And.intro rfl (And.intro ⟨2788, rfl, by omega, by decide⟩ (And.intro eσ1.symm ?_))))
      refine Exists.intro (nI (k + 1)) (And.intro (nI_add _ _) ?_)
      exact ih (k + 1) _ (by omega) (hf.tr fσ1) ((qn_rowS eσ1 hS).trans (q_fr3_s _ _ (by omega)).symm)
abbrev lCy : List (Nat × Option Nat) := [(197, some 8), (197, some 9), (197, some 10), (203, none), (197, some 14), (197, some 1), (200, none), (197, some 12), (197, some 11), (207, none)]
theorem l_cyO2 {G : qx_G} {s2 : qx_S} {S E : qS} {P : qx_S → Prop} {Q : qx_S → Prop} (hE : qx_mi s2 203 = E) (e2 : qx_mi s2 207 = q_fr3 E (q_fr3 (fun _ => nI 0) S 0 2788) 0 3) (hP : ∀ s', ql [(207, none)] s2 s' → P s' ∧ Q s') : qx_K G qc_T 7 RX12 YX12_country 104 [.ref 197, .int (S 7), .int (S 8), .retAddr 0] [] s2 (fun r s' => P s' ∧ Q s' ∧ r = some (.int (E 1)) ∧ qx_mi s' 207 = q_nc2 S E) := by
  have k3 : ∀ s3, ql [(207, none)] s2 s3 → qx_mi s3 207 = q_fr3 E (q_fr3 E (q_fr3 (fun _ => nI 0) S 0 2788) 0 3) 10 148 → qx_K G qc_T 7 RX12 YX12_country 132 [.ref 197, .int (S 7), .int (S 8), .retAddr 0] [] s3 (fun r s' => P s' ∧ Q s' ∧ r = some (.int (E 1)) ∧ qx_mi s' 207 = q_nc2 S E) := by
    intro s3 f3 e3
    refine qy_wp_ok (c := CX12_country) (cuts := [134]) vX12_country wX12_country 2000 132 _ _ _ ?_
    refine Exists.intro (nI 0) (And.intro rfl ?_)
    refine qx_K_mono (l_cyD 10 0 s3 rfl qf.rf (e3.trans (q_fr3_0 _ _ _).symm)) ?_
    rintro r s' ⟨z1, z2, z3⟩
    obtain ⟨p1, p2⟩ := hP s' (f3.tr z1)
    refine ⟨p1, p2, z3.trans ?_, z2⟩
    have e : q_fr3 E (q_fr3 E (q_fr3 (fun _ => nI 0) S 0 2788) 0 3) 10 148 1 = E 1 := (if_neg (by omega)).trans (if_pos (by omega))
    rw [e]
  refine qy_wp_ok (c := CX12_country) (cuts := [107]) vX12_country wX12_country 2000 104 _ _ _ ?_
  refine Exists.intro (nI 10) (And.intro rfl ?_)
  exact l_cyC hE k3 138 10 s2 rfl (Nat.le_refl _) qf.rf (e2.trans (q_fr3_0 _ _ _).symm)
theorem l_cyE {G : qx_G} {σ0 σ : qx_S} {T : q_T} {S : qS} {f : Nat} (kf : ql lCy σ0 σ) (kS : qx_mi σ 207 = S) (mr : qx_M G qc_T 6 YX12_readsAll [.ref 197] σ (fun r s' => rC4 σ s' T (.error f) r)) : qx_K G qc_T 7 RX12 YX12_country 26 [.ref 197, .retAddr 0, .retAddr 0, .retAddr 0] [] σ (fun r s' => ql lCy σ0 s' ∧ tR s' (0, T.2) ∧ r = some (.int (-2 - nI f)) ∧ qx_mi s' 207 = S) := by
  refine qy_wp_ok (c := CX12_country) (cuts := []) vX12_country wX12_country 2000 26 _ _ _ ?_
  refine And.intro rfl (Exists.intro _ (And.intro (by decide) (qx_M_mono (mr) ?_)))
  rintro _ σ1 ⟨fσ1, tσ1, rfl, gσ1⟩
  refine And.intro (fun h30 => ?_) (fun h30 => ?_)
  · skip
    have h30 := bI_t h30
    exact absurd (h30.symm.trans (rfl)) (by decide)
  · skip
    have h30 := bI_f h30
    refine Exists.intro ((-2)) (And.intro (by decide) ?_)
    refine And.intro rfl (Exists.intro 9 (Exists.intro (nI f) (And.intro rfl (And.intro gσ1 ?_))))
    refine Exists.intro ((-2) - (nI f)) (And.intro rfl ?_)
    exact ⟨kf.tr (fσ1.mn (by decide)), tσ1, rfl, (fσ1.row 207 (fun _ => rfl)).trans kS⟩
theorem l_cyO {G : qx_G} {σ0 σ : qx_S} {T : q_T} {S E : qS} (kf : ql lCy σ0 σ) (kS : qx_mi σ 207 = S) (mr : qx_M G qc_T 6 YX12_readsAll [.ref 197] σ (fun r s' => rC4 σ s' T (.ok E) r)) : qx_K G qc_T 7 RX12 YX12_country 26 [.ref 197, .retAddr 0, .retAddr 0, .retAddr 0] [] σ (fun r s' => ql lCy σ0 s' ∧ tR s' (0, T.2) ∧ r = some (.int (E 1)) ∧ qx_mi s' 207 = q_nc2 S E) := by
  have key : ∀ s, ql lC4 σ s → tR s (0, T.2) → qx_mi s 203 = E → qx_K G qc_T 7 RX12 YX12_country 59 [.ref 197, .int (S 7), .int (S 8), .int (nI 0)] [] s (fun r s' => ql lCy σ0 s' ∧ tR s' (0, T.2) ∧ r = some (.int (E 1)) ∧ qx_mi s' 207 = q_nc2 S E) := by
    intro s f ht hE
    have sS : qx_mi s 207 = S := (f.row 207 (fun _ => rfl)).trans kS
    refine l_cyA (S := S) (fun s1 f1 e1 => ?_) 2788 0 s rfl qf.rf (sS.trans (q_fr3_0 _ _ _).symm)
    refine qy_wp_ok (c := CX12_country) (cuts := [81]) vX12_country wX12_country 2000 79 _ _ _ ?_
    refine Exists.intro (nI 0) (And.intro rfl ?_)
    refine l_cyB (E := q_fr3 (fun _ => nI 0) S 0 2788) ((f1.row 203 (fun _ => rfl)).trans hE) (fun s2 f2 e2 => ?_) 3 0 s1 rfl qf.rf (e1.trans (q_fr3_0 _ _ _).symm)
    exact l_cyO2 ((f1.tr f2).row 203 (fun _ => rfl) |>.trans hE) e2 (fun s' f' => ⟨kf.tr ((f.mn (by decide)).tr ((f1.mn (by decide)).tr ((f2.mn (by decide)).tr (f'.mn (by decide))))), ((ht.fr f1 rfl (fun _ => rfl)).fr f2 rfl (fun _ => rfl)).fr f' rfl (fun _ => rfl)⟩)
  refine qy_wp_ok (c := CX12_country) (cuts := [59]) vX12_country wX12_country 2000 26 _ _ _ ?_
  refine And.intro rfl (Exists.intro _ (And.intro (by decide) (qx_M_mono (mr) ?_)))
  rintro _ σ1 ⟨fσ1, tσ1, rfl, gσ1⟩
  refine And.intro (fun h30 => ?_) (fun h30 => ?_)
  · skip
    have h30 := bI_t h30
    refine And.intro rfl (Exists.intro 207 (And.intro rfl ?_))
    refine Exists.intro (nI 7) (And.intro rfl ?_)
    refine Exists.intro (7) (Exists.intro (S 7) (And.intro rfl (And.intro ⟨2788, rfl, by decide, by decide⟩ (And.intro (((congrFun (fσ1.row 207 (fun _ => rfl)) 7)).trans (congrFun kS 7)) ?_))))
    refine And.intro rfl (Exists.intro 207 (And.intro rfl ?_))
    refine Exists.intro (nI 8) (And.intro rfl ?_)
    refine Exists.intro (8) (Exists.intro (S 8) (And.intro rfl (And.intro ⟨2788, rfl, by decide, by decide⟩ (And.intro (((congrFun (fσ1.row 207 (fun _ => rfl)) 8)).trans (congrFun kS 8)) ?_))))
    refine Exists.intro (nI 0) (And.intro rfl ?_)
    exact key _ fσ1 tσ1 gσ1
  · skip
    have h30 := bI_f h30
    exact absurd (h30.symm.trans (rfl)) (by decide)
theorem m_country {G : qx_G} {σ : qx_S} {T : q_T} {S D : qS} (hT : tR σ T) (hS : qx_mi σ 207 = S) (hD : qx_mi σ 203 = D) : qx_M G qc_T 7 YX12_country [.ref 197] σ (fun r s' => ql lCy σ s' ∧ tR s' (0, T.2) ∧ (match q_cty T D with
    | .error f => r = some (.int (-2 - nI f)) ∧ qx_mi s' 207 = S
    | .ok E => r = some (.int (E 1)) ∧ qx_mi s' 207 = q_nc2 S E)) := by
  have key : ∀ σ1 σ2 σ3 σ4, σ1 = qx_wi σ 197 11 (nI 6) → σ2 = qx_wi σ1 203 0 (nI 0) → σ3 = qx_wi σ2 203 1 (nI 0) → σ4 = qx_wi σ3 203 2 (nI 0) → ql lCy σ σ4 ∧ qx_mi σ4 207 = S ∧ qx_M G qc_T 6 YX12_readsAll [.ref 197] σ4 (fun r s' => rC4 σ4 s' T (q_cty T D) r) := by
    intro σ1 σ2 σ3 σ4 e1 e2 e3 e4
    have f1 := qn_wif e1
    have f2 := qn_wi e2
    have f3 := qn_wi e3
    have f4 := qn_wi e4
    have hD1 : qx_mi σ1 203 = D := (f1.row 203 (fun _ => rfl)).trans hD
    refine ⟨(f1.mn (by decide)).tr ((f2.mn (by decide)).tr ((f3.mn (by decide)).tr (f4.mn (by decide)))), (f4.row 207 (fun _ => rfl)).trans ((f3.row 207 (fun _ => rfl)).trans ((f2.row 207 (fun _ => rfl)).trans ((f1.row 207 (fun _ => rfl)).trans hS))), ?_⟩
    exact m_readsAllC ((((hT.fr f1 rfl (fun _ => rfl)).fr f2 rfl (fun _ => rfl)).fr f3 rfl (fun _ => rfl)).fr f4 rfl (fun _ => rfl)) (q_z3_g D) ((f4.i _ _ rfl).trans ((f3.i _ _ rfl).trans ((f2.i _ _ rfl).trans (qn_eq e1)))) (qn_rowS e4 (qn_rowS e3 (qn_rowS e2 hD1)))
  cases ho : q_cty T D with
  | error f =>
    refine qx_M_in rfl (Nat.le_of_ble_eq_true rfl) ?_
    refine qy_wp_ok (c := CX12_country) (cuts := [26]) vX12_country wX12_country 2000 0 _ _ _ ?_
    refine Exists.intro (nI 6) (And.intro rfl ?_)
    obtain ⟨σ1, eσ1⟩ : ∃ zs, zs = (qx_wi σ 197 11 (nI 6)) := ⟨_, rfl⟩
    have fσ1 := qn_wif eσ1
    refine And.intro rfl (Exists.intro 11 (Exists.intro σ1 (And.intro rfl (And.intro eσ1.symm ?_))))
    refine Exists.intro (nI 0) (And.intro rfl ?_)
    refine Exists.intro (nI 3) (And.intro rfl ?_)
    refine And.intro (fun h10 => ?_) (fun h10 => ?_)
    · skip
      exact absurd h10 (by decide)
    · skip
      refine And.intro rfl (Exists.intro 203 (And.intro rfl ?_))
      refine Exists.intro (nI 0) (And.intro rfl ?_)
      obtain ⟨σ2, eσ2⟩ : ∃ zs, zs = (qx_wi σ1 203 0 (nI 0)) := ⟨_, rfl⟩
      have fσ2 := qn_wi eσ2
      refine Exists.intro (0) (Exists.intro σ2 (And.intro rfl (And.intro ⟨148, rfl, by decide, by decide⟩ (And.intro eσ2.symm ?_))))
      skip
      refine Exists.intro (nI 1) (And.intro rfl ?_)
      refine Exists.intro (nI 3) (And.intro rfl ?_)
      refine And.intro (fun h10_1 => ?_) (fun h10_1 => ?_)
      · skip
        exact absurd h10_1 (by decide)
      · skip
        refine And.intro rfl (Exists.intro 203 (And.intro rfl ?_))
        refine Exists.intro (nI 0) (And.intro rfl ?_)
        obtain ⟨σ3, eσ3⟩ : ∃ zs, zs = (qx_wi σ2 203 1 (nI 0)) := ⟨_, rfl⟩
        have fσ3 := qn_wi eσ3
        refine Exists.intro (1) (Exists.intro σ3 (And.intro rfl (And.intro ⟨148, rfl, by decide, by decide⟩ (And.intro eσ3.symm ?_))))
        skip
        refine Exists.intro (nI 2) (And.intro rfl ?_)
        refine Exists.intro (nI 3) (And.intro rfl ?_)
        refine And.intro (fun h10_2 => ?_) (fun h10_2 => ?_)
        · skip
          exact absurd h10_2 (by decide)
        · skip
          refine And.intro rfl (Exists.intro 203 (And.intro rfl ?_))
          refine Exists.intro (nI 0) (And.intro rfl ?_)
          obtain ⟨σ4, eσ4⟩ : ∃ zs, zs = (qx_wi σ3 203 2 (nI 0)) := ⟨_, rfl⟩
          have fσ4 := qn_wi eσ4
          refine Exists.intro (2) (Exists.intro σ4 (And.intro rfl (And.intro ⟨148, rfl, by decide, by decide⟩ (And.intro eσ4.symm ?_))))
          skip
          refine Exists.intro (nI 3) (And.intro rfl ?_)
          refine Exists.intro (nI 3) (And.intro rfl ?_)
          refine And.intro (fun h10_3 => ?_) (fun h10_3 => ?_)
          · skip
            refine qx_K_le (ls := [.ref 197, .retAddr 0, .retAddr 0, .retAddr 0]) ⟨Or.inr rfl, Or.inl rfl, Or.inr rfl, Or.inr rfl, trivial⟩ ?_
            obtain ⟨kf, kS, mr⟩ := key _ _ _ _ eσ1 eσ2 eσ3 eσ4
            rw [ho] at mr
            exact l_cyE kf kS mr
          · skip
            exact absurd (by decide) h10_3
  | ok E =>
    refine qx_M_in rfl (Nat.le_of_ble_eq_true rfl) ?_
    refine qy_wp_ok (c := CX12_country) (cuts := [26]) vX12_country wX12_country 2000 0 _ _ _ ?_
    refine Exists.intro (nI 6) (And.intro rfl ?_)
    obtain ⟨σ1, eσ1⟩ : ∃ zs, zs = (qx_wi σ 197 11 (nI 6)) := ⟨_, rfl⟩
    have fσ1 := qn_wif eσ1
    refine And.intro rfl (Exists.intro 11 (Exists.intro σ1 (And.intro rfl (And.intro eσ1.symm ?_))))
    refine Exists.intro (nI 0) (And.intro rfl ?_)
    refine Exists.intro (nI 3) (And.intro rfl ?_)
    refine And.intro (fun h10 => ?_) (fun h10 => ?_)
    · skip
      exact absurd h10 (by decide)
    · skip
      refine And.intro rfl (Exists.intro 203 (And.intro rfl ?_))
      refine Exists.intro (nI 0) (And.intro rfl ?_)
      obtain ⟨σ2, eσ2⟩ : ∃ zs, zs = (qx_wi σ1 203 0 (nI 0)) := ⟨_, rfl⟩
      have fσ2 := qn_wi eσ2
      refine Exists.intro (0) (Exists.intro σ2 (And.intro rfl (And.intro ⟨148, rfl, by decide, by decide⟩ (And.intro eσ2.symm ?_))))
      skip
      refine Exists.intro (nI 1) (And.intro rfl ?_)
      refine Exists.intro (nI 3) (And.intro rfl ?_)
      refine And.intro (fun h10_1 => ?_) (fun h10_1 => ?_)
      · skip
        exact absurd h10_1 (by decide)
      · skip
        refine And.intro rfl (Exists.intro 203 (And.intro rfl ?_))
        refine Exists.intro (nI 0) (And.intro rfl ?_)
        obtain ⟨σ3, eσ3⟩ : ∃ zs, zs = (qx_wi σ2 203 1 (nI 0)) := ⟨_, rfl⟩
        have fσ3 := qn_wi eσ3
        refine Exists.intro (1) (Exists.intro σ3 (And.intro rfl (And.intro ⟨148, rfl, by decide, by decide⟩ (And.intro eσ3.symm ?_))))
        skip
        refine Exists.intro (nI 2) (And.intro rfl ?_)
        refine Exists.intro (nI 3) (And.intro rfl ?_)
        refine And.intro (fun h10_2 => ?_) (fun h10_2 => ?_)
        · skip
          exact absurd h10_2 (by decide)
        · skip
          refine And.intro rfl (Exists.intro 203 (And.intro rfl ?_))
          refine Exists.intro (nI 0) (And.intro rfl ?_)
          obtain ⟨σ4, eσ4⟩ : ∃ zs, zs = (qx_wi σ3 203 2 (nI 0)) := ⟨_, rfl⟩
          have fσ4 := qn_wi eσ4
          refine Exists.intro (2) (Exists.intro σ4 (And.intro rfl (And.intro ⟨148, rfl, by decide, by decide⟩ (And.intro eσ4.symm ?_))))
          skip
          refine Exists.intro (nI 3) (And.intro rfl ?_)
          refine Exists.intro (nI 3) (And.intro rfl ?_)
          refine And.intro (fun h10_3 => ?_) (fun h10_3 => ?_)
          · skip
            refine qx_K_le (ls := [.ref 197, .retAddr 0, .retAddr 0, .retAddr 0]) ⟨Or.inr rfl, Or.inl rfl, Or.inr rfl, Or.inr rfl, trivial⟩ ?_
            obtain ⟨kf, kS, mr⟩ := key _ _ _ _ eσ1 eσ2 eσ3 eσ4
            rw [ho] at mr
            exact l_cyO kf kS mr
          · skip
            exact absurd (by decide) h10_3

