/-! THE CLASS: people and calls of a country -/
theorem q_np_at {D : qS} {pe : Nat} {v1 v2 : Int32} (hpe : pe < 10) : q_np (va_up (va_up D (10 + 5 * pe) v1) (10 + 5 * pe + 1) v2) pe (10 + 5 * pe) = v1 ∧ q_np (va_up (va_up D (10 + 5 * pe) v1) (10 + 5 * pe + 1) v2) pe (10 + 5 * pe + 1) = v2 ∧ q_np (va_up (va_up D (10 + 5 * pe) v1) (10 + 5 * pe + 1) v2) pe (10 + 5 * pe + 2) = v1 ∧ q_np (va_up (va_up D (10 + 5 * pe) v1) (10 + 5 * pe + 1) v2) pe (10 + 5 * pe + 3) = nI 0 ∧ (∀ q, q < 8 → q_np (va_up (va_up D (10 + 5 * pe) v1) (10 + 5 * pe + 1) v2) pe (60 + 8 * pe + q) = nI 0) ∧ q_np (va_up (va_up D (10 + 5 * pe) v1) (10 + 5 * pe + 1) v2) pe 1 = nI (pe + 1) ∧ ∀ i, i ≠ 1 → (i < 10 + 5 * pe ∨ 10 + 5 * pe + 4 < i) → (i < 60 + 8 * pe ∨ 60 + 8 * pe + 8 ≤ i) → q_np (va_up (va_up D (10 + 5 * pe) v1) (10 + 5 * pe + 1) v2) pe i = D i := by
  unfold q_np
  refine ⟨?_, ?_, ?_, ?_, fun q hq => ?_, va_up_self _ _ _, fun i i1 i2 i3 => ?_⟩
  · rw [va_up_ne _ _ (by omega), q_wz_ne _ _ _ _ (by omega), va_up_ne _ _ (by omega), va_up_ne _ _ (by omega), va_up_ne _ _ (by omega), va_up_ne _ _ (by omega), va_up_self]
  · rw [va_up_ne _ _ (by omega), q_wz_ne _ _ _ _ (by omega), va_up_ne _ _ (by omega), va_up_ne _ _ (by omega), va_up_ne _ _ (by omega), va_up_self]
  · rw [va_up_ne _ _ (by omega), q_wz_ne _ _ _ _ (by omega), va_up_ne _ _ (by omega), va_up_ne _ _ (by omega), va_up_self, va_up_ne _ _ (by omega), va_up_self]
  · rw [va_up_ne _ _ (by omega), q_wz_ne _ _ _ _ (by omega), va_up_ne _ _ (by omega), va_up_self]
  · rw [va_up_ne _ _ (by omega)]
    exact q_wz_eq _ _ 8 q hq
  · rw [va_up_ne _ _ i1, q_wz_ne _ _ _ _ i3, va_up_ne _ _ (by omega), va_up_ne _ _ (by omega), va_up_ne _ _ (by omega), va_up_ne _ _ (by omega), va_up_ne _ _ (by omega)]
theorem dR.person {σ s' : qx_S} {D D' : qS} {pe : Nat} {v1 v2 : Int32} (hd : dR σ 9 D) (g : gD D) (epe : s_n D 1 = pe) (hpe : pe < 10) (eD : D' = q_np (va_up (va_up D (10 + 5 * pe) v1) (10 + 5 * pe + 1) v2) pe) (f4 : qx_mi s' 9 4 = qx_mi σ 9 4) (f5 : qx_mi s' 9 5 = nI (pe + 1)) (f6 : qx_mi s' 9 6 = qx_mi σ 9 6) (f7 : qx_mi s' 9 7 = qx_mi σ 9 7) (r10 : ∀ j, qx_mi s' 10 j = if j = pe then v2 else qx_mi σ 10 j) (r11 : ∀ j, qx_mi s' 11 j = if j = pe then v1 else qx_mi σ 11 j) (r12 : ∀ j, qx_mi s' 12 j = qx_mi σ 12 j) (r13 : ∀ j, qx_mi s' 13 j = qx_mi σ 13 j) : dR s' 9 D' := by
  obtain ⟨a1, a2, a3, a4, a5, a6, a7, bn, a8, a9, a10⟩ := hd
  obtain ⟨q1, q2, q3, q4, q5, q6, q7⟩ := q_np_at (D := D) (v1 := v1) (v2 := v2) hpe
  rw [← eD] at q1 q2 q3 q4 q5 q6 q7
  have b2 := g.2.2.2
  have n1 : s_n D' 1 = pe + 1 := by show (D' 1).toNatClampNeg = pe + 1; rw [q6]; exact nI_clamp (by omega)
  have n2 : s_n D' 2 = s_n D 2 := by unfold s_n; rw [q7 2 (by omega) (by omega) (by omega)]
  rw [epe] at a4 a5 a6 a9 a10
  unfold dR
  rw [n1, n2]
  refine ⟨f4.trans (a1.trans (q7 0 (by omega) (by omega) (by omega)).symm), f5.trans q6.symm, f6.trans (a3.trans (q7 2 (by omega) (by omega) (by omega)).symm), fun p hp => ?_, fun p hp q hq => ?_, fun k h1 h2 => (r12 k).trans (a6 k (by omega) h2), fun q hq => (r13 q).trans ((a7 q hq).trans (congrArg nI (q_ca_cg _ (fun c hc => q7 _ (by omega) (by omega) (by omega))).symm)), bn, f7.trans a8, Nat.lt_of_lt_of_le a9 (Nat.pow_le_pow_right (by decide) (by omega)), fun p hp => ?_⟩
  · by_cases z : p = pe
    · rw [z]
      exact ⟨(r10 pe).trans ((if_pos rfl).trans q2.symm), (r11 pe).trans ((if_pos rfl).trans q3.symm)⟩
    · have := a4 p (by omega)
      exact ⟨(r10 p).trans ((if_neg z).trans (this.1.trans (q7 _ (by omega) (by omega) (by omega)).symm)), (r11 p).trans ((if_neg z).trans (this.2.trans (q7 _ (by omega) (by omega) (by omega)).symm))⟩
  · refine (r12 _).trans ?_
    by_cases z : p = pe
    · rw [z, q5 q hq]
      exact a6 _ (by omega) (by omega)
    · exact (a5 p (by omega) q hq).trans (q7 _ (by omega) (by omega) (by omega)).symm
  · by_cases z : p = pe
    · rw [z, q4, Nat.testBit_lt_two_pow a9]
      exact ⟨fun w => absurd w (by decide), fun w => absurd w (by decide)⟩
    · rw [q7 _ (by omega) (by omega) (by omega)]
      exact a10 p (by omega)
theorem c_person {G : qx_G} {σ : qx_S} {T : q_T} {p : Nat} {D : qS} (h : cT σ T p) (hd : dR σ 9 D) (g : gD D) (hpe : s_n D 1 < 10) : qx_M G qc_T 2 YX1_readPerson [.ref 9, .ref 4] σ (fun r s' => rQ σ s' T (match q_cell T p (nI 0) (D 0 - nI 1) (10 + 5 * s_n D 1) D with
    | .error f => .error f
    | .ok y => match q_cell T y.1 (nI 1) (nI 99) (10 + 5 * s_n D 1 + 1) y.2 with
      | .error f => .error f
      | .ok z => .ok (z.1, q_np z.2 (s_n D 1))) r) := by
  have mn := c_readNumber (G := G) h (nI 0) (D 0 - nI 1)
  have e5 : qx_mi σ 9 5 = nI (s_n D 1) := hd.2.1.trans g.2.1.1
  cases e : q_nf1 T p (nI 0) (D 0 - nI 1) with
  | some f =>
    have ec : q_cell T p (nI 0) (D 0 - nI 1) (10 + 5 * s_n D 1) D = .error f := by unfold q_cell; rw [e]
    rw [e] at mn
    rw [ec]
    refine qx_M_in rfl (Nat.le_of_ble_eq_true rfl) ?_
    refine qy_wp_ok (c := CX1_readPerson) (cuts := []) vX1_readPerson wX1_readPerson 2000 0 _ _ _ ?_
    refine Exists.intro (nI 0) (And.intro rfl ?_)
    refine And.intro rfl (Exists.intro 4 (Exists.intro (D 0) (And.intro rfl (And.intro hd.1 ?_))))
    refine Exists.intro (nI 1) (And.intro rfl ?_)
    refine Exists.intro ((D 0) - (nI 1)) (And.intro rfl ?_)
    refine And.intro rfl (Exists.intro _ (And.intro (by decide) (qx_M_mono (mn) ?_)))
    rintro _ σ1 ⟨fσ1, rfl, gσ1⟩
    refine And.intro (fun h12 => ?_) (fun h12 => ?_)
    · skip
      have h12 := bI_t h12
      exact absurd (h12.symm.trans (rfl)) (by decide)
    · skip
      have h12 := bI_f h12
      refine Exists.intro (nI 0) (And.intro rfl ?_)
      refine And.intro (Or.inl rfl) ?_
      exact ⟨fσ1.mn (by decide), rfl, gσ1⟩
  | none =>
    have ec : q_cell T p (nI 0) (D 0 - nI 1) (10 + 5 * s_n D 1) D = .ok (q_nx T p, va_up D (10 + 5 * s_n D 1) (nI (q_nu T p))) := by unfold q_cell; rw [e]
    rw [e] at mn
    rw [ec]
    dsimp only
    have mn2 : ∀ σ1, cT σ1 T (q_nx T p) → _ := fun σ1 z => c_readNumber (G := G) z (nI 1) (nI 99)
    cases e2 : q_nf1 T (q_nx T p) (nI 1) (nI 99) with
    | some f =>
      have ec2 : q_cell T (q_nx T p) (nI 1) (nI 99) (10 + 5 * s_n D 1 + 1) (va_up D (10 + 5 * s_n D 1) (nI (q_nu T p))) = .error f := by unfold q_cell; rw [e2]
      rw [ec2]
      rw [e2] at mn2
      refine qx_M_in rfl (Nat.le_of_ble_eq_true rfl) ?_
      refine qy_wp_ok (c := CX1_readPerson) (cuts := []) vX1_readPerson wX1_readPerson 2000 0 _ _ _ ?_
      refine Exists.intro (nI 0) (And.intro rfl ?_)
      refine And.intro rfl (Exists.intro 4 (Exists.intro (D 0) (And.intro rfl (And.intro hd.1 ?_))))
      refine Exists.intro (nI 1) (And.intro rfl ?_)
      refine Exists.intro ((D 0) - (nI 1)) (And.intro rfl ?_)
      refine And.intro rfl (Exists.intro _ (And.intro (by decide) (qx_M_mono (mn) ?_)))
      rintro _ σ1 ⟨fσ1, rfl, aσ1, gσ1⟩
      refine And.intro (fun h12 => ?_) (fun h12 => ?_)
      · skip
        have h12 := bI_t h12
        refine And.intro rfl (Exists.intro 11 (And.intro rfl ?_))
        refine And.intro rfl (Exists.intro 5 (Exists.intro (nI (s_n D 1)) (And.intro rfl (And.intro ((fσ1.i _ _ rfl).trans (e5)) ?_))))
        refine And.intro rfl (Exists.intro 8 (Exists.intro (nI (q_nu T p)) (And.intro rfl (And.intro gσ1 ?_))))
        obtain ⟨σ2, eσ2⟩ : ∃ zs, zs = (qx_wi σ1 11 (s_n D 1) (nI (q_nu T p))) := ⟨_, rfl⟩
        have fσ2 := qn_wi eσ2
        refine Exists.intro (s_n D 1) (Exists.intro σ2 (And.intro rfl (And.intro ⟨10, rfl, by omega, by decide⟩ (And.intro eσ2.symm ?_))))
        refine Exists.intro (nI 1) (And.intro rfl ?_)
        refine Exists.intro (nI 99) (And.intro rfl ?_)
        refine And.intro rfl (Exists.intro _ (And.intro (by decide) (qx_M_mono (mn2 _ (aσ1.fr fσ2 (by simp))) ?_)))
        rintro _ σ3 ⟨fσ3, rfl, gσ3⟩
        refine And.intro (fun h38 => ?_) (fun h38 => ?_)
        · skip
          have h38 := bI_t h38
          exact absurd (h38.symm.trans (rfl)) (by decide)
        · skip
          have h38 := bI_f h38
          refine Exists.intro (nI 0) (And.intro rfl ?_)
          refine And.intro (Or.inl rfl) ?_
          exact ⟨(fσ1.mn (by decide)).tr ((fσ2.mn (by decide)).tr (fσ3.mn (by decide))), rfl, gσ3⟩
      · skip
        have h12 := bI_f h12
        exact absurd (h12.symm.trans (rfl)) (by decide)
    | none =>
      have ec2 : q_cell T (q_nx T p) (nI 1) (nI 99) (10 + 5 * s_n D 1 + 1) (va_up D (10 + 5 * s_n D 1) (nI (q_nu T p))) = .ok (q_nx T (q_nx T p), va_up (va_up D (10 + 5 * s_n D 1) (nI (q_nu T p))) (10 + 5 * s_n D 1 + 1) (nI (q_nu T (q_nx T p)))) := by unfold q_cell; rw [e2]
      rw [ec2]
      rw [e2] at mn2
      refine qx_M_in rfl (Nat.le_of_ble_eq_true rfl) ?_
      refine qy_wp_ok (c := CX1_readPerson) (cuts := []) vX1_readPerson wX1_readPerson 2000 0 _ _ _ ?_
      refine Exists.intro (nI 0) (And.intro rfl ?_)
      refine And.intro rfl (Exists.intro 4 (Exists.intro (D 0) (And.intro rfl (And.intro hd.1 ?_))))
      refine Exists.intro (nI 1) (And.intro rfl ?_)
      refine Exists.intro ((D 0) - (nI 1)) (And.intro rfl ?_)
      refine And.intro rfl (Exists.intro _ (And.intro (by decide) (qx_M_mono (mn) ?_)))
      rintro _ σ1 ⟨fσ1, rfl, aσ1, gσ1⟩
      refine And.intro (fun h12 => ?_) (fun h12 => ?_)
      · skip
        have h12 := bI_t h12
        refine And.intro rfl (Exists.intro 11 (And.intro rfl ?_))
        refine And.intro rfl (Exists.intro 5 (Exists.intro (nI (s_n D 1)) (And.intro rfl (And.intro ((fσ1.i _ _ rfl).trans (e5)) ?_))))
        refine And.intro rfl (Exists.intro 8 (Exists.intro (nI (q_nu T p)) (And.intro rfl (And.intro gσ1 ?_))))
        obtain ⟨σ2, eσ2⟩ : ∃ zs, zs = (qx_wi σ1 11 (s_n D 1) (nI (q_nu T p))) := ⟨_, rfl⟩
        have fσ2 := qn_wi eσ2
        refine Exists.intro (s_n D 1) (Exists.intro σ2 (And.intro rfl (And.intro ⟨10, rfl, by omega, by decide⟩ (And.intro eσ2.symm ?_))))
        refine Exists.intro (nI 1) (And.intro rfl ?_)
        refine Exists.intro (nI 99) (And.intro rfl ?_)
        refine And.intro rfl (Exists.intro _ (And.intro (by decide) (qx_M_mono (mn2 _ (aσ1.fr fσ2 (by simp))) ?_)))
        rintro _ σ3 ⟨fσ3, rfl, aσ3, gσ3⟩
        refine And.intro (fun h38 => ?_) (fun h38 => ?_)
        · skip
          have h38 := bI_t h38
          refine And.intro rfl (Exists.intro 10 (And.intro rfl ?_))
          refine And.intro rfl (Exists.intro 5 (Exists.intro (nI (s_n D 1)) (And.intro rfl (And.intro ((fσ3.i _ _ rfl).trans ((fσ2.i _ _ rfl).trans ((fσ1.i _ _ rfl).trans e5))) ?_))))
          refine And.intro rfl (Exists.intro 8 (Exists.intro (nI (q_nu T (q_nx T p))) (And.intro rfl (And.intro gσ3 ?_))))
          obtain ⟨σ4, eσ4⟩ : ∃ zs, zs = (qx_wi σ3 10 (s_n D 1) (nI (q_nu T (q_nx T p)))) := ⟨_, rfl⟩
          have fσ4 := qn_wi eσ4
          refine Exists.intro (s_n D 1) (Exists.intro σ4 (And.intro rfl (And.intro ⟨10, rfl, by omega, by decide⟩ (And.intro eσ4.symm ?_))))
          refine And.intro rfl (Exists.intro 5 (Exists.intro (nI (s_n D 1)) (And.intro rfl (And.intro ((fσ4.i _ _ rfl).trans (((fσ3.i _ _ rfl).trans ((fσ2.i _ _ rfl).trans ((fσ1.i _ _ rfl).trans e5))))) ?_))))
          refine Exists.intro (nI 1) (And.intro rfl ?_)
          refine Exists.intro (nI (s_n D 1 + 1)) (And.intro (nI_add _ _) ?_)
          obtain ⟨σ5, eσ5⟩ : ∃ zs, zs = (qx_wi σ4 9 5 (nI (s_n D 1 + 1))) := ⟨_, rfl⟩
          have fσ5 := qn_wif eσ5
          refine And.intro rfl (Exists.intro 5 (Exists.intro σ5 (And.intro rfl (And.intro eσ5.symm ?_))))
          refine Exists.intro (nI 1) (And.intro rfl ?_)
          refine And.intro (Or.inr rfl) ?_
          refine ⟨(fσ1.mn (by decide)).tr ((fσ2.mn (by decide)).tr ((fσ3.mn (by decide)).tr ((fσ4.mn (by decide)).tr (fσ5.mn (by decide))))), rfl, (aσ3.fr fσ4 (by simp)).fr fσ5 (by simp), ?_⟩
          refine dR.person hd g rfl hpe rfl ((fσ5.i _ _ rfl).trans ((fσ4.i _ _ rfl).trans ((fσ3.i _ _ rfl).trans ((fσ2.i _ _ rfl).trans (fσ1.i _ _ rfl))))) (qn_eq eσ5) ((fσ5.i _ _ rfl).trans ((fσ4.i _ _ rfl).trans ((fσ3.i _ _ rfl).trans ((fσ2.i _ _ rfl).trans (fσ1.i _ _ rfl))))) ((fσ5.i _ _ rfl).trans ((fσ4.i _ _ rfl).trans ((fσ3.i _ _ rfl).trans ((fσ2.i _ _ rfl).trans (fσ1.i _ _ rfl))))) (fun j => ?_) (fun j => ?_) (fun j => (fσ5.i _ _ rfl).trans ((fσ4.i _ _ rfl).trans ((fσ3.i _ _ rfl).trans ((fσ2.i _ _ rfl).trans (fσ1.i _ _ rfl))))) (fun j => (fσ5.i _ _ rfl).trans ((fσ4.i _ _ rfl).trans ((fσ3.i _ _ rfl).trans ((fσ2.i _ _ rfl).trans (fσ1.i _ _ rfl)))))
          · by_cases z : j = s_n D 1
            · rw [if_pos z, z]
              exact (fσ5.i _ _ rfl).trans (qn_eq eσ4)
            · rw [if_neg z]
              exact (fσ5.i _ _ rfl).trans ((qn_ne eσ4 (Or.inr z)).trans ((fσ3.i _ _ rfl).trans ((fσ2.i _ _ rfl).trans (fσ1.i _ _ rfl))))
          · by_cases z : j = s_n D 1
            · rw [if_pos z, z]
              exact (fσ5.i _ _ rfl).trans ((fσ4.i _ _ rfl).trans ((fσ3.i _ _ rfl).trans (qn_eq eσ2)))
            · rw [if_neg z]
              exact (fσ5.i _ _ rfl).trans ((fσ4.i _ _ rfl).trans ((fσ3.i _ _ rfl).trans ((qn_ne eσ2 (Or.inr z)).trans (fσ1.i _ _ rfl))))
        · skip
          have h38 := bI_f h38
          exact absurd (h38.symm.trans (rfl)) (by decide)
      · skip
        have h12 := bI_f h12
        exact absurd (h12.symm.trans (rfl)) (by decide)
theorem c_callC {G : qx_G} {σ : qx_S} {T : q_T} {p : Nat} {D : qS} (h : cT σ T p) (hd : dR σ 9 D) (g : gD D) (hnc : s_n D 2 < 8) : qx_M G qc_T 2 YX1_readCall [.ref 9, .ref 4] σ (fun r s' => rQ σ s' T (match q_cell T p (nI 0) (D 0 - nI 1) (140 + s_n D 2) D with
    | .error f => .error f
    | .ok y => .ok (y.1, va_up y.2 2 (nI (s_n D 2 + 1)))) r) := by
  have b0 := g.1.2
  have b1 := g.2.1.2
  have mn := c_readNumber (G := G) h (nI 0) (D 0 - nI 1)
  have e6 : qx_mi σ 9 6 = nI (s_n D 2) := hd.2.2.1.trans g.2.2.1
  cases e : q_nf1 T p (nI 0) (D 0 - nI 1) with
  | some f =>
    have ec : q_cell T p (nI 0) (D 0 - nI 1) (140 + s_n D 2) D = .error f := by unfold q_cell; rw [e]
    rw [e] at mn
    rw [ec]
    refine qx_M_in rfl (Nat.le_of_ble_eq_true rfl) ?_
    refine qy_wp_ok (c := CX1_readCall) (cuts := []) vX1_readCall wX1_readCall 2000 0 _ _ _ ?_
    refine Exists.intro (nI 0) (And.intro rfl ?_)
    refine And.intro rfl (Exists.intro 4 (Exists.intro (D 0) (And.intro rfl (And.intro hd.1 ?_))))
    refine Exists.intro (nI 1) (And.intro rfl ?_)
    refine Exists.intro ((D 0) - (nI 1)) (And.intro rfl ?_)
    refine And.intro rfl (Exists.intro _ (And.intro (by decide) (qx_M_mono (mn) ?_)))
    rintro _ σ1 ⟨fσ1, rfl, gσ1⟩
    refine And.intro (fun h12 => ?_) (fun h12 => ?_)
    · skip
      have h12 := bI_t h12
      exact absurd (h12.symm.trans (rfl)) (by decide)
    · skip
      have h12 := bI_f h12
      refine Exists.intro (nI 0) (And.intro rfl ?_)
      refine And.intro (Or.inl rfl) ?_
      exact ⟨fσ1.mn (by decide), rfl, gσ1⟩
  | none =>
    have ec : q_cell T p (nI 0) (D 0 - nI 1) (140 + s_n D 2) D = .ok (q_nx T p, va_up D (140 + s_n D 2) (nI (q_nu T p))) := by unfold q_cell; rw [e]
    rw [e] at mn
    rw [ec]
    dsimp only
    have v1 : q_nu T p < s_n D 0 := q_nf1_lt (by omega) (g.1.1 ▸ e)
    have ecl := hd.2.2.2.2.2.2.1 (q_nu T p) (by omega)
    have hcl := q_ca_le D (nI (q_nu T p)) (s_n D 2)
    obtain ⟨a1, a2, a3, a4, a5, a6, a7, bn, a8, a9, a10⟩ := hd
    have n1 : s_n (va_up (va_up D (140 + s_n D 2) (nI (q_nu T p))) 2 (nI (s_n D 2 + 1))) 1 = s_n D 1 := (sn_ne (by decide)).trans (sn_ne (by omega))
    have n2 : s_n (va_up (va_up D (140 + s_n D 2) (nI (q_nu T p))) 2 (nI (s_n D 2 + 1))) 2 = s_n D 2 + 1 := sn_eq (by omega)
    have oth : ∀ i, i ≠ 2 → i ≠ 140 + s_n D 2 → va_up (va_up D (140 + s_n D 2) (nI (q_nu T p))) 2 (nI (s_n D 2 + 1)) i = D i := fun i i1 i2 => by rw [va_up_ne _ _ i1, va_up_ne _ _ i2]
    have new : va_up (va_up D (140 + s_n D 2) (nI (q_nu T p))) 2 (nI (s_n D 2 + 1)) (140 + s_n D 2) = nI (q_nu T p) := by rw [va_up_ne _ _ (by omega), va_up_self]
    have cnt : ∀ q, q < 8 → q_ca (va_up (va_up D (140 + s_n D 2) (nI (q_nu T p))) 2 (nI (s_n D 2 + 1))) (nI q) (s_n D 2 + 1) = q_ca D (nI q) (s_n D 2) + (if q_nu T p = q then 1 else 0) := by
      intro q hq
      show q_ca _ _ (s_n D 2) + (if _ = nI q then 1 else 0) = _
      rw [q_ca_cg (D := D) _ (fun c hc => oth _ (by omega) (by omega)), new]
      by_cases z : q_nu T p = q
      · rw [if_pos z, if_pos (by rw [z])]
      · rw [if_neg z, if_neg (fun w => z ((nI_eq (by omega) (by omega)).mp w))]
    refine qx_M_in rfl (Nat.le_of_ble_eq_true rfl) ?_
    refine qy_wp_ok (c := CX1_readCall) (cuts := []) vX1_readCall wX1_readCall 2000 0 _ _ _ ?_
    refine Exists.intro (nI 0) (And.intro rfl ?_)
    refine And.intro rfl (Exists.intro 4 (Exists.intro (D 0) (And.intro rfl (And.intro a1 ?_))))
    refine Exists.intro (nI 1) (And.intro rfl ?_)
    refine Exists.intro ((D 0) - (nI 1)) (And.intro rfl ?_)
    refine And.intro rfl (Exists.intro _ (And.intro (by decide) (qx_M_mono (mn) ?_)))
    rintro _ σ1 ⟨fσ1, rfl, cσ1, gσ1⟩
    refine And.intro (fun h12 => ?_) (fun h12 => ?_)
    · skip
      have h12 := bI_t h12
      refine And.intro rfl (Exists.intro 13 (And.intro rfl ?_))
      refine And.intro rfl (Exists.intro 8 (Exists.intro (nI (q_nu T p)) (And.intro rfl (And.intro gσ1 ?_))))
      refine Exists.intro (q_nu T p) (Exists.intro (nI (q_ca D (nI (q_nu T p)) (s_n D 2))) (And.intro rfl (And.intro ⟨8, rfl, by omega, by decide⟩ (And.intro ((fσ1.i 13 _ rfl).trans ecl) ?_))))
      refine Exists.intro (nI 1) (And.intro rfl ?_)
      refine Exists.intro (nI (q_ca D (nI (q_nu T p)) (s_n D 2) + 1)) (And.intro (nI_add _ _) ?_)
      obtain ⟨σ2, eσ2⟩ : ∃ zs, zs = (qx_wi σ1 13 (q_nu T p) (nI (q_ca D (nI (q_nu T p)) (s_n D 2) + 1))) := ⟨_, rfl⟩
      have fσ2 := qn_wi eσ2
      refine Exists.intro (q_nu T p) (Exists.intro σ2 (And.intro rfl (And.intro ⟨8, rfl, by omega, by decide⟩ (And.intro eσ2.symm ?_))))
      refine And.intro rfl (Exists.intro 6 (Exists.intro (nI (s_n D 2)) (And.intro rfl (And.intro ((fσ2.i _ _ rfl).trans (((fσ1.i _ _ rfl).trans e6))) ?_))))
      refine Exists.intro (nI 1) (And.intro rfl ?_)
      refine Exists.intro (nI (s_n D 2 + 1)) (And.intro (nI_add _ _) ?_)
      obtain ⟨σ3, eσ3⟩ : ∃ zs, zs = (qx_wi σ2 9 6 (nI (s_n D 2 + 1))) := ⟨_, rfl⟩
      have fσ3 := qn_wif eσ3
      refine And.intro rfl (Exists.intro 6 (Exists.intro σ3 (And.intro rfl (And.intro eσ3.symm ?_))))
      refine Exists.intro (nI 1) (And.intro rfl ?_)
      refine And.intro (Or.inr rfl) ?_
      refine ⟨(fσ1.mn (by decide)).tr ((fσ2.mn (by decide)).tr (fσ3.mn (by decide))), rfl, (cσ1.fr fσ2 (by simp)).fr fσ3 (by simp), ?_⟩
      unfold dR
      dsimp only
      rw [n1, n2]
      refine ⟨(fσ3.i _ _ rfl).trans ((fσ2.i _ _ rfl).trans ((fσ1.i _ _ rfl).trans (a1.trans (oth 0 (by omega) (by omega)).symm))), (fσ3.i _ _ rfl).trans ((fσ2.i _ _ rfl).trans ((fσ1.i _ _ rfl).trans (a2.trans (oth 1 (by omega) (by omega)).symm))), (qn_eq eσ3).trans (va_up_self _ _ _).symm, fun p hp => ⟨(fσ3.i 10 _ rfl).trans ((fσ2.i 10 _ rfl).trans ((fσ1.i 10 _ rfl).trans ((a4 p hp).1.trans (oth _ (by omega) (by omega)).symm))), (fσ3.i 11 _ rfl).trans ((fσ2.i 11 _ rfl).trans ((fσ1.i 11 _ rfl).trans ((a4 p hp).2.trans (oth _ (by omega) (by omega)).symm)))⟩, fun p hp q hq => (fσ3.i 12 _ rfl).trans ((fσ2.i 12 _ rfl).trans ((fσ1.i 12 _ rfl).trans ((a5 p hp q hq).trans (oth _ (by omega) (by omega)).symm))), fun k h1 h2 => (fσ3.i 12 _ rfl).trans ((fσ2.i 12 _ rfl).trans ((fσ1.i 12 _ rfl).trans (a6 k h1 h2))), fun q hq => ?_, bn, (fσ3.i _ _ rfl).trans ((fσ2.i _ _ rfl).trans ((fσ1.i _ _ rfl).trans a8)), a9, fun p hp => ?_⟩
      · rw [cnt q hq]
        refine (fσ3.i 13 _ rfl).trans ?_
        by_cases z : q = q_nu T p
        · rw [if_pos z.symm, z]
          exact qn_eq eσ2
        · rw [if_neg (fun w => z w.symm)]
          exact (qn_ne eσ2 (Or.inr z)).trans ((fσ1.i 13 _ rfl).trans (a7 q hq))
      · rw [oth _ (by omega) (by omega)]
        exact a10 p hp
    · skip
      have h12 := bI_f h12
      exact absurd (h12.symm.trans (rfl)) (by decide)

