/-! THE CLASS: a country is read -/
theorem sn_z3 (D : qS) (i : Nat) (hi : i < 3) : s_n (q_z3 D) i = 0 := by
  have : ∀ j, j < 3 → q_z3 D j = nI 0 := by
    intro j hj
    show va_up (va_up (va_up D 0 (nI 0)) 1 (nI 0)) 2 (nI 0) j = nI 0
    by_cases z2 : j = 2
    · rw [z2, va_up_self]
    · rw [va_up_ne _ _ z2]
      by_cases z1 : j = 1
      · rw [z1, va_up_self]
      · rw [va_up_ne _ _ z1, show j = 0 by omega, va_up_self]
  unfold s_n
  rw [this i hi]
  rfl
theorem rQ_b {σ s' : qx_S} {T : q_T} {x : Except Nat (Nat × qS)} {r : Option Value} (h : rQ σ s' T x r) : r = some (.int (bI (xOk x))) := by
  obtain ⟨-, d⟩ := h
  cases x with
  | error f => exact d.1
  | ok y => exact d.1
theorem c_clear {G : qx_G} {σ : qx_S} (D : qS) : qx_M G qc_T 1 YX1_clear [.ref 9] σ (fun r s => r = none ∧ ql [(9, none), (12, none), (13, none)] σ s ∧ dR s 9 (q_z3 D)) := by
  have gz := q_z3_g D
  have n0 : s_n (q_z3 D) 0 = 0 := sn_z3 D 0 (by decide)
  have n1 : s_n (q_z3 D) 1 = 0 := sn_z3 D 1 (by decide)
  have n2 : s_n (q_z3 D) 2 = 0 := sn_z3 D 2 (by decide)
  have e0 : q_z3 D 0 = nI 0 := n0 ▸ gz.1.1.1
  have e1 : q_z3 D 1 = nI 0 := n1 ▸ gz.1.2.1.1
  have e2 : q_z3 D 2 = nI 0 := n2 ▸ gz.1.2.2.1
  refine qx_M_in rfl (Nat.le_of_ble_eq_true rfl) ?_
  refine qy_wp_ok (c := CX1_clear) (cuts := []) vX1_clear wX1_clear 2000 0 _ _ _ ?_
  refine And.intro rfl (Exists.intro 12 (And.intro rfl ?_))
  refine Exists.intro (nI 0) (And.intro rfl ?_)
  refine Exists.intro _ (And.intro (by decide) (qx_M_mono (c_fill (N := 80) rfl (by decide)) ?_))
  rintro _ σ1 ⟨rfl, fσ1, gσ1⟩
  refine And.intro rfl (Exists.intro 13 (And.intro rfl ?_))
  refine Exists.intro (nI 0) (And.intro rfl ?_)
  refine Exists.intro _ (And.intro (by decide) (qx_M_mono (c_fill (N := 8) ((fσ1.s _).trans rfl) (by decide)) ?_))
  rintro _ σ2 ⟨rfl, fσ2, gσ2⟩
  refine Exists.intro (nI 0) (And.intro rfl ?_)
  obtain ⟨σ3, eσ3⟩ : ∃ zs, zs = (qx_wi σ2 9 4 (nI 0)) := ⟨_, rfl⟩
  have fσ3 := qn_wif eσ3
  refine And.intro rfl (Exists.intro 4 (Exists.intro σ3 (And.intro rfl (And.intro eσ3.symm ?_))))
  refine Exists.intro (nI 0) (And.intro rfl ?_)
  obtain ⟨σ4, eσ4⟩ : ∃ zs, zs = (qx_wi σ3 9 5 (nI 0)) := ⟨_, rfl⟩
  have fσ4 := qn_wif eσ4
  refine And.intro rfl (Exists.intro 5 (Exists.intro σ4 (And.intro rfl (And.intro eσ4.symm ?_))))
  refine Exists.intro (nI 0) (And.intro rfl ?_)
  obtain ⟨σ5, eσ5⟩ : ∃ zs, zs = (qx_wi σ4 9 6 (nI 0)) := ⟨_, rfl⟩
  have fσ5 := qn_wif eσ5
  refine And.intro rfl (Exists.intro 6 (Exists.intro σ5 (And.intro rfl (And.intro eσ5.symm ?_))))
  refine Exists.intro (nI 0) (And.intro rfl ?_)
  obtain ⟨σ6, eσ6⟩ : ∃ zs, zs = (qx_wi σ5 9 7 (nI 0)) := ⟨_, rfl⟩
  have fσ6 := qn_wif eσ6
  refine And.intro rfl (Exists.intro 7 (Exists.intro σ6 (And.intro rfl (And.intro eσ6.symm ?_))))
  refine ⟨rfl, (fσ1.mn (by decide)).tr ((fσ2.mn (by decide)).tr ((fσ3.mn (by decide)).tr ((fσ4.mn (by decide)).tr ((fσ5.mn (by decide)).tr (fσ6.mn (by decide)))))), ?_⟩
  unfold dR
  rw [n1, n2, e0, e1, e2]
  exact ⟨(fσ6.i _ _ rfl).trans ((fσ5.i _ _ rfl).trans ((fσ4.i _ _ rfl).trans (qn_eq eσ3))), (fσ6.i _ _ rfl).trans ((fσ5.i _ _ rfl).trans (qn_eq eσ4)), (fσ6.i _ _ rfl).trans (qn_eq eσ5), fun p hp => absurd hp (by omega), fun p hp => absurd hp (by omega), fun k _ h2 => (fσ6.i 12 _ rfl).trans ((fσ5.i 12 _ rfl).trans ((fσ4.i 12 _ rfl).trans ((fσ3.i 12 _ rfl).trans ((fσ2.i 12 _ rfl).trans (gσ1 k h2))))), fun q hq => (fσ6.i 13 _ rfl).trans ((fσ5.i 13 _ rfl).trans ((fσ4.i 13 _ rfl).trans ((fσ3.i 13 _ rfl).trans (gσ2 q hq)))), 0, qn_eq eσ6, by decide, fun p hp => absurd hp (by omega)⟩
theorem c_isClause {G : qx_G} {σ : qx_S} {k : Nat} (hk : k ≤ 999) : qx_M G qc_T 0 YX1_isClause [.int (kI k)] σ (qr (bI (q_cbg k)) σ) := by
  by_cases z : k = 312 ∨ k = 300 ∨ k = 305 ∨ k = 313 ∨ k = 314
  · have e : q_cbg k = true := decide_eq_true z
    rw [e, kI_lt (show k < 999 by omega)]
    refine qx_M_in rfl (Nat.le_of_ble_eq_true rfl) ?_
    refine qy_wp_ok (c := CX1_isClause) (cuts := [39]) vX1_isClause wX1_isClause 2000 0 _ _ _ ?_
    refine Exists.intro (nI 312) (And.intro rfl ?_)
    refine And.intro (fun h4 => ?_) (fun h4 => ?_)
    · skip
      have h4 := nI_eqT (a := k) (b := 312) (by omega) (by decide) h4
      refine Exists.intro (nI 1) (And.intro rfl ?_)
      refine And.intro (Or.inr rfl) ?_
      exact ⟨rfl, rfl⟩
    · skip
      have h4 := nI_neT (a := k) (b := 312) (by omega) (by decide) h4
      refine Exists.intro (nI 300) (And.intro rfl ?_)
      refine And.intro (fun h11 => ?_) (fun h11 => ?_)
      · skip
        have h11 := nI_eqT (a := k) (b := 300) (by omega) (by decide) h11
        refine Exists.intro (nI 1) (And.intro rfl ?_)
        refine And.intro (Or.inr rfl) ?_
        exact ⟨rfl, rfl⟩
      · skip
        have h11 := nI_neT (a := k) (b := 300) (by omega) (by decide) h11
        refine Exists.intro (nI 305) (And.intro rfl ?_)
        refine And.intro (fun h18 => ?_) (fun h18 => ?_)
        · skip
          have h18 := nI_eqT (a := k) (b := 305) (by omega) (by decide) h18
          refine Exists.intro (nI 1) (And.intro rfl ?_)
          refine And.intro (Or.inr rfl) ?_
          exact ⟨rfl, rfl⟩
        · skip
          have h18 := nI_neT (a := k) (b := 305) (by omega) (by decide) h18
          refine Exists.intro (nI 313) (And.intro rfl ?_)
          refine And.intro (fun h25 => ?_) (fun h25 => ?_)
          · skip
            have h25 := nI_eqT (a := k) (b := 313) (by omega) (by decide) h25
            refine Exists.intro (nI 1) (And.intro rfl ?_)
            refine And.intro (Or.inr rfl) ?_
            exact ⟨rfl, rfl⟩
          · skip
            have h25 := nI_neT (a := k) (b := 313) (by omega) (by decide) h25
            refine Exists.intro (nI 314) (And.intro rfl ?_)
            refine And.intro (fun h32 => ?_) (fun h32 => ?_)
            · skip
              have h32 := nI_neT (a := k) (b := 314) (by omega) (by decide) h32
              refine qx_K_le (ls := [.retAddr 0]) ⟨Or.inl rfl, trivial⟩ ?_
              exact absurd z (by omega)
            · skip
              have h32 := nI_eqT (a := k) (b := 314) (by omega) (by decide) h32
              refine Exists.intro (nI 1) (And.intro rfl ?_)
              refine And.intro (Or.inr rfl) ?_
              exact ⟨rfl, rfl⟩
  · have e : q_cbg k = false := decide_eq_false z
    rw [e]
    have n1 := kI_ne hk (show 312 < 999 by decide) (by omega)
    have n2 := kI_ne hk (show 300 < 999 by decide) (by omega)
    have n3 := kI_ne hk (show 305 < 999 by decide) (by omega)
    have n4 := kI_ne hk (show 313 < 999 by decide) (by omega)
    have n5 := kI_ne hk (show 314 < 999 by decide) (by omega)
    refine qx_M_in rfl (Nat.le_of_ble_eq_true rfl) ?_
    refine qy_wp_ok (c := CX1_isClause) (cuts := [35]) vX1_isClause wX1_isClause 2000 0 _ _ _ ?_
    refine Exists.intro (nI 312) (And.intro rfl ?_)
    refine And.intro (fun h4 => ?_) (fun h4 => ?_)
    · skip
      refine qx_K_le (ls := [.retAddr 0]) ⟨Or.inl rfl, trivial⟩ ?_
      first | exact absurd h4 n1 | exact absurd h11 n2 | exact absurd h18 n3 | exact absurd h25 n4 | exact absurd h32 n5
    · skip
      refine Exists.intro (nI 300) (And.intro rfl ?_)
      refine And.intro (fun h11 => ?_) (fun h11 => ?_)
      · skip
        refine qx_K_le (ls := [.retAddr 0]) ⟨Or.inl rfl, trivial⟩ ?_
        first | exact absurd h4 n1 | exact absurd h11 n2 | exact absurd h18 n3 | exact absurd h25 n4 | exact absurd h32 n5
      · skip
        refine Exists.intro (nI 305) (And.intro rfl ?_)
        refine And.intro (fun h18 => ?_) (fun h18 => ?_)
        · skip
          refine qx_K_le (ls := [.retAddr 0]) ⟨Or.inl rfl, trivial⟩ ?_
          first | exact absurd h4 n1 | exact absurd h11 n2 | exact absurd h18 n3 | exact absurd h25 n4 | exact absurd h32 n5
        · skip
          refine Exists.intro (nI 313) (And.intro rfl ?_)
          refine And.intro (fun h25 => ?_) (fun h25 => ?_)
          · skip
            refine qx_K_le (ls := [.retAddr 0]) ⟨Or.inl rfl, trivial⟩ ?_
            first | exact absurd h4 n1 | exact absurd h11 n2 | exact absurd h18 n3 | exact absurd h25 n4 | exact absurd h32 n5
          · skip
            refine Exists.intro (nI 314) (And.intro rfl ?_)
            refine And.intro (fun h32 => ?_) (fun h32 => ?_)
            · skip
              refine Exists.intro (nI 0) (And.intro rfl ?_)
              refine And.intro (Or.inl rfl) ?_
              exact ⟨rfl, rfl⟩
            · skip
              refine qx_K_le (ls := [.retAddr 0]) ⟨Or.inl rfl, trivial⟩ ?_
              first | exact absurd h4 n1 | exact absurd h11 n2 | exact absurd h18 n3 | exact absurd h25 n4 | exact absurd h32 n5
/-- may this clause stand here? -/
def q_ms (D : qS) (k ln : Nat) : Bool := decide (ln < 48 ∧ (k = 312 ↔ ln = 0) ∧ (k = 300 → s_n D 1 < 10) ∧ (k = 314 → s_n D 2 < 8))
theorem c_mayStand {G : qx_G} {σ : qx_S} {D : qS} {k ln : Nat} (hd : dR σ 9 D) (g : gD D) (hk : k < 999) (hln : ln ≤ 48) : qx_M G qc_T 0 YX1_mayStand [.ref 9, .int (nI k), .int (nI ln)] σ (qr (bI (q_ms D k ln)) σ) := by
  have e5 : qx_mi σ 9 5 = nI (s_n D 1) := hd.2.1.trans g.2.1.1
  have e6 : qx_mi σ 9 6 = nI (s_n D 2) := hd.2.2.1.trans g.2.2.1
  have b1 := g.2.1.2
  have b2 := g.2.2.2
  have no : ¬ (ln < 48 ∧ (k = 312 ↔ ln = 0) ∧ (k = 300 → s_n D 1 < 10) ∧ (k = 314 → s_n D 2 < 8)) → q_ms D k ln = false := fun z => decide_eq_false z
  have yes : (ln < 48 ∧ (k = 312 ↔ ln = 0) ∧ (k = 300 → s_n D 1 < 10) ∧ (k = 314 → s_n D 2 < 8)) → q_ms D k ln = true := fun z => decide_eq_true z
  refine qx_M_in rfl (Nat.le_of_ble_eq_true rfl) ?_
  refine qy_wp_ok (c := CX1_mayStand) (cuts := []) vX1_mayStand wX1_mayStand 2000 0 _ _ _ ?_
  refine Exists.intro (nI 48) (And.intro rfl ?_)
  refine And.intro (fun h3 => ?_) (fun h3 => ?_)
  · skip
    have h3 := nI_leT (a := 48) (b := ln) (by decide) (by omega) h3
    refine Exists.intro (nI 0) (And.intro rfl ?_)
    refine And.intro (Or.inl rfl) ?_
    first | (rw [yes (by omega)]; exact ⟨rfl, rfl⟩) | (rw [no (by omega)]; exact ⟨rfl, rfl⟩)
  · skip
    have h3 := nI_leF (a := 48) (b := ln) (by decide) (by omega) h3
    refine Exists.intro (nI 312) (And.intro rfl ?_)
    refine And.intro (fun h10 => ?_) (fun h10 => ?_)
    · skip
      have h10 := nI_neT (a := k) (b := 312) (by omega) (by decide) h10
      refine Exists.intro (nI 0) (And.intro rfl ?_)
      refine And.intro (fun h19 => ?_) (fun h19 => ?_)
      · skip
        have h19 := nI_neT (a := ln) (b := 0) (by omega) (by decide) h19
        refine Exists.intro (nI 0) (And.intro rfl ?_)
        refine And.intro (fun h27 => ?_) (fun h27 => ?_)
        · skip
          refine Exists.intro (nI 300) (And.intro rfl ?_)
          refine And.intro (fun h36 => ?_) (fun h36 => ?_)
          · skip
            have h36 := nI_neT (a := k) (b := 300) (by omega) (by decide) h36
            refine Exists.intro (nI 314) (And.intro rfl ?_)
            refine And.intro (fun h58 => ?_) (fun h58 => ?_)
            · skip
              have h58 := nI_neT (a := k) (b := 314) (by omega) (by decide) h58
              refine Exists.intro (nI 1) (And.intro rfl ?_)
              refine And.intro (Or.inr rfl) ?_
              first | (rw [yes (by omega)]; exact ⟨rfl, rfl⟩) | (rw [no (by omega)]; exact ⟨rfl, rfl⟩)
            · skip
              have h58 := nI_eqT (a := k) (b := 314) (by omega) (by decide) h58
              refine And.intro rfl (Exists.intro 6 (Exists.intro (nI (s_n D 2)) (And.intro rfl (And.intro e6 ?_))))
              refine Exists.intro (nI 8) (And.intro rfl ?_)
              refine And.intro (fun h67 => ?_) (fun h67 => ?_)
              · skip
                have h67 := nI_leT (a := 8) (b := s_n D 2) (by decide) (by omega) h67
                refine Exists.intro (nI 0) (And.intro rfl ?_)
                refine And.intro (Or.inl rfl) ?_
                first | (rw [yes (by omega)]; exact ⟨rfl, rfl⟩) | (rw [no (by omega)]; exact ⟨rfl, rfl⟩)
              · skip
                have h67 := nI_leF (a := 8) (b := s_n D 2) (by decide) (by omega) h67
                refine Exists.intro (nI 1) (And.intro rfl ?_)
                refine And.intro (Or.inr rfl) ?_
                first | (rw [yes (by omega)]; exact ⟨rfl, rfl⟩) | (rw [no (by omega)]; exact ⟨rfl, rfl⟩)
          · skip
            have h36 := nI_eqT (a := k) (b := 300) (by omega) (by decide) h36
            refine And.intro rfl (Exists.intro 5 (Exists.intro (nI (s_n D 1)) (And.intro rfl (And.intro e5 ?_))))
            refine Exists.intro (nI 10) (And.intro rfl ?_)
            refine And.intro (fun h45 => ?_) (fun h45 => ?_)
            · skip
              have h45 := nI_leT (a := 10) (b := s_n D 1) (by decide) (by omega) h45
              refine Exists.intro (nI 0) (And.intro rfl ?_)
              refine And.intro (Or.inl rfl) ?_
              first | (rw [yes (by omega)]; exact ⟨rfl, rfl⟩) | (rw [no (by omega)]; exact ⟨rfl, rfl⟩)
            · skip
              have h45 := nI_leF (a := 10) (b := s_n D 1) (by decide) (by omega) h45
              refine Exists.intro (nI 1) (And.intro rfl ?_)
              refine And.intro (Or.inr rfl) ?_
              first | (rw [yes (by omega)]; exact ⟨rfl, rfl⟩) | (rw [no (by omega)]; exact ⟨rfl, rfl⟩)
        · skip
          exact absurd (by decide) h27
      · skip
        have h19 := nI_eqT (a := ln) (b := 0) (by omega) (by decide) h19
        refine Exists.intro (nI 1) (And.intro rfl ?_)
        refine And.intro (fun h27 => ?_) (fun h27 => ?_)
        · skip
          exact absurd h27 (by decide)
        · skip
          refine Exists.intro (nI 0) (And.intro rfl ?_)
          refine And.intro (Or.inl rfl) ?_
          first | (rw [yes (by omega)]; exact ⟨rfl, rfl⟩) | (rw [no (by omega)]; exact ⟨rfl, rfl⟩)
    · skip
      have h10 := nI_eqT (a := k) (b := 312) (by omega) (by decide) h10
      refine Exists.intro (nI 1) (And.intro rfl ?_)
      refine And.intro (fun h19 => ?_) (fun h19 => ?_)
      · skip
        have h19 := nI_neT (a := ln) (b := 0) (by omega) (by decide) h19
        refine Exists.intro (nI 0) (And.intro rfl ?_)
        refine And.intro (fun h27 => ?_) (fun h27 => ?_)
        · skip
          exact absurd h27 (by decide)
        · skip
          refine Exists.intro (nI 0) (And.intro rfl ?_)
          refine And.intro (Or.inl rfl) ?_
          first | (rw [yes (by omega)]; exact ⟨rfl, rfl⟩) | (rw [no (by omega)]; exact ⟨rfl, rfl⟩)
      · skip
        have h19 := nI_eqT (a := ln) (b := 0) (by omega) (by decide) h19
        refine Exists.intro (nI 1) (And.intro rfl ?_)
        refine And.intro (fun h27 => ?_) (fun h27 => ?_)
        · skip
          refine Exists.intro (nI 300) (And.intro rfl ?_)
          refine And.intro (fun h36 => ?_) (fun h36 => ?_)
          · skip
            have h36 := nI_neT (a := k) (b := 300) (by omega) (by decide) h36
            refine Exists.intro (nI 314) (And.intro rfl ?_)
            refine And.intro (fun h58 => ?_) (fun h58 => ?_)
            · skip
              have h58 := nI_neT (a := k) (b := 314) (by omega) (by decide) h58
              refine Exists.intro (nI 1) (And.intro rfl ?_)
              refine And.intro (Or.inr rfl) ?_
              first | (rw [yes (by omega)]; exact ⟨rfl, rfl⟩) | (rw [no (by omega)]; exact ⟨rfl, rfl⟩)
            · skip
              have h58 := nI_eqT (a := k) (b := 314) (by omega) (by decide) h58
              refine And.intro rfl (Exists.intro 6 (Exists.intro (nI (s_n D 2)) (And.intro rfl (And.intro e6 ?_))))
              refine Exists.intro (nI 8) (And.intro rfl ?_)
              refine And.intro (fun h67 => ?_) (fun h67 => ?_)
              · skip
                have h67 := nI_leT (a := 8) (b := s_n D 2) (by decide) (by omega) h67
                refine Exists.intro (nI 0) (And.intro rfl ?_)
                refine And.intro (Or.inl rfl) ?_
                first | (rw [yes (by omega)]; exact ⟨rfl, rfl⟩) | (rw [no (by omega)]; exact ⟨rfl, rfl⟩)
              · skip
                have h67 := nI_leF (a := 8) (b := s_n D 2) (by decide) (by omega) h67
                refine Exists.intro (nI 1) (And.intro rfl ?_)
                refine And.intro (Or.inr rfl) ?_
                first | (rw [yes (by omega)]; exact ⟨rfl, rfl⟩) | (rw [no (by omega)]; exact ⟨rfl, rfl⟩)
          · skip
            have h36 := nI_eqT (a := k) (b := 300) (by omega) (by decide) h36
            refine And.intro rfl (Exists.intro 5 (Exists.intro (nI (s_n D 1)) (And.intro rfl (And.intro e5 ?_))))
            refine Exists.intro (nI 10) (And.intro rfl ?_)
            refine And.intro (fun h45 => ?_) (fun h45 => ?_)
            · skip
              have h45 := nI_leT (a := 10) (b := s_n D 1) (by decide) (by omega) h45
              refine Exists.intro (nI 0) (And.intro rfl ?_)
              refine And.intro (Or.inl rfl) ?_
              first | (rw [yes (by omega)]; exact ⟨rfl, rfl⟩) | (rw [no (by omega)]; exact ⟨rfl, rfl⟩)
            · skip
              have h45 := nI_leF (a := 10) (b := s_n D 1) (by decide) (by omega) h45
              refine Exists.intro (nI 1) (And.intro rfl ?_)
              refine And.intro (Or.inr rfl) ?_
              first | (rw [yes (by omega)]; exact ⟨rfl, rfl⟩) | (rw [no (by omega)]; exact ⟨rfl, rfl⟩)
        · skip
          exact absurd (by decide) h27
/-- a clause's numbers -/
def q_lnb (T : q_T) (p : Nat) (D : qS) : Except Nat (Nat × qS) := if q_kd T p = 312 then q_cell T (q_nx T p) (nI 2) (nI 8) 0 D else if q_kd T p = 300 then (match q_cell T (q_nx T p) (nI 0) (D 0 - nI 1) (10 + 5 * s_n D 1) D with
  | .error f => .error f
  | .ok y => match q_cell T y.1 (nI 1) (nI 99) (10 + 5 * s_n D 1 + 1) y.2 with
    | .error f => .error f
    | .ok z => .ok (z.1, q_np z.2 (s_n D 1))) else if q_kd T p = 305 then q_c05 T p D else if q_kd T p = 313 then q_c13 T p D else (match q_cell T (q_nx T p) (nI 0) (D 0 - nI 1) (140 + s_n D 2) D with
  | .error f => .error f
  | .ok y => .ok (y.1, va_up y.2 2 (nI (s_n D 2 + 1))))
theorem q_k1_y {T : q_T} {p ln : Nat} {D : qS} (hc : q_cbg (q_kd T p) = true) (hm : q_ms D (q_kd T p) ln = true) (hi : ln = 0 ↔ s_n D 0 = 0) : q_k1 T p D ln = q_lnb T p D := by
  obtain ⟨m1, m2, m3, m4⟩ := of_decide_eq_true hm
  have c1 := of_decide_eq_true hc
  unfold q_k1 q_ln q_lnb
  rw [if_neg (by rw [hc]; decide), if_neg (show ¬ ln = 48 by omega)]
  by_cases k12 : q_kd T p = 312
  · rw [if_pos k12, if_pos k12]
    unfold q_c12
    rw [if_neg (by omega)]
  · rw [if_neg k12, if_neg k12, if_neg (show ¬ s_n D 0 = 0 by omega)]
    by_cases k0 : q_kd T p = 300
    · rw [if_pos k0, if_pos k0]
      unfold q_c00
      rw [if_neg (by have := m3 k0; omega)]
      rfl
    · rw [if_neg k0, if_neg k0]
      by_cases k5 : q_kd T p = 305
      · rw [if_pos k5, if_pos k5]
      · rw [if_neg k5, if_neg k5]
        by_cases k13 : q_kd T p = 313
        · rw [if_pos k13, if_pos k13]
        · rw [if_neg k13, if_neg k13]
          unfold q_c14
          rw [if_neg (by have := m4 (by omega); omega)]
          rfl
theorem q_k1_n {T : q_T} {p ln : Nat} {D : qS} (hln : ln ≤ 48) (hc : q_cbg (q_kd T p) = true) (hm : q_ms D (q_kd T p) ln = false) (g : gD D) (hi : ln = 0 ↔ s_n D 0 = 0) : q_k1 T p D ln = .error (1 + 8 * p + 4) := by
  have m := of_decide_eq_false hm
  have c1 := of_decide_eq_true hc
  have b1 := g.2.1.2
  have b2 := g.2.2.2
  unfold q_k1 q_ln
  rw [if_neg (by rw [hc]; decide)]
  by_cases l48 : ln = 48
  · rw [if_pos l48]
  rw [if_neg l48]
  by_cases k12 : q_kd T p = 312
  · rw [if_pos k12]
    unfold q_c12
    rw [if_pos (by omega)]
  · rw [if_neg k12]
    by_cases z : s_n D 0 = 0
    · rw [if_pos z]
    · rw [if_neg z]
      by_cases k0 : q_kd T p = 300
      · rw [if_pos k0]
        unfold q_c00
        rw [if_pos (by omega)]
      · rw [if_neg k0, if_neg (show ¬ q_kd T p = 305 by omega), if_neg (show ¬ q_kd T p = 313 by omega)]
        unfold q_c14
        rw [if_pos (by omega)]
theorem c_clauseC {G : qx_G} {σ : qx_S} {T : q_T} {p : Nat} {D : qS} (h : cT σ T (q_nx T p)) (hd : dR σ 9 D) (g : gD D) (hc : q_cbg (q_kd T p) = true) (m3 : q_kd T p = 300 → s_n D 1 < 10) (m4 : q_kd T p = 314 → s_n D 2 < 8) : qx_M G qc_T 3 YX1_readClause [.ref 9, .ref 4, .int (nI (q_kd T p))] σ (fun r s' => ∃ b, r = some (.int (bI b)) ∧ rQ σ s' T (q_lnb T p D) r) := by
  have c1 := of_decide_eq_true hc
  have ex : ∀ {y : qx_Y} {as : List Value} {d : Nat} {x : Except Nat (Nat × qS)}, qx_M G qc_T d y as σ (fun r s' => rQ σ s' T x r) → qx_M G qc_T d y as σ (fun r s' => ∃ b, r = some (.int (bI b)) ∧ rQ σ s' T x r) := fun m => qx_M_mono m (fun r s' z => ⟨_, rQ_b z, z⟩)
  unfold q_lnb
  by_cases k12 : q_kd T p = 312
  · rw [if_pos k12, k12]
    refine qx_M_in rfl (Nat.le_of_ble_eq_true rfl) ?_
    refine qy_wp_ok (c := CX1_readClause) (cuts := []) vX1_readClause wX1_readClause 2000 0 _ _ _ ?_
    refine And.intro (fun h => absurd h (by decide)) (fun _ => ?_)
    refine And.intro (fun h => absurd h (by decide)) (fun _ => ?_)
    refine And.intro (fun _ => ?_) (fun h => absurd rfl h)
    refine And.intro rfl (Exists.intro _ (And.intro (by decide) (qx_M_mono (ex (c_places h hd)) ?_)))
    rintro _ σ1 ⟨bb, rfl, fσ1⟩
    refine And.intro (bI_01 _) ?_
    exact ⟨_, rfl, fσ1⟩
  rw [if_neg k12]
  by_cases k0 : q_kd T p = 300
  · rw [if_pos k0, k0]
    refine qx_M_in rfl (Nat.le_of_ble_eq_true rfl) ?_
    refine qy_wp_ok (c := CX1_readClause) (cuts := []) vX1_readClause wX1_readClause 2000 0 _ _ _ ?_
    refine And.intro (fun _ => ?_) (fun h => absurd rfl h)
    refine And.intro rfl (Exists.intro _ (And.intro (by decide) (qx_M_mono (ex (c_person h hd g (m3 k0))) ?_)))
    rintro _ σ1 ⟨bb, rfl, fσ1⟩
    refine And.intro (bI_01 _) ?_
    exact ⟨_, rfl, fσ1⟩
  rw [if_neg k0]
  by_cases k5 : q_kd T p = 305
  · rw [if_pos k5, k5]
    refine qx_M_in rfl (Nat.le_of_ble_eq_true rfl) ?_
    refine qy_wp_ok (c := CX1_readClause) (cuts := []) vX1_readClause wX1_readClause 2000 0 _ _ _ ?_
    refine And.intro (fun h => absurd h (by decide)) (fun _ => ?_)
    refine And.intro (fun _ => ?_) (fun h => absurd rfl h)
    refine And.intro rfl (Exists.intro _ (And.intro (by decide) (qx_M_mono (ex (c_wish h hd g)) ?_)))
    rintro _ σ1 ⟨bb, rfl, fσ1⟩
    refine And.intro (bI_01 _) ?_
    exact ⟨_, rfl, fσ1⟩
  rw [if_neg k5]
  by_cases k13 : q_kd T p = 313
  · rw [if_pos k13, k13]
    refine qx_M_in rfl (Nat.le_of_ble_eq_true rfl) ?_
    refine qy_wp_ok (c := CX1_readClause) (cuts := []) vX1_readClause wX1_readClause 2000 0 _ _ _ ?_
    refine And.intro (fun h => absurd h (by decide)) (fun _ => ?_)
    refine And.intro (fun h => absurd h (by decide)) (fun _ => ?_)
    refine And.intro (fun h => absurd h (by decide)) (fun _ => ?_)
    refine And.intro (fun _ => ?_) (fun h => absurd rfl h)
    refine And.intro rfl (Exists.intro _ (And.intro (by decide) (qx_M_mono (ex (c_benchC h hd g)) ?_)))
    rintro _ σ1 ⟨bb, rfl, fσ1⟩
    refine And.intro (bI_01 _) ?_
    exact ⟨_, rfl, fσ1⟩
  have k14 : q_kd T p = 314 := by omega
  rw [if_neg k13, k14]
  refine qx_M_in rfl (Nat.le_of_ble_eq_true rfl) ?_
  refine qy_wp_ok (c := CX1_readClause) (cuts := []) vX1_readClause wX1_readClause 2000 0 _ _ _ ?_
  refine And.intro (fun h => absurd h (by decide)) (fun _ => ?_)
  refine And.intro (fun h => absurd h (by decide)) (fun _ => ?_)
  refine And.intro (fun h => absurd h (by decide)) (fun _ => ?_)
  refine And.intro (fun h => absurd h (by decide)) (fun _ => ?_)
  refine And.intro rfl (Exists.intro _ (And.intro (by decide) (qx_M_mono (ex (c_callC h hd g (m4 k14))) ?_)))
  rintro _ σ1 ⟨bb, rfl, fσ1⟩
  refine And.intro (bI_01 _) ?_
  exact ⟨_, rfl, fσ1⟩

