/-! THE REFERENCE: the tape, words and numbers on it -/
def q_f1 (T : q_T) (x : Int32) : q_T := (T.1 + 1, va_up T.2 T.1 (q_by x.toInt8.toInt32))
def q_f4 (T : q_T) (v : Int32) : q_T := q_f1 (q_f1 (q_f1 (q_f1 T (v >>> (nI 24 &&& 31))) (v >>> (nI 16 &&& 31))) (v >>> (nI 8 &&& 31))) (v >>> (nI 0 &&& 31))
def tR (σ : qx_S) (T : q_T) : Prop := qx_mi σ 197 1 = nI T.1 ∧ T.1 ≤ 400 ∧ ∀ k, k < T.1 → qx_mi σ 198 k = sx (T.2 k) ∧ T.2 k < 256
theorem tR.fr {σ s : qx_S} {T : q_T} {l : List (Nat × Option Nat)} (h : tR σ T) (f : ql l σ s) (h1 : pL l 197 1 = false) (h2 : ∀ j, pL l 198 j = false) : tR s T := ⟨(f.i _ _ h1).trans h.1, h.2.1, fun k hk => ⟨(f.i _ _ (h2 k)).trans (h.2.2 k hk).1, (h.2.2 k hk).2⟩⟩
theorem tR.put {σ σ1 σ2 : qx_S} {T : q_T} {x : Int32} (h : tR σ T) (hn : T.1 < 400) (e1 : σ1 = qx_wi σ 198 T.1 (x.toInt8.toInt32).toInt8.toInt32) (e2 : σ2 = qx_wi σ1 197 1 (nI (T.1 + 1))) : tR σ2 (q_f1 T x) := by
  refine ⟨qn_eq e2, hn, fun k hk => ?_⟩
  have hk' : k < T.1 + 1 := hk
  have f := qn_wif e2
  by_cases z : k = T.1
  · subst z
    refine ⟨(f.i _ _ rfl).trans ((qn_eq e1).trans ?_), ?_⟩
    · rw [q_by_sx]
      show _ = sx (va_up T.2 T.1 _ T.1)
      rw [va_up_self]
    · show va_up T.2 T.1 _ T.1 < 256
      rw [va_up_self]
      exact q_by_lt _
  · have y := h.2.2 k (by omega)
    refine ⟨(f.i _ _ rfl).trans ((qn_ne e1 (Or.inr z)).trans ?_), ?_⟩
    · show _ = sx (va_up T.2 T.1 _ k)
      rw [va_up_ne _ _ z]
      exact y.1
    · show va_up T.2 T.1 _ k < 256
      rw [va_up_ne _ _ z]
      exact y.2
abbrev lT : List (Nat × Option Nat) := [(197, some 1), (198, none)]
theorem m_four {G : qx_G} {σ : qx_S} {T : q_T} (h : tR σ T) (hn : T.1 + 4 ≤ 400) (v : Int32) : qx_M G qc_T 0 YX12_four [.ref 197, .int v] σ (fun r s => r = none ∧ ql lT σ s ∧ tR s (q_f4 T v)) := by
  refine qx_M_in rfl (Nat.le_of_ble_eq_true rfl) ?_
  refine qy_wp_ok (c := CX12_four) (cuts := []) vX12_four wX12_four 2000 0 _ _ _ ?_
  refine Exists.intro (nI 24) (And.intro rfl ?_)
  refine And.intro (fun h4 => ?_) (fun h4 => ?_)
  · skip
    exact absurd h4 (by decide)
  · skip
    refine And.intro rfl (Exists.intro 198 (And.intro rfl ?_))
    refine And.intro rfl (Exists.intro 1 (Exists.intro (nI T.1) (And.intro rfl (And.intro h.1 ?_))))
    refine Exists.intro (v >>> ((nI 24) &&& 31)) (And.intro rfl ?_)
    refine Exists.intro ((v >>> ((nI 24) &&& 31)).toInt8.toInt32) (And.intro rfl ?_)
    obtain ⟨σ1, eσ1⟩ : ∃ zs, zs = (qx_wi σ 198 T.1 (((v >>> ((nI 24) &&& 31)).toInt8.toInt32).toInt8.toInt32)) := ⟨_, rfl⟩
    have fσ1 := qn_wi eσ1
    refine Or.inl (Exists.intro (T.1) (Exists.intro σ1 (And.intro rfl (And.intro ⟨400, rfl, by omega, by decide⟩ (And.intro eσ1.symm ?_)))))
    refine And.intro rfl (Exists.intro 1 (Exists.intro (nI T.1) (And.intro rfl (And.intro ((fσ1.i _ _ rfl).trans (h.1)) ?_))))
    refine Exists.intro (nI 1) (And.intro rfl ?_)
    refine Exists.intro (nI (T.1 + 1)) (And.intro (nI_add _ _) ?_)
    obtain ⟨σ2, eσ2⟩ : ∃ zs, zs = (qx_wi σ1 197 1 (nI (T.1 + 1))) := ⟨_, rfl⟩
    have fσ2 := qn_wif eσ2
    refine And.intro rfl (Exists.intro 1 (Exists.intro σ2 (And.intro rfl (And.intro eσ2.symm ?_))))
    refine Exists.intro (nI 16) (And.intro (by decide) ?_)
    refine And.intro (fun h4_1 => ?_) (fun h4_1 => ?_)
    · skip
      exact absurd h4_1 (by decide)
    · skip
      refine And.intro rfl (Exists.intro 198 (And.intro rfl ?_))
      refine And.intro rfl (Exists.intro 1 (Exists.intro (nI (T.1 + 1)) (And.intro rfl (And.intro (qn_eq eσ2) ?_))))
      refine Exists.intro (v >>> ((nI 16) &&& 31)) (And.intro rfl ?_)
      refine Exists.intro ((v >>> ((nI 16) &&& 31)).toInt8.toInt32) (And.intro rfl ?_)
      obtain ⟨σ3, eσ3⟩ : ∃ zs, zs = (qx_wi σ2 198 (T.1 + 1) (((v >>> ((nI 16) &&& 31)).toInt8.toInt32).toInt8.toInt32)) := ⟨_, rfl⟩
      have fσ3 := qn_wi eσ3
      refine Or.inl (Exists.intro (T.1 + 1) (Exists.intro σ3 (And.intro rfl (And.intro ⟨400, rfl, by omega, by decide⟩ (And.intro eσ3.symm ?_)))))
      refine And.intro rfl (Exists.intro 1 (Exists.intro (nI (T.1 + 1)) (And.intro rfl (And.intro ((fσ3.i _ _ rfl).trans (qn_eq eσ2)) ?_))))
      refine Exists.intro (nI 1) (And.intro rfl ?_)
      refine Exists.intro (nI (T.1 + 1 + 1)) (And.intro (nI_add _ _) ?_)
      obtain ⟨σ4, eσ4⟩ : ∃ zs, zs = (qx_wi σ3 197 1 (nI (T.1 + 1 + 1))) := ⟨_, rfl⟩
      have fσ4 := qn_wif eσ4
      refine And.intro rfl (Exists.intro 1 (Exists.intro σ4 (And.intro rfl (And.intro eσ4.symm ?_))))
      refine Exists.intro (nI 8) (And.intro (by decide) ?_)
      refine And.intro (fun h4_2 => ?_) (fun h4_2 => ?_)
      · skip
        exact absurd h4_2 (by decide)
      · skip
        refine And.intro rfl (Exists.intro 198 (And.intro rfl ?_))
        refine And.intro rfl (Exists.intro 1 (Exists.intro (nI (T.1 + 1 + 1)) (And.intro rfl (And.intro (qn_eq eσ4) ?_))))
        refine Exists.intro (v >>> ((nI 8) &&& 31)) (And.intro rfl ?_)
        refine Exists.intro ((v >>> ((nI 8) &&& 31)).toInt8.toInt32) (And.intro rfl ?_)
        obtain ⟨σ5, eσ5⟩ : ∃ zs, zs = (qx_wi σ4 198 (T.1 + 1 + 1) (((v >>> ((nI 8) &&& 31)).toInt8.toInt32).toInt8.toInt32)) := ⟨_, rfl⟩
        have fσ5 := qn_wi eσ5
        refine Or.inl (Exists.intro (T.1 + 1 + 1) (Exists.intro σ5 (And.intro rfl (And.intro ⟨400, rfl, by omega, by decide⟩ (And.intro eσ5.symm ?_)))))
        refine And.intro rfl (Exists.intro 1 (Exists.intro (nI (T.1 + 1 + 1)) (And.intro rfl (And.intro ((fσ5.i _ _ rfl).trans (qn_eq eσ4)) ?_))))
        refine Exists.intro (nI 1) (And.intro rfl ?_)
        refine Exists.intro (nI (T.1 + 1 + 1 + 1)) (And.intro (nI_add _ _) ?_)
        obtain ⟨σ6, eσ6⟩ : ∃ zs, zs = (qx_wi σ5 197 1 (nI (T.1 + 1 + 1 + 1))) := ⟨_, rfl⟩
        have fσ6 := qn_wif eσ6
        refine And.intro rfl (Exists.intro 1 (Exists.intro σ6 (And.intro rfl (And.intro eσ6.symm ?_))))
        refine Exists.intro (nI 0) (And.intro (by decide) ?_)
        refine And.intro (fun h4_3 => ?_) (fun h4_3 => ?_)
        · skip
          exact absurd h4_3 (by decide)
        · skip
          refine And.intro rfl (Exists.intro 198 (And.intro rfl ?_))
          refine And.intro rfl (Exists.intro 1 (Exists.intro (nI (T.1 + 1 + 1 + 1)) (And.intro rfl (And.intro (qn_eq eσ6) ?_))))
          refine Exists.intro (v >>> ((nI 0) &&& 31)) (And.intro rfl ?_)
          refine Exists.intro ((v >>> ((nI 0) &&& 31)).toInt8.toInt32) (And.intro rfl ?_)
          obtain ⟨σ7, eσ7⟩ : ∃ zs, zs = (qx_wi σ6 198 (T.1 + 1 + 1 + 1) (((v >>> ((nI 0) &&& 31)).toInt8.toInt32).toInt8.toInt32)) := ⟨_, rfl⟩
          have fσ7 := qn_wi eσ7
          refine Or.inl (Exists.intro (T.1 + 1 + 1 + 1) (Exists.intro σ7 (And.intro rfl (And.intro ⟨400, rfl, by omega, by decide⟩ (And.intro eσ7.symm ?_)))))
          refine And.intro rfl (Exists.intro 1 (Exists.intro (nI (T.1 + 1 + 1 + 1)) (And.intro rfl (And.intro ((fσ7.i _ _ rfl).trans (qn_eq eσ6)) ?_))))
          refine Exists.intro (nI 1) (And.intro rfl ?_)
          refine Exists.intro (nI (T.1 + 1 + 1 + 1 + 1)) (And.intro (nI_add _ _) ?_)
          obtain ⟨σ8, eσ8⟩ : ∃ zs, zs = (qx_wi σ7 197 1 (nI (T.1 + 1 + 1 + 1 + 1))) := ⟨_, rfl⟩
          have fσ8 := qn_wif eσ8
          refine And.intro rfl (Exists.intro 1 (Exists.intro σ8 (And.intro rfl (And.intro eσ8.symm ?_))))
          refine Exists.intro (-8) (And.intro (by decide) ?_)
          refine And.intro (fun h4_4 => ?_) (fun h4_4 => ?_)
          · skip
            refine ⟨rfl, (fσ1.mn (m := lT) (by decide)).tr ((fσ2.mn (by decide)).tr ((fσ3.mn (by decide)).tr ((fσ4.mn (by decide)).tr ((fσ5.mn (by decide)).tr ((fσ6.mn (by decide)).tr ((fσ7.mn (by decide)).tr (fσ8.mn (by decide)))))))), ?_⟩
            have h1 := h.put (by omega) eσ1 eσ2
            have h2 := h1.put (show T.1 + 1 < 400 by omega) eσ3 eσ4
            have h3 := h2.put (show T.1 + 1 + 1 < 400 by omega) eσ5 eσ6
            exact h3.put (show T.1 + 1 + 1 + 1 < 400 by omega) eσ7 eσ8
          · skip
            exact absurd (by decide) h4_4
def q_f5 (T : q_T) (a b c d e : Int32) : q_T := q_f4 (q_f4 (q_f4 (q_f4 (q_f4 T a) b) c) d) e
theorem m_feed_ok {G : qx_G} {σ : qx_S} {T : q_T} (h : tR σ T) (hn : T.1 + 20 ≤ 400) (a b c d e : Int32) : qx_M G qc_T 1 YX12_feed [.ref 197, .int a, .int b, .int c, .int d, .int e] σ (fun r s => r = some (.int (nI (T.1 + 20))) ∧ ql lT σ s ∧ tR s (q_f5 T a b c d e)) := by
  refine qx_M_in rfl (Nat.le_of_ble_eq_true rfl) ?_
  refine qy_wp_ok (c := CX12_feed) (cuts := []) vX12_feed wX12_feed 2000 0 _ _ _ ?_
  refine And.intro rfl (Exists.intro 1 (Exists.intro (nI T.1) (And.intro rfl (And.intro h.1 ?_))))
  refine Exists.intro (nI 20) (And.intro rfl ?_)
  refine Exists.intro (nI (T.1 + 20)) (And.intro (nI_add _ _) ?_)
  refine Exists.intro (nI 400) (And.intro rfl ?_)
  refine And.intro (fun h10 => ?_) (fun h10 => ?_)
  · skip
    have h10 := nI_leT (a := T.1 + 20) (b := 400) (by omega) (by decide) h10
    refine And.intro rfl (Exists.intro _ (And.intro (by decide) (qx_M_mono (m_four h (by omega) a) ?_)))
    rintro _ σ1 ⟨rfl, fσ1, tσ1⟩
    refine And.intro rfl (Exists.intro _ (And.intro (by decide) (qx_M_mono (m_four tσ1 (show T.1 + 4 + 4 ≤ 400 by omega) b) ?_)))
    rintro _ σ2 ⟨rfl, fσ2, tσ2⟩
    refine And.intro rfl (Exists.intro _ (And.intro (by decide) (qx_M_mono (m_four tσ2 (show T.1 + 4 + 4 + 4 ≤ 400 by omega) c) ?_)))
    rintro _ σ3 ⟨rfl, fσ3, tσ3⟩
    refine And.intro rfl (Exists.intro _ (And.intro (by decide) (qx_M_mono (m_four tσ3 (show T.1 + 4 + 4 + 4 + 4 ≤ 400 by omega) d) ?_)))
    rintro _ σ4 ⟨rfl, fσ4, tσ4⟩
    refine And.intro rfl (Exists.intro _ (And.intro (by decide) (qx_M_mono (m_four tσ4 (show T.1 + 4 + 4 + 4 + 4 + 4 ≤ 400 by omega) e) ?_)))
    rintro _ σ5 ⟨rfl, fσ5, tσ5⟩
    refine And.intro rfl (Exists.intro 1 (Exists.intro (nI (T.1 + 20)) (And.intro rfl (And.intro tσ5.1 ?_))))
    exact ⟨rfl, fσ1.tr (fσ2.tr (fσ3.tr (fσ4.tr fσ5))), tσ5⟩
  · skip
    have h10 := nI_leF (a := T.1 + 20) (b := 400) (by omega) (by decide) h10
    exact absurd h10 (by omega)
theorem m_feed_no {G : qx_G} {σ : qx_S} {T : q_T} (h : tR σ T) (hn : 400 < T.1 + 20) (a b c d e : Int32) : qx_M G qc_T 1 YX12_feed [.ref 197, .int a, .int b, .int c, .int d, .int e] σ (qr (-1) σ) := by
  have h4 := h.2.1
  refine qx_M_in rfl (Nat.le_of_ble_eq_true rfl) ?_
  refine qy_wp_ok (c := CX12_feed) (cuts := []) vX12_feed wX12_feed 2000 0 _ _ _ ?_
  refine And.intro rfl (Exists.intro 1 (Exists.intro (nI T.1) (And.intro rfl (And.intro h.1 ?_))))
  refine Exists.intro (nI 20) (And.intro rfl ?_)
  refine Exists.intro (nI (T.1 + 20)) (And.intro (nI_add _ _) ?_)
  refine Exists.intro (nI 400) (And.intro rfl ?_)
  refine And.intro (fun h10 => ?_) (fun h10 => ?_)
  · skip
    have h10 := nI_leT (a := T.1 + 20) (b := 400) (by omega) (by decide) h10
    exact absurd h10 (by omega)
  · skip
    have h10 := nI_leF (a := T.1 + 20) (b := 400) (by omega) (by decide) h10
    refine Exists.intro ((-1)) (And.intro (by decide) ?_)
    exact ⟨rfl, rfl⟩
theorem m_end_ok {G : qx_G} {σ : qx_S} {T : q_T} (h : tR σ T) {n : Nat} (hn : n ≤ T.1) : qx_M G qc_T 0 YX12_end [.ref 197, .int (nI n)] σ (fun r s => r = some (.int (nI n)) ∧ ql lT σ s ∧ tR s (n, T.2)) := by
  have h4 := h.2.1
  refine qx_M_in rfl (Nat.le_of_ble_eq_true rfl) ?_
  refine qy_wp_ok (c := CX12_end) (cuts := []) vX12_end wX12_end 2000 0 _ _ _ ?_
  refine And.intro (fun h1 => ?_) (fun h1 => ?_)
  · skip
    have h1 := nI_ltT (a := n) (b := 0) (by omega) (by decide) h1
    exact absurd h1 (by omega)
  · skip
    have h1 := nI_ltF (a := n) (b := 0) (by omega) (by decide) h1
    refine And.intro rfl (Exists.intro 1 (Exists.intro (nI T.1) (And.intro rfl (And.intro h.1 ?_))))
    refine And.intro (fun h9 => ?_) (fun h9 => ?_)
    · skip
      have h9 := nI_leT (a := n) (b := T.1) (by omega) (by omega) h9
      obtain ⟨σ1, eσ1⟩ : ∃ zs, zs = (qx_wi σ 197 1 (nI n)) := ⟨_, rfl⟩
      have fσ1 := qn_wif eσ1
      refine And.intro rfl (Exists.intro 1 (Exists.intro σ1 (And.intro rfl (And.intro eσ1.symm ?_))))
      exact ⟨rfl, fσ1.mn (by decide), qn_eq eσ1, Nat.le_trans hn h4, fun k hk => ⟨(fσ1.i _ _ rfl).trans (h.2.2 k (Nat.lt_of_lt_of_le hk hn)).1, (h.2.2 k (Nat.lt_of_lt_of_le hk hn)).2⟩⟩
    · skip
      have h9 := nI_leF (a := n) (b := T.1) (by omega) (by omega) h9
      exact absurd h9 (by omega)
theorem m_end_no {G : qx_G} {σ : qx_S} {T : q_T} (h : tR σ T) {x : Int32} (hx : q_is x (T.1 + 1) = false) : qx_M G qc_T 0 YX12_end [.ref 197, .int x] σ (qr (-1) σ) := by
  have h4 := h.2.1
  refine qx_M_in rfl (Nat.le_of_ble_eq_true rfl) ?_
  refine qy_wp_ok (c := CX12_end) (cuts := [14]) vX12_end wX12_end 2000 0 _ _ _ ?_
  refine And.intro (fun h1 => ?_) (fun h1 => ?_)
  · skip
    refine Exists.intro ((-1)) (And.intro (by decide) ?_)
    exact ⟨rfl, rfl⟩
  · skip
    refine And.intro rfl (Exists.intro 1 (Exists.intro (nI T.1) (And.intro rfl (And.intro h.1 ?_))))
    refine And.intro (fun h9 => ?_) (fun h9 => ?_)
    · skip
      exfalso
      obtain ⟨k, hk, rfl⟩ := nI_of (x := x) h1
      have h9 := nI_leT hk (show T.1 < 2147483648 by omega) h9
      rw [q_is_ok (show k < T.1 + 1 by omega) (by omega)] at hx
      cases hx
    · skip
      refine Exists.intro ((-1)) (And.intro (by decide) ?_)
      exact ⟨rfl, rfl⟩
theorem m_fails {G : qx_G} {σ : qx_S} {k a : Nat} (h9 : qx_mi σ 197 9 = nI 0) : qx_M G qc_T 0 YX12_fails [.ref 197, .int (nI k), .int (nI a)] σ (fun r s => r = some (.int (bI false)) ∧ ql [(197, some 9)] σ s ∧ qx_mi s 197 9 = nI (1 + 8 * a + k)) := by
  refine qx_M_in rfl (Nat.le_of_ble_eq_true rfl) ?_
  refine qy_wp_ok (c := CX12_fails) (cuts := []) vX12_fails wX12_fails 2000 0 _ _ _ ?_
  refine And.intro rfl (Exists.intro 9 (Exists.intro (nI 0) (And.intro rfl (And.intro h9 ?_))))
  refine And.intro (fun h4 => ?_) (fun h4 => ?_)
  · skip
    exact absurd (by decide) h4
  · skip
    refine Exists.intro (nI 1) (And.intro rfl ?_)
    refine Exists.intro (nI 8) (And.intro rfl ?_)
    refine Exists.intro (nI (8 * a)) (And.intro (pk_mul _ _) ?_)
    refine Exists.intro (nI (1 + 8 * a)) (And.intro (nI_add _ _) ?_)
    refine Exists.intro (nI (1 + 8 * a + k)) (And.intro (nI_add _ _) ?_)
    obtain ⟨σ1, eσ1⟩ : ∃ zs, zs = (qx_wi σ 197 9 (nI (1 + 8 * a + k))) := ⟨_, rfl⟩
    have fσ1 := qn_wif eσ1
    refine And.intro rfl (Exists.intro 9 (Exists.intro σ1 (And.intro rfl (And.intro eσ1.symm ?_))))
    refine Exists.intro (nI 0) (And.intro rfl ?_)
    refine And.intro (Or.inl rfl) ?_
    exact ⟨rfl, fσ1, qn_eq eσ1⟩
theorem m_isDigit {G : qx_G} {σ : qx_S} {T : q_T} (h : tR σ T) {k : Nat} (hk : k ≤ 400) : qx_M G qc_T 0 YX12_isDigit [.ref 197, .int (nI k)] σ (qr (bI (isD T k)) σ) := by
  have h4 := h.2.1
  rcases Nat.lt_or_ge k T.1 with hlt | hge
  · obtain ⟨c1, c2⟩ := h.2.2 k hlt
    refine qx_M_in rfl (Nat.le_of_ble_eq_true rfl) ?_
    refine qy_wp_ok (c := CX12_isDigit) (cuts := []) vX12_isDigit wX12_isDigit 2000 0 _ _ _ ?_
    refine And.intro rfl (Exists.intro 1 (Exists.intro (nI T.1) (And.intro rfl (And.intro h.1 ?_))))
    refine And.intro (fun h5 => ?_) (fun h5 => ?_)
    · skip
      have h5 := nI_leT (a := T.1) (b := k) (by omega) (by omega) h5
      exact absurd h5 (by omega)
    · skip
      have h5 := nI_leF (a := T.1) (b := k) (by omega) (by omega) h5
      refine And.intro rfl (Exists.intro 198 (And.intro rfl ?_))
      refine Exists.intro (k) (Exists.intro (sx (T.2 k)) (And.intro rfl (And.intro (Or.inl ⟨400, rfl, by omega, by decide⟩) (And.intro c1 ?_))))
      refine Exists.intro (nI 48) (And.intro rfl ?_)
      refine And.intro (fun h16 => ?_) (fun h16 => ?_)
      · skip
        refine Exists.intro (nI 0) (And.intro rfl ?_)
        refine And.intro (Or.inl rfl) ?_
        first | (have a1 := (sx_ge c2 (by decide)).mp (Int32.not_lt.mp h16); have a2 := (sx_le c2 (by decide)).mp (Int32.not_lt.mp h27); exact ⟨congrArg (fun z => some (Value.int (bI z))) (decide_eq_true (p := k < T.1 ∧ 48 ≤ T.2 k ∧ T.2 k ≤ 57) (by omega)).symm, rfl⟩) | (have a1 := (sx_ge c2 (by decide)).mp (Int32.not_lt.mp h16); have a2 := fun z => (Int32.not_le.mpr h27) ((sx_le (c := 57) c2 (by decide)).mpr z); exact ⟨congrArg (fun z => some (Value.int (bI z))) (decide_eq_false (p := k < T.1 ∧ 48 ≤ T.2 k ∧ T.2 k ≤ 57) (fun z => a2 (Or.inl z.2.2))).symm, rfl⟩) | (have a1 := fun z => (Int32.not_le.mpr h16) ((sx_ge (c := 48) c2 (by decide)).mpr z); exact ⟨congrArg (fun z => some (Value.int (bI z))) (decide_eq_false (p := k < T.1 ∧ 48 ≤ T.2 k ∧ T.2 k ≤ 57) (fun z => a1 (by omega))).symm, rfl⟩)
      · skip
        refine And.intro rfl (Exists.intro 198 (And.intro rfl ?_))
        refine Exists.intro (k) (Exists.intro (sx (T.2 k)) (And.intro rfl (And.intro (Or.inl ⟨400, rfl, by omega, by decide⟩) (And.intro c1 ?_))))
        refine Exists.intro (nI 57) (And.intro rfl ?_)
        refine And.intro (fun h27 => ?_) (fun h27 => ?_)
        · skip
          refine Exists.intro (nI 0) (And.intro rfl ?_)
          refine And.intro (Or.inl rfl) ?_
          first | (have a1 := (sx_ge c2 (by decide)).mp (Int32.not_lt.mp h16); have a2 := (sx_le c2 (by decide)).mp (Int32.not_lt.mp h27); exact ⟨congrArg (fun z => some (Value.int (bI z))) (decide_eq_true (p := k < T.1 ∧ 48 ≤ T.2 k ∧ T.2 k ≤ 57) (by omega)).symm, rfl⟩) | (have a1 := (sx_ge c2 (by decide)).mp (Int32.not_lt.mp h16); have a2 := fun z => (Int32.not_le.mpr h27) ((sx_le (c := 57) c2 (by decide)).mpr z); exact ⟨congrArg (fun z => some (Value.int (bI z))) (decide_eq_false (p := k < T.1 ∧ 48 ≤ T.2 k ∧ T.2 k ≤ 57) (fun z => a2 (Or.inl z.2.2))).symm, rfl⟩) | (have a1 := fun z => (Int32.not_le.mpr h16) ((sx_ge (c := 48) c2 (by decide)).mpr z); exact ⟨congrArg (fun z => some (Value.int (bI z))) (decide_eq_false (p := k < T.1 ∧ 48 ≤ T.2 k ∧ T.2 k ≤ 57) (fun z => a1 (by omega))).symm, rfl⟩)
        · skip
          refine Exists.intro (nI 1) (And.intro rfl ?_)
          refine And.intro (Or.inr rfl) ?_
          first | (have a1 := (sx_ge c2 (by decide)).mp (Int32.not_lt.mp h16); have a2 := (sx_le c2 (by decide)).mp (Int32.not_lt.mp h27); exact ⟨congrArg (fun z => some (Value.int (bI z))) (decide_eq_true (p := k < T.1 ∧ 48 ≤ T.2 k ∧ T.2 k ≤ 57) (by omega)).symm, rfl⟩) | (have a1 := (sx_ge c2 (by decide)).mp (Int32.not_lt.mp h16); have a2 := fun z => (Int32.not_le.mpr h27) ((sx_le (c := 57) c2 (by decide)).mpr z); exact ⟨congrArg (fun z => some (Value.int (bI z))) (decide_eq_false (p := k < T.1 ∧ 48 ≤ T.2 k ∧ T.2 k ≤ 57) (fun z => a2 (Or.inl z.2.2))).symm, rfl⟩) | (have a1 := fun z => (Int32.not_le.mpr h16) ((sx_ge (c := 48) c2 (by decide)).mpr z); exact ⟨congrArg (fun z => some (Value.int (bI z))) (decide_eq_false (p := k < T.1 ∧ 48 ≤ T.2 k ∧ T.2 k ≤ 57) (fun z => a1 (by omega))).symm, rfl⟩)
  · have e : isD T k = false := decide_eq_false (fun z => by omega)
    rw [e]
    refine qx_M_in rfl (Nat.le_of_ble_eq_true rfl) ?_
    refine qy_wp_ok (c := CX12_isDigit) (cuts := []) vX12_isDigit wX12_isDigit 2000 0 _ _ _ ?_
    refine And.intro rfl (Exists.intro 1 (Exists.intro (nI T.1) (And.intro rfl (And.intro h.1 ?_))))
    refine And.intro (fun h5 => ?_) (fun h5 => ?_)
    · skip
      have h5 := nI_leT (a := T.1) (b := k) (by omega) (by omega) h5
      refine Exists.intro (nI 0) (And.intro rfl ?_)
      refine And.intro (Or.inl rfl) ?_
      exact ⟨rfl, rfl⟩
    · skip
      have h5 := nI_leF (a := T.1) (b := k) (by omega) (by omega) h5
      exact absurd h5 (by omega)
theorem m_isLetter {G : qx_G} {σ : qx_S} {T : q_T} (h : tR σ T) {k : Nat} (hk : k ≤ 400) : qx_M G qc_T 0 YX12_isLetter [.ref 197, .int (nI k)] σ (qr (bI (isL T k)) σ) := by
  have h4 := h.2.1
  rcases Nat.lt_or_ge k T.1 with hlt | hge
  · obtain ⟨c1, c2⟩ := h.2.2 k hlt
    refine qx_M_in rfl (Nat.le_of_ble_eq_true rfl) ?_
    refine qy_wp_ok (c := CX12_isLetter) (cuts := []) vX12_isLetter wX12_isLetter 2000 0 _ _ _ ?_
    refine And.intro rfl (Exists.intro 1 (Exists.intro (nI T.1) (And.intro rfl (And.intro h.1 ?_))))
    refine And.intro (fun h5 => ?_) (fun h5 => ?_)
    · skip
      have h5 := nI_leT (a := T.1) (b := k) (by omega) (by omega) h5
      exact absurd h5 (by omega)
    · skip
      have h5 := nI_leF (a := T.1) (b := k) (by omega) (by omega) h5
      refine And.intro rfl (Exists.intro 198 (And.intro rfl ?_))
      refine Exists.intro (k) (Exists.intro (sx (T.2 k)) (And.intro rfl (And.intro (Or.inl ⟨400, rfl, by omega, by decide⟩) (And.intro c1 ?_))))
      refine Exists.intro (nI 97) (And.intro rfl ?_)
      refine And.intro (fun h16 => ?_) (fun h16 => ?_)
      · skip
        refine Exists.intro (nI 0) (And.intro rfl ?_)
        refine And.intro (Or.inl rfl) ?_
        first | (have a1 := (sx_ge c2 (by decide)).mp (Int32.not_lt.mp h16); have a2 := (sx_le c2 (by decide)).mp (Int32.not_lt.mp h27); exact ⟨congrArg (fun z => some (Value.int (bI z))) (decide_eq_true (p := k < T.1 ∧ 97 ≤ T.2 k ∧ T.2 k ≤ 122) (by omega)).symm, rfl⟩) | (have a1 := (sx_ge c2 (by decide)).mp (Int32.not_lt.mp h16); have a2 := fun z => (Int32.not_le.mpr h27) ((sx_le (c := 122) c2 (by decide)).mpr z); exact ⟨congrArg (fun z => some (Value.int (bI z))) (decide_eq_false (p := k < T.1 ∧ 97 ≤ T.2 k ∧ T.2 k ≤ 122) (fun z => a2 (Or.inl z.2.2))).symm, rfl⟩) | (have a1 := fun z => (Int32.not_le.mpr h16) ((sx_ge (c := 97) c2 (by decide)).mpr z); exact ⟨congrArg (fun z => some (Value.int (bI z))) (decide_eq_false (p := k < T.1 ∧ 97 ≤ T.2 k ∧ T.2 k ≤ 122) (fun z => a1 (by omega))).symm, rfl⟩)
      · skip
        refine And.intro rfl (Exists.intro 198 (And.intro rfl ?_))
        refine Exists.intro (k) (Exists.intro (sx (T.2 k)) (And.intro rfl (And.intro (Or.inl ⟨400, rfl, by omega, by decide⟩) (And.intro c1 ?_))))
        refine Exists.intro (nI 122) (And.intro rfl ?_)
        refine And.intro (fun h27 => ?_) (fun h27 => ?_)
        · skip
          refine Exists.intro (nI 0) (And.intro rfl ?_)
          refine And.intro (Or.inl rfl) ?_
          first | (have a1 := (sx_ge c2 (by decide)).mp (Int32.not_lt.mp h16); have a2 := (sx_le c2 (by decide)).mp (Int32.not_lt.mp h27); exact ⟨congrArg (fun z => some (Value.int (bI z))) (decide_eq_true (p := k < T.1 ∧ 97 ≤ T.2 k ∧ T.2 k ≤ 122) (by omega)).symm, rfl⟩) | (have a1 := (sx_ge c2 (by decide)).mp (Int32.not_lt.mp h16); have a2 := fun z => (Int32.not_le.mpr h27) ((sx_le (c := 122) c2 (by decide)).mpr z); exact ⟨congrArg (fun z => some (Value.int (bI z))) (decide_eq_false (p := k < T.1 ∧ 97 ≤ T.2 k ∧ T.2 k ≤ 122) (fun z => a2 (Or.inl z.2.2))).symm, rfl⟩) | (have a1 := fun z => (Int32.not_le.mpr h16) ((sx_ge (c := 97) c2 (by decide)).mpr z); exact ⟨congrArg (fun z => some (Value.int (bI z))) (decide_eq_false (p := k < T.1 ∧ 97 ≤ T.2 k ∧ T.2 k ≤ 122) (fun z => a1 (by omega))).symm, rfl⟩)
        · skip
          refine Exists.intro (nI 1) (And.intro rfl ?_)
          refine And.intro (Or.inr rfl) ?_
          first | (have a1 := (sx_ge c2 (by decide)).mp (Int32.not_lt.mp h16); have a2 := (sx_le c2 (by decide)).mp (Int32.not_lt.mp h27); exact ⟨congrArg (fun z => some (Value.int (bI z))) (decide_eq_true (p := k < T.1 ∧ 97 ≤ T.2 k ∧ T.2 k ≤ 122) (by omega)).symm, rfl⟩) | (have a1 := (sx_ge c2 (by decide)).mp (Int32.not_lt.mp h16); have a2 := fun z => (Int32.not_le.mpr h27) ((sx_le (c := 122) c2 (by decide)).mpr z); exact ⟨congrArg (fun z => some (Value.int (bI z))) (decide_eq_false (p := k < T.1 ∧ 97 ≤ T.2 k ∧ T.2 k ≤ 122) (fun z => a2 (Or.inl z.2.2))).symm, rfl⟩) | (have a1 := fun z => (Int32.not_le.mpr h16) ((sx_ge (c := 97) c2 (by decide)).mpr z); exact ⟨congrArg (fun z => some (Value.int (bI z))) (decide_eq_false (p := k < T.1 ∧ 97 ≤ T.2 k ∧ T.2 k ≤ 122) (fun z => a1 (by omega))).symm, rfl⟩)
  · have e : isL T k = false := decide_eq_false (fun z => by omega)
    rw [e]
    refine qx_M_in rfl (Nat.le_of_ble_eq_true rfl) ?_
    refine qy_wp_ok (c := CX12_isLetter) (cuts := []) vX12_isLetter wX12_isLetter 2000 0 _ _ _ ?_
    refine And.intro rfl (Exists.intro 1 (Exists.intro (nI T.1) (And.intro rfl (And.intro h.1 ?_))))
    refine And.intro (fun h5 => ?_) (fun h5 => ?_)
    · skip
      have h5 := nI_leT (a := T.1) (b := k) (by omega) (by omega) h5
      refine Exists.intro (nI 0) (And.intro rfl ?_)
      refine And.intro (Or.inl rfl) ?_
      exact ⟨rfl, rfl⟩
    · skip
      have h5 := nI_leF (a := T.1) (b := k) (by omega) (by omega) h5
      exact absurd h5 (by omega)
theorem l_see {G : qx_G} {σ0 : qx_S} {T : q_T} (hT : tR σ0 T) : ∀ (m i : Nat) (σ : qx_S), m = T.1 - i → i ≤ T.1 → ql [(197, some 8)] σ0 σ → qx_mi σ 197 8 = nI i →
    qx_K G qc_T 0 RX12 YX12_see 0 [.ref 197] [] σ (fun r s => r = some (.int (q_see T (q_sk T i))) ∧ ql [(197, some 8)] σ0 s ∧ qx_mi s 197 8 = nI (q_sk T i)) := by
  have h4 := hT.2.1
  intro m
  induction m with
  | zero =>
    intro i σ hm hi hf hn8
    have t1 := (hT.fr hf rfl (fun _ => rfl)).1
    have e : q_sk T i = i := q_rn_f (decide_eq_false (fun z => by omega))
    rw [e]
    refine qy_wp_ok (c := CX12_see) (cuts := []) vX12_see wX12_see 2000 0 _ _ _ ?_
    refine And.intro rfl (Exists.intro 8 (Exists.intro (nI i) (And.intro rfl (And.intro hn8 ?_))))
    refine And.intro rfl (Exists.intro 1 (Exists.intro (nI T.1) (And.intro rfl (And.intro t1 ?_))))
    refine And.intro (fun h8 => ?_) (fun h8 => ?_)
    · skip
      have h8 := nI_leT (a := T.1) (b := i) (by omega) (by omega) h8
      refine And.intro rfl (Exists.intro 8 (Exists.intro (nI i) (And.intro rfl (And.intro hn8 ?_))))
      refine And.intro rfl (Exists.intro 1 (Exists.intro (nI T.1) (And.intro rfl (And.intro t1 ?_))))
      refine And.intro (fun h46 => ?_) (fun h46 => ?_)
      · skip
        have h46 := nI_leT (a := T.1) (b := i) (by omega) (by omega) h46
        refine Exists.intro ((-1)) (And.intro (by decide) ?_)
        exact ⟨congrArg (fun z => some (Value.int z)) (if_neg (by omega)).symm, hf, hn8⟩
      · skip
        have h46 := nI_leF (a := T.1) (b := i) (by omega) (by omega) h46
        exact absurd h46 (by omega)
    · skip
      have h8 := nI_leF (a := T.1) (b := i) (by omega) (by omega) h8
      exact absurd h8 (by omega)
  | succ m ih =>
    intro i σ hm hi hf hn8
    have ht := hT.fr hf rfl (fun _ => rfl)
    have t1 := ht.1
    have hlt : i < T.1 := by omega
    obtain ⟨c1, c2⟩ := ht.2.2 i hlt
    cases hb : isB T i with
    | true =>
      have hb2 := (of_decide_eq_true hb).2
      rw [show q_sk T i = q_sk T (i + 1) from q_rn_t hlt hb]
      have c1 : qx_mi σ 198 i = nI 32 := by rw [c1, hb2]; rfl
      refine qy_wp_ok (c := CX12_see) (cuts := [0]) vX12_see wX12_see 2000 0 _ _ _ ?_
      refine And.intro rfl (Exists.intro 8 (Exists.intro (nI i) (And.intro rfl (And.intro hn8 ?_))))
      refine And.intro rfl (Exists.intro 1 (Exists.intro (nI T.1) (And.intro rfl (And.intro t1 ?_))))
      refine And.intro (fun h8 => ?_) (fun h8 => ?_)
      · skip
        have h8 := nI_leT (a := T.1) (b := i) (by omega) (by omega) h8
        exact absurd h8 (by omega)
      · skip
        have h8 := nI_leF (a := T.1) (b := i) (by omega) (by omega) h8
        refine And.intro rfl (Exists.intro 198 (And.intro rfl ?_))
        refine And.intro rfl (Exists.intro 8 (Exists.intro (nI i) (And.intro rfl (And.intro hn8 ?_))))
        refine Exists.intro (i) (Exists.intro (nI 32) (And.intro rfl (And.intro (Or.inl ⟨400, rfl, by omega, by decide⟩) (And.intro c1 ?_))))
        refine Exists.intro (nI 32) (And.intro rfl ?_)
        refine And.intro (fun h22 => ?_) (fun h22 => ?_)
        · skip
          exact absurd (by decide) h22
        · skip
          refine And.intro rfl (Exists.intro 8 (Exists.intro (nI i) (And.intro rfl (And.intro hn8 ?_))))
          refine Exists.intro (nI 1) (And.intro rfl ?_)
          refine Exists.intro (nI (i + 1)) (And.intro (nI_add _ _) ?_)
          obtain ⟨σ1, eσ1⟩ : ∃ zs, zs = (qx_wi σ 197 8 (nI (i + 1))) := ⟨_, rfl⟩
          have fσ1 := qn_wif eσ1
          refine And.intro rfl (Exists.intro 8 (Exists.intro σ1 (And.intro rfl (And.intro eσ1.symm ?_))))
          exact ih (i + 1) _ (by omega) (by omega) (hf.tr fσ1) (qn_eq eσ1)
    | false =>
      have hb2 : ¬ T.2 i = 32 := fun z => by
        have : isB T i = true := decide_eq_true ⟨hlt, z⟩
        rw [this] at hb
        cases hb
      have e : q_sk T i = i := q_rn_f hb
      rw [e]
      refine qy_wp_ok (c := CX12_see) (cuts := []) vX12_see wX12_see 2000 0 _ _ _ ?_
      refine And.intro rfl (Exists.intro 8 (Exists.intro (nI i) (And.intro rfl (And.intro hn8 ?_))))
      refine And.intro rfl (Exists.intro 1 (Exists.intro (nI T.1) (And.intro rfl (And.intro t1 ?_))))
      refine And.intro (fun h8 => ?_) (fun h8 => ?_)
      · skip
        have h8 := nI_leT (a := T.1) (b := i) (by omega) (by omega) h8
        exact absurd h8 (by omega)
      · skip
        have h8 := nI_leF (a := T.1) (b := i) (by omega) (by omega) h8
        refine And.intro rfl (Exists.intro 198 (And.intro rfl ?_))
        refine And.intro rfl (Exists.intro 8 (Exists.intro (nI i) (And.intro rfl (And.intro hn8 ?_))))
        refine Exists.intro (i) (Exists.intro (sx (T.2 i)) (And.intro rfl (And.intro (Or.inl ⟨400, rfl, by omega, by decide⟩) (And.intro c1 ?_))))
        refine Exists.intro (nI 32) (And.intro rfl ?_)
        refine And.intro (fun h22 => ?_) (fun h22 => ?_)
        · skip
          refine And.intro rfl (Exists.intro 8 (Exists.intro (nI i) (And.intro rfl (And.intro hn8 ?_))))
          refine And.intro rfl (Exists.intro 1 (Exists.intro (nI T.1) (And.intro rfl (And.intro t1 ?_))))
          refine And.intro (fun h46 => ?_) (fun h46 => ?_)
          · skip
            have h46 := nI_leT (a := T.1) (b := i) (by omega) (by omega) h46
            exact absurd h46 (by omega)
          · skip
            have h46 := nI_leF (a := T.1) (b := i) (by omega) (by omega) h46
            refine And.intro rfl (Exists.intro 198 (And.intro rfl ?_))
            refine And.intro rfl (Exists.intro 8 (Exists.intro (nI i) (And.intro rfl (And.intro hn8 ?_))))
            refine Exists.intro (i) (Exists.intro (sx (T.2 i)) (And.intro rfl (And.intro (Or.inl ⟨400, rfl, by omega, by decide⟩) (And.intro c1 ?_))))
            refine Exists.intro (nI 255) (And.intro rfl ?_)
            refine Exists.intro (nI (T.2 i)) (And.intro (sx_and _ c2) ?_)
            exact ⟨congrArg (fun z => some (Value.int z)) (if_pos hlt).symm, hf, hn8⟩
        · skip
          exact absurd ((sx_eq c2 (by decide)).mp h22) hb2
theorem m_see {G : qx_G} {σ : qx_S} {T : q_T} {i : Nat} (hT : tR σ T) (hi : i ≤ T.1) (h8 : qx_mi σ 197 8 = nI i) : qx_M G qc_T 0 YX12_see [.ref 197] σ (fun r s => r = some (.int (q_see T (q_sk T i))) ∧ ql [(197, some 8)] σ s ∧ qx_mi s 197 8 = nI (q_sk T i)) := by
  refine qx_M_in rfl (Nat.le_of_ble_eq_true rfl) ?_
  exact l_see hT _ i σ rfl hi qf.rf h8
theorem lN_inj {a b : Nat} (ha : a < 9223372036854775808) (hb : b < 9223372036854775808) : lN a = lN b ↔ a = b := by
  constructor
  · intro h
    have h2 := congrArg Int64.toInt h
    rw [show (lN a).toInt = (a : Int) from lg_ofNat_toInt ha, show (lN b).toInt = (b : Int) from lg_ofNat_toInt hb] at h2
    omega
  · rintro rfl
    rfl
theorem lN_or (a b : Nat) : lN a ||| lN b = lN (a ||| b) := by
  apply Int64.toBitVec_inj.1
  show BitVec.ofNat 64 a ||| BitVec.ofNat 64 b = BitVec.ofNat 64 (a ||| b)
  apply BitVec.eq_of_getLsbD_eq
  intro i hi
  simp [hi]
theorem lN_sh8 (a : Nat) : lN a <<< ((nI 8).toInt64 &&& 63) = lN (256 * a) := by
  have e : ((nI 8).toInt64 &&& 63) = 8 := by decide
  rw [e]
  apply Int64.toBitVec_inj.1
  rw [Int64.toBitVec_shiftLeft]
  have e2 : (Int64.toBitVec 8).smod 64 = 8#64 := by decide
  rw [e2]
  show BitVec.ofNat 64 a <<< 8#64 = BitVec.ofNat 64 (256 * a)
  rw [BitVec.shiftLeft_eq']
  apply BitVec.eq_of_toNat_eq
  rw [BitVec.toNat_shiftLeft, BitVec.toNat_ofNat, BitVec.toNat_ofNat, show (8 : Nat) % 2 ^ 64 = 8 from rfl, Nat.shiftLeft_eq, BitVec.toNat_ofNat]
  omega
theorem q_or8 {a b : Nat} (h : b < 256) : 256 * a ||| b = 256 * a + b := by
  have := Nat.two_pow_add_eq_or_of_lt (i := 8) (b := b) h a
  exact this.symm
theorem q_pk_lt {T : q_T} (hb : ∀ k, k < T.1 → T.2 k < 256) {s : Nat} : ∀ k, s + k ≤ T.1 → q_pk T s k < 256 ^ k
  | 0, _ => by show 0 < 1; omega
  | k + 1, h => by
    have h1 := q_pk_lt hb (s := s) k (by omega)
    have h2 := hb (s + k) (by omega)
    show 256 * q_pk T s k + T.2 (s + k) < 256 ^ (k + 1)
    rw [Nat.pow_succ]
    omega
theorem q_pk_l {T : q_T} {s k : Nat} (hl : isL T (s + k) = true) : lN (q_pk T s k) <<< ((nI 8).toInt64 &&& 63) ||| (sx (T.2 (s + k))).toInt64 = lN (q_pk T s (k + 1)) := by
  have a := isL_lt hl
  rw [lN_sh8, sx_lo (by omega), show (nI (T.2 (s + k))).toInt64 = lN (T.2 (s + k)) from by
    apply Int64.toInt_inj.mp
    rw [Int32.toInt_toInt64, nI_toInt (by omega), lN_toInt (by omega)], lN_or, q_or8 (by omega)]
  rfl
theorem l_isWord {G : qx_G} {σ0 σ : qx_S} {T : q_T} (hT : tR σ T) {s w : Nat} (hs : s ≤ T.1) (hn8 : qx_mi σ 197 8 = nI s) (hw : w < 72057594037927936) : ∀ (m k : Nat), m = T.1 - (s + k) → s + k ≤ T.1 → (∀ j, j < k → isL T (s + j) = true) →
    qx_K G qc_T 1 RX12 YX12_isWord 10 [.ref 197, .long (lN w), .retAddr 0, .long (if k ≤ 8 then lN (q_pk T s k) else lN (q_pk T s 8)), .retAddr 0, .int (nI k)] [] σ (fun r s' => r = some (.int (bI (q_isw T s w))) ∧ σ = s') := by
  have h4 := hT.2.1
  intro m
  induction m using Nat.strongRecOn with
  | _ m ih =>
    intro k hm hk hl
    cases hL : isL T (s + k) with
    | true =>
      have a := isL_lt hL
      obtain ⟨c1, c2⟩ := hT.2.2 (s + k) a.1
      have nx := ih (T.1 - (s + (k + 1))) (by omega) (k + 1) rfl (by omega) (fun j hj => by
        rcases Nat.lt_or_ge j k with z | z
        · exact hl j z
        · obtain rfl : j = k := by omega
          exact hL)
      have pe := q_pk_l hL
      by_cases k8 : k < 8
      · rw [if_pos (by omega)] at nx ⊢
        refine qy_wp_ok (c := CX12_isWord) (cuts := [10]) vX12_isWord wX12_isWord 2000 10 _ _ _ ?_
        refine And.intro rfl (Exists.intro 8 (Exists.intro (nI s) (And.intro rfl (And.intro hn8 ?_))))
        refine Exists.intro (nI (s + k)) (And.intro (nI_add _ _) ?_)
        refine And.intro rfl (Exists.intro _ (And.intro (by decide) (qx_M_mono (m_isLetter hT (by omega)) ?_)))
        rintro _ _ ⟨rfl, rfl⟩
        refine And.intro (fun h21 => ?_) (fun h21 => ?_)
        · skip
          have h21 := bI_f h21
          exact absurd (h21.symm.trans (hL)) (by decide)
        · skip
          have h21 := bI_t h21
          refine Exists.intro (nI 8) (And.intro rfl ?_)
          refine And.intro (fun h28 => ?_) (fun h28 => ?_)
          · skip
            have h28 := nI_leT (a := 8) (b := k) (by decide) (by omega) h28
            exact absurd h28 (by omega)
          · skip
            have h28 := nI_leF (a := 8) (b := k) (by decide) (by omega) h28
            refine Exists.intro (nI 8) (And.intro rfl ?_)
            refine Exists.intro ((lN (q_pk T s k)) <<< ((nI 8).toInt64 &&& 63)) (And.intro rfl ?_)
            refine And.intro rfl (Exists.intro 198 (And.intro rfl ?_))
            refine And.intro rfl (Exists.intro 8 (Exists.intro (nI s) (And.intro rfl (And.intro hn8 ?_))))
            refine Exists.intro (nI (s + k)) (And.intro (nI_add _ _) ?_)
            refine Exists.intro (s + k) (Exists.intro (sx (T.2 (s + k))) (And.intro rfl (And.intro (Or.inl ⟨400, rfl, by omega, by decide⟩) (And.intro c1 ?_))))
            refine Exists.intro ((sx (T.2 (s + k))).toInt64) (And.intro rfl ?_)
            refine Exists.intro (lN (q_pk T s (k + 1))) (And.intro pe ?_)
            refine Exists.intro (nI (k + 1)) (And.intro (nI_add _ _) ?_)
            exact nx
      · rw [if_neg (by omega)] at nx
        have e : (if k ≤ 8 then lN (q_pk T s k) else lN (q_pk T s 8)) = lN (q_pk T s 8) := by
          by_cases z : k ≤ 8
          · rw [if_pos z, show k = 8 by omega]
          · exact if_neg z
        rw [e]
        refine qy_wp_ok (c := CX12_isWord) (cuts := [10]) vX12_isWord wX12_isWord 2000 10 _ _ _ ?_
        refine And.intro rfl (Exists.intro 8 (Exists.intro (nI s) (And.intro rfl (And.intro hn8 ?_))))
        refine Exists.intro (nI (s + k)) (And.intro (nI_add _ _) ?_)
        refine And.intro rfl (Exists.intro _ (And.intro (by decide) (qx_M_mono (m_isLetter hT (by omega)) ?_)))
        rintro _ _ ⟨rfl, rfl⟩
        refine And.intro (fun h21 => ?_) (fun h21 => ?_)
        · skip
          have h21 := bI_f h21
          exact absurd (h21.symm.trans (hL)) (by decide)
        · skip
          have h21 := bI_t h21
          refine Exists.intro (nI 8) (And.intro rfl ?_)
          refine And.intro (fun h28 => ?_) (fun h28 => ?_)
          · skip
            have h28 := nI_leT (a := 8) (b := k) (by decide) (by omega) h28
            refine Exists.intro (nI (k + 1)) (And.intro (nI_add _ _) ?_)
            exact nx
          · skip
            have h28 := nI_leF (a := 8) (b := k) (by decide) (by omega) h28
            exact absurd h28 (by omega)
    | false =>
      have ew : q_wn T s = k := by
        have g : s ≤ q_le T s := q_rn_ge (isL T) T.1 s
        have h1 : s + k ≤ q_le T s := by
          rcases Nat.lt_or_ge (q_le T s) (s + k) with z | z
          · have y := hl (q_le T s - s) (by omega)
            rw [show s + (q_le T s - s) = q_le T s by omega, q_rn_end (isL_n T) hs] at y
            cases y
          · exact z
        have h2 : q_le T s ≤ s + k := by
          rcases Nat.lt_or_ge (s + k) (q_le T s) with z | z
          · rw [q_rn_in (f := isL T) (n := T.1) (i := s) (by omega) z] at hL
            cases hL
          · exact z
        unfold q_wn
        omega
      have pl := q_pk_lt (fun k hk => (hT.2.2 k hk).2) k (s := s) hk
      have fin : 0 < k → k < 8 → (lN (q_pk T s k) = lN w ↔ q_isw T s w = true) := by
        intro h1 h2
        have p1 : (256 : Nat) ^ k ≤ 256 ^ 7 := Nat.pow_le_pow_right (by decide) (by omega)
        have p2 : (256 : Nat) ^ 7 = 72057594037927936 := by decide
        rw [lN_inj (by omega) (by omega)]
        unfold q_isw
        rw [ew, decide_eq_true_eq]
        exact ⟨fun z => ⟨h1, h2, z⟩, fun z => z.2.2⟩
      have no : ¬ (0 < k ∧ k < 8) → q_isw T s w = false := by
        intro z
        unfold q_isw
        rw [ew]
        exact decide_eq_false (fun y => z ⟨y.1, y.2.1⟩)
      by_cases k8 : k ≤ 8
      · rw [if_pos k8]
        refine qy_wp_ok (c := CX12_isWord) (cuts := [10]) vX12_isWord wX12_isWord 2000 10 _ _ _ ?_
        refine And.intro rfl (Exists.intro 8 (Exists.intro (nI s) (And.intro rfl (And.intro hn8 ?_))))
        refine Exists.intro (nI (s + k)) (And.intro (nI_add _ _) ?_)
        refine And.intro rfl (Exists.intro _ (And.intro (by decide) (qx_M_mono (m_isLetter hT (by omega)) ?_)))
        rintro _ _ ⟨rfl, rfl⟩
        refine And.intro (fun h21 => ?_) (fun h21 => ?_)
        · skip
          have h21 := bI_f h21
          refine And.intro (fun h58 => ?_) (fun h58 => ?_)
          · skip
            have h58 := nI_leT (a := k) (b := 0) (by omega) (by decide) h58
            refine Exists.intro (nI 0) (And.intro rfl ?_)
            refine And.intro (Or.inl rfl) ?_
            first | exact ⟨congrArg (fun z => some (Value.int (bI z))) ((fin (by omega) (by omega)).mp h71).symm, rfl⟩ | exact ⟨congrArg (fun z => some (Value.int (bI z))) (Bool.eq_false_iff.mpr (fun z => h71 ((fin (by omega) (by omega)).mpr z))).symm, rfl⟩ | exact ⟨congrArg (fun z => some (Value.int (bI z))) (no (by omega)).symm, rfl⟩
          · skip
            have h58 := nI_leF (a := k) (b := 0) (by omega) (by decide) h58
            refine Exists.intro (nI 8) (And.intro rfl ?_)
            refine And.intro (fun h65 => ?_) (fun h65 => ?_)
            · skip
              have h65 := nI_leT (a := 8) (b := k) (by decide) (by omega) h65
              refine Exists.intro (nI 0) (And.intro rfl ?_)
              refine And.intro (Or.inl rfl) ?_
              first | exact ⟨congrArg (fun z => some (Value.int (bI z))) ((fin (by omega) (by omega)).mp h71).symm, rfl⟩ | exact ⟨congrArg (fun z => some (Value.int (bI z))) (Bool.eq_false_iff.mpr (fun z => h71 ((fin (by omega) (by omega)).mpr z))).symm, rfl⟩ | exact ⟨congrArg (fun z => some (Value.int (bI z))) (no (by omega)).symm, rfl⟩
            · skip
              have h65 := nI_leF (a := 8) (b := k) (by decide) (by omega) h65
              refine Exists.intro (lg_cmp (lN (q_pk T s k)) (lN w)) (And.intro rfl ?_)
              refine And.intro (fun h71 => ?_) (fun h71 => ?_)
              · skip
                have h71 := fun z => h71 ((lg_cmp_eq _ _).mpr z)
                refine Exists.intro (nI 0) (And.intro rfl ?_)
                refine And.intro (Or.inl rfl) ?_
                first | exact ⟨congrArg (fun z => some (Value.int (bI z))) ((fin (by omega) (by omega)).mp h71).symm, rfl⟩ | exact ⟨congrArg (fun z => some (Value.int (bI z))) (Bool.eq_false_iff.mpr (fun z => h71 ((fin (by omega) (by omega)).mpr z))).symm, rfl⟩ | exact ⟨congrArg (fun z => some (Value.int (bI z))) (no (by omega)).symm, rfl⟩
              · skip
                have h71 := (lg_cmp_eq _ _).mp h71
                refine Exists.intro (nI 1) (And.intro rfl ?_)
                refine And.intro (Or.inr rfl) ?_
                first | exact ⟨congrArg (fun z => some (Value.int (bI z))) ((fin (by omega) (by omega)).mp h71).symm, rfl⟩ | exact ⟨congrArg (fun z => some (Value.int (bI z))) (Bool.eq_false_iff.mpr (fun z => h71 ((fin (by omega) (by omega)).mpr z))).symm, rfl⟩ | exact ⟨congrArg (fun z => some (Value.int (bI z))) (no (by omega)).symm, rfl⟩
        · skip
          have h21 := bI_t h21
          exact absurd (h21.symm.trans (hL)) (by decide)
      · rw [if_neg k8]
        refine qy_wp_ok (c := CX12_isWord) (cuts := [10]) vX12_isWord wX12_isWord 2000 10 _ _ _ ?_
        refine And.intro rfl (Exists.intro 8 (Exists.intro (nI s) (And.intro rfl (And.intro hn8 ?_))))
        refine Exists.intro (nI (s + k)) (And.intro (nI_add _ _) ?_)
        refine And.intro rfl (Exists.intro _ (And.intro (by decide) (qx_M_mono (m_isLetter hT (by omega)) ?_)))
        rintro _ _ ⟨rfl, rfl⟩
        refine And.intro (fun h21 => ?_) (fun h21 => ?_)
        · skip
          have h21 := bI_f h21
          refine And.intro (fun h58 => ?_) (fun h58 => ?_)
          · skip
            have h58 := nI_leT (a := k) (b := 0) (by omega) (by decide) h58
            refine Exists.intro (nI 0) (And.intro rfl ?_)
            refine And.intro (Or.inl rfl) ?_
            exact ⟨congrArg (fun z => some (Value.int (bI z))) (no (by omega)).symm, rfl⟩
          · skip
            have h58 := nI_leF (a := k) (b := 0) (by omega) (by decide) h58
            refine Exists.intro (nI 8) (And.intro rfl ?_)
            refine And.intro (fun h65 => ?_) (fun h65 => ?_)
            · skip
              have h65 := nI_leT (a := 8) (b := k) (by decide) (by omega) h65
              refine Exists.intro (nI 0) (And.intro rfl ?_)
              refine And.intro (Or.inl rfl) ?_
              exact ⟨congrArg (fun z => some (Value.int (bI z))) (no (by omega)).symm, rfl⟩
            · skip
              have h65 := nI_leF (a := 8) (b := k) (by decide) (by omega) h65
              exact absurd h65 (by omega)
        · skip
          have h21 := bI_t h21
          exact absurd (h21.symm.trans (hL)) (by decide)
theorem m_isWord {G : qx_G} {σ : qx_S} {T : q_T} {i w : Nat} (hT : tR σ T) (hi : i ≤ T.1) (h8 : qx_mi σ 197 8 = nI i) (hw : w < 72057594037927936) : qx_M G qc_T 1 YX12_isWord [.ref 197, .long (lN w)] σ (fun r s => r = some (.int (bI (q_isw T (q_sk T i) w))) ∧ ql [(197, some 8)] σ s ∧ qx_mi s 197 8 = nI (q_sk T i)) := by
  refine qx_M_in rfl (Nat.le_of_ble_eq_true rfl) ?_
  refine qy_wp_ok (c := CX12_isWord) (cuts := [10]) vX12_isWord wX12_isWord 2000 0 _ _ _ ?_
  refine And.intro rfl (Exists.intro _ (And.intro (by decide) (qx_M_mono (m_see hT hi h8) ?_)))
  rintro _ σ1 ⟨rfl, fσ1, gσ1⟩
  refine Exists.intro (lN 0) (And.intro rfl ?_)
  refine Exists.intro (nI 0) (And.intro rfl ?_)
  refine qx_K_mono (l_isWord (σ0 := σ) (hT.fr fσ1 rfl (fun _ => rfl)) (q_rn_le _ hi) gσ1 hw _ 0 rfl (show q_sk T i + 0 ≤ T.1 from q_rn_le _ hi) (fun j hj => absurd hj (by omega))) ?_
  rintro _ _ ⟨rfl, rfl⟩
  exact ⟨rfl, fσ1, gσ1⟩
theorem l_passWord {G : qx_G} {σ0 : qx_S} {T : q_T} (hT : tR σ0 T) : ∀ (m i : Nat) (σ : qx_S), m = T.1 - i → i ≤ T.1 → ql [(197, some 8)] σ0 σ → qx_mi σ 197 8 = nI i →
    qx_K G qc_T 1 RX12 YX12_passWord 0 [.ref 197] [] σ (fun r s => r = none ∧ ql [(197, some 8)] σ0 s ∧ qx_mi s 197 8 = nI (q_le T i)) := by
  have h4 := hT.2.1
  intro m
  induction m using Nat.strongRecOn with
  | _ m ih =>
    intro i σ hm hi hf hn8
    have ht := hT.fr hf rfl (fun _ => rfl)
    cases hL : isL T i with
    | true =>
      have a := isL_lt hL
      rw [show q_le T i = q_le T (i + 1) from q_rn_t a.1 hL]
      refine qy_wp_ok (c := CX12_passWord) (cuts := [0]) vX12_passWord wX12_passWord 2000 0 _ _ _ ?_
      refine And.intro rfl (Exists.intro 8 (Exists.intro (nI i) (And.intro rfl (And.intro hn8 ?_))))
      refine And.intro rfl (Exists.intro _ (And.intro (by decide) (qx_M_mono (m_isLetter ht (by omega)) ?_)))
      rintro _ _ ⟨rfl, rfl⟩
      refine And.intro (fun h8 => ?_) (fun h8 => ?_)
      · skip
        have h8 := bI_f h8
        exact absurd (h8.symm.trans (hL)) (by decide)
      · skip
        have h8 := bI_t h8
        refine And.intro rfl (Exists.intro 8 (Exists.intro (nI i) (And.intro rfl (And.intro hn8 ?_))))
        refine Exists.intro (nI 1) (And.intro rfl ?_)
        refine Exists.intro (nI (i + 1)) (And.intro (nI_add _ _) ?_)
        obtain ⟨σ1, eσ1⟩ : ∃ zs, zs = (qx_wi σ 197 8 (nI (i + 1))) := ⟨_, rfl⟩
        have fσ1 := qn_wif eσ1
        refine And.intro rfl (Exists.intro 8 (Exists.intro σ1 (And.intro rfl (And.intro eσ1.symm ?_))))
        exact ih _ (by omega) (i + 1) _ rfl (by omega) (hf.tr fσ1) (qn_eq eσ1)
    | false =>
      rw [show q_le T i = i from q_rn_f hL]
      refine qy_wp_ok (c := CX12_passWord) (cuts := [0]) vX12_passWord wX12_passWord 2000 0 _ _ _ ?_
      refine And.intro rfl (Exists.intro 8 (Exists.intro (nI i) (And.intro rfl (And.intro hn8 ?_))))
      refine And.intro rfl (Exists.intro _ (And.intro (by decide) (qx_M_mono (m_isLetter ht (by omega)) ?_)))
      rintro _ _ ⟨rfl, rfl⟩
      refine And.intro (fun h8 => ?_) (fun h8 => ?_)
      · skip
        have h8 := bI_f h8
        exact ⟨rfl, hf, hn8⟩
      · skip
        have h8 := bI_t h8
        exact absurd (h8.symm.trans (hL)) (by decide)
theorem m_passWord {G : qx_G} {σ : qx_S} {T : q_T} {i : Nat} (hT : tR σ T) (hi : i ≤ T.1) (h8 : qx_mi σ 197 8 = nI i) : qx_M G qc_T 1 YX12_passWord [.ref 197] σ (fun r s => r = none ∧ ql [(197, some 8)] σ s ∧ qx_mi s 197 8 = nI (q_le T i)) := by
  refine qx_M_in rfl (Nat.le_of_ble_eq_true rfl) ?_
  exact l_passWord hT _ i σ rfl hi qf.rf h8
theorem m_takesWord {G : qx_G} {σ : qx_S} {T : q_T} {i w : Nat} (hT : tR σ T) (hi : i ≤ T.1) (h8 : qx_mi σ 197 8 = nI i) (hw : w < 72057594037927936) : qx_M G qc_T 2 YX12_takesWord [.ref 197, .long (lN w)] σ (fun r s => r = some (.int (bI (q_isw T (q_sk T i) w))) ∧ ql [(197, some 8)] σ s ∧ qx_mi s 197 8 = nI (if q_isw T (q_sk T i) w = true then q_le T (q_sk T i) else q_sk T i)) := by
  refine qx_M_in rfl (Nat.le_of_ble_eq_true rfl) ?_
  refine qy_wp_ok (c := CX12_takesWord) (cuts := []) vX12_takesWord wX12_takesWord 2000 0 _ _ _ ?_
  refine And.intro rfl (Exists.intro _ (And.intro (by decide) (qx_M_mono (m_isWord hT hi h8 hw) ?_)))
  rintro _ σ1 ⟨rfl, fσ1, gσ1⟩
  refine And.intro (fun h5 => ?_) (fun h5 => ?_)
  · skip
    have h5 := bI_t h5
    refine And.intro rfl (Exists.intro _ (And.intro (by decide) (qx_M_mono (m_passWord (hT.fr fσ1 rfl (fun _ => rfl)) (q_rn_le _ hi) gσ1) ?_)))
    rintro _ σ2 ⟨rfl, fσ2, gσ2⟩
    refine Exists.intro (nI 1) (And.intro rfl ?_)
    refine And.intro (Or.inr rfl) ?_
    exact ⟨congrArg (fun z => some (Value.int (bI z))) h5.symm, fσ1.tr fσ2, by rw [if_pos h5]; exact gσ2⟩
  · skip
    have h5 := bI_f h5
    refine Exists.intro (nI 0) (And.intro rfl ?_)
    refine And.intro (Or.inl rfl) ?_
    exact ⟨congrArg (fun z => some (Value.int (bI z))) h5.symm, fσ1, by rw [if_neg (by rw [h5]; decide)]; exact gσ1⟩
theorem l_num {G : qx_G} {Φ : qx_F} {σ0 : qx_S} {T : q_T} (hT : tR σ0 T) {s : Nat} {lo hi : Int32} (hs : s ≤ T.1) (hc : ∀ σ', ql [(197, some 8)] σ0 σ' → qx_mi σ' 197 8 = nI (q_de T s) → qx_K G qc_T 1 RX12 YX12_numberHere 88 [.ref 197, .int lo, .int hi, .int (nI s), .int (nI (q_nu T s))] [] σ' Φ) : ∀ (m k : Nat) (σ : qx_S), m = T.1 - (s + k) → s + k ≤ T.1 → (∀ j, j < k → isD T (s + j) = true) → ql [(197, some 8)] σ0 σ → qx_mi σ 197 8 = nI (s + k) →
    qx_K G qc_T 1 RX12 YX12_numberHere 34 [.ref 197, .int lo, .int hi, .int (nI s), .int (nI (q_dv T s (min 5 k)))] [] σ Φ := by
  have h4 := hT.2.1
  intro m
  induction m using Nat.strongRecOn with
  | _ m ih =>
    intro k σ hm hk hl hf hn8
    have ht := hT.fr hf rfl (fun _ => rfl)
    cases hD : isD T (s + k) with
    | true =>
      have a := isD_lt hD
      obtain ⟨c1, c2⟩ := ht.2.2 (s + k) a.1
      rw [sx_lo (by omega)] at c1
      have all : ∀ j, j < k + 1 → isD T (s + j) = true := fun j hj => by
        rcases Nat.lt_or_ge j k with z | z
        · exact hl j z
        · obtain rfl : j = k := by omega
          exact hD
      by_cases k5 : k < 5
      · have nx := fun σ' f e => ih (T.1 - (s + (k + 1))) (by omega) (k + 1) σ' rfl (by omega) all f e
        rw [show min 5 (k + 1) = k + 1 by omega] at nx
        rw [show min 5 k = k by omega]
        refine qy_wp_ok (c := CX12_numberHere) (cuts := [34, 88]) vX12_numberHere wX12_numberHere 2000 34 _ _ _ ?_
        refine And.intro rfl (Exists.intro 8 (Exists.intro (nI (s + k)) (And.intro rfl (And.intro hn8 ?_))))
        refine And.intro rfl (Exists.intro _ (And.intro (by decide) (qx_M_mono (m_isDigit ht (by omega)) ?_)))
        rintro _ _ ⟨rfl, rfl⟩
        refine And.intro (fun h42 => ?_) (fun h42 => ?_)
        · skip
          have h42 := bI_f h42
          exact absurd (h42.symm.trans (hD)) (by decide)
        · skip
          have h42 := bI_t h42
          refine And.intro rfl (Exists.intro 8 (Exists.intro (nI (s + k)) (And.intro rfl (And.intro hn8 ?_))))
          refine Exists.intro (nI k) (And.intro ((nI_sub (by omega)).trans (congrArg nI (by omega))) ?_)
          refine Exists.intro (nI 5) (And.intro rfl ?_)
          refine And.intro (fun h52 => ?_) (fun h52 => ?_)
          · skip
            have h52 := nI_leT (a := 5) (b := k) (by decide) (by omega) h52
            exact absurd h52 (by omega)
          · skip
            have h52 := nI_leF (a := 5) (b := k) (by decide) (by omega) h52
            refine Exists.intro (nI 10) (And.intro rfl ?_)
            refine Exists.intro (nI (10 * (q_dv T s k))) (And.intro (pk_mul _ _) ?_)
            refine And.intro rfl (Exists.intro 198 (And.intro rfl ?_))
            refine And.intro rfl (Exists.intro 8 (Exists.intro (nI (s + k)) (And.intro rfl (And.intro hn8 ?_))))
            refine Exists.intro (s + k) (Exists.intro (nI (T.2 (s + k))) (And.intro rfl (And.intro (Or.inl ⟨400, rfl, by omega, by decide⟩) (And.intro c1 ?_))))
            refine Exists.intro (nI (10 * (q_dv T s k) + (T.2 (s + k)))) (And.intro (nI_add _ _) ?_)
            refine Exists.intro (nI 48) (And.intro rfl ?_)
            refine Exists.intro (nI (q_dv T s (k + 1))) (And.intro ((nI_sub (a := 10 * q_dv T s k + T.2 (s + k)) (b := 48) (by omega)).trans (congrArg nI (show 10 * q_dv T s k + T.2 (s + k) - 48 = 10 * q_dv T s k + (T.2 (s + k) - 48) by omega))) ?_)
            refine And.intro rfl (Exists.intro 8 (Exists.intro (nI (s + k)) (And.intro rfl (And.intro hn8 ?_))))
            refine Exists.intro (nI 1) (And.intro rfl ?_)
            refine Exists.intro (nI (s + k + 1)) (And.intro (nI_add _ _) ?_)
            obtain ⟨σ1, eσ1⟩ : ∃ zs, zs = (qx_wi σ 197 8 (nI (s + k + 1))) := ⟨_, rfl⟩
            have fσ1 := qn_wif eσ1
            refine And.intro rfl (Exists.intro 8 (Exists.intro σ1 (And.intro rfl (And.intro eσ1.symm ?_))))
            exact nx _ (hf.tr fσ1) (qn_eq eσ1)
      · have nx := fun σ' f e => ih (T.1 - (s + (k + 1))) (by omega) (k + 1) σ' rfl (by omega) all f e
        rw [show min 5 (k + 1) = 5 by omega] at nx
        rw [show min 5 k = 5 by omega]
        refine qy_wp_ok (c := CX12_numberHere) (cuts := [34, 88]) vX12_numberHere wX12_numberHere 2000 34 _ _ _ ?_
        refine And.intro rfl (Exists.intro 8 (Exists.intro (nI (s + k)) (And.intro rfl (And.intro hn8 ?_))))
        refine And.intro rfl (Exists.intro _ (And.intro (by decide) (qx_M_mono (m_isDigit ht (by omega)) ?_)))
        rintro _ _ ⟨rfl, rfl⟩
        refine And.intro (fun h42 => ?_) (fun h42 => ?_)
        · skip
          have h42 := bI_f h42
          exact absurd (h42.symm.trans (hD)) (by decide)
        · skip
          have h42 := bI_t h42
          refine And.intro rfl (Exists.intro 8 (Exists.intro (nI (s + k)) (And.intro rfl (And.intro hn8 ?_))))
          refine Exists.intro (nI k) (And.intro ((nI_sub (by omega)).trans (congrArg nI (by omega))) ?_)
          refine Exists.intro (nI 5) (And.intro rfl ?_)
          refine And.intro (fun h52 => ?_) (fun h52 => ?_)
          · skip
            have h52 := nI_leT (a := 5) (b := k) (by decide) (by omega) h52
            refine And.intro rfl (Exists.intro 8 (Exists.intro (nI (s + k)) (And.intro rfl (And.intro hn8 ?_))))
            refine Exists.intro (nI 1) (And.intro rfl ?_)
            refine Exists.intro (nI (s + k + 1)) (And.intro (nI_add _ _) ?_)
            obtain ⟨σ1, eσ1⟩ : ∃ zs, zs = (qx_wi σ 197 8 (nI (s + k + 1))) := ⟨_, rfl⟩
            have fσ1 := qn_wif eσ1
            refine And.intro rfl (Exists.intro 8 (Exists.intro σ1 (And.intro rfl (And.intro eσ1.symm ?_))))
            exact nx _ (hf.tr fσ1) (qn_eq eσ1)
          · skip
            have h52 := nI_leF (a := 5) (b := k) (by decide) (by omega) h52
            exact absurd h52 (by omega)
    | false =>
      have g : s ≤ q_de T s := q_rn_ge (isD T) T.1 s
      have ew : q_de T s = s + k := by
        have h1 : s + k ≤ q_de T s := by
          rcases Nat.lt_or_ge (q_de T s) (s + k) with z | z
          · have y := hl (q_de T s - s) (by omega)
            rw [show s + (q_de T s - s) = q_de T s by omega, q_rn_end (isD_n T) hs] at y
            cases y
          · exact z
        have h2 : q_de T s ≤ s + k := by
          rcases Nat.lt_or_ge (s + k) (q_de T s) with z | z
          · rw [q_rn_in (f := isD T) (n := T.1) (i := s) (by omega) z] at hD
            cases hD
          · exact z
        omega
      have en : q_dv T s (min 5 k) = q_nu T s := by
        unfold q_nu
        rw [ew, show s + k - s = k by omega]
      rw [en]
      refine qy_wp_ok (c := CX12_numberHere) (cuts := [34, 88]) vX12_numberHere wX12_numberHere 2000 34 _ _ _ ?_
      refine And.intro rfl (Exists.intro 8 (Exists.intro (nI (s + k)) (And.intro rfl (And.intro hn8 ?_))))
      refine And.intro rfl (Exists.intro _ (And.intro (by decide) (qx_M_mono (m_isDigit ht (by omega)) ?_)))
      rintro _ _ ⟨rfl, rfl⟩
      refine And.intro (fun h42 => ?_) (fun h42 => ?_)
      · skip
        have h42 := bI_f h42
        exact hc _ hf (by rw [ew]; exact hn8)
      · skip
        have h42 := bI_t h42
        exact absurd (h42.symm.trans (hD)) (by decide)
theorem q_dv_lt {T : q_T} {s : Nat} : ∀ k, (∀ j, j < k → isD T (s + j) = true) → q_dv T s k < 10 ^ k
  | 0, _ => by show 0 < 1; omega
  | k + 1, h => by
    have h1 := q_dv_lt k (fun j hj => h j (by omega))
    have h2 := isD_lt (h k (by omega))
    show 10 * q_dv T s k + (T.2 (s + k) - 48) < 10 ^ (k + 1)
    rw [Nat.pow_succ]
    omega
theorem q_nu_lt (T : q_T) (s : Nat) : q_nu T s < 100000 := by
  unfold q_nu
  have h := q_dv_lt (T := T) (s := s) (min 5 (q_de T s - s)) (fun j hj => q_rn_in (f := isD T) (n := T.1) (i := s) (by omega) (show s + j < q_de T s by omega))
  exact Nat.lt_of_lt_of_le h (Nat.pow_le_pow_right (n := 10) (by decide) (Nat.min_le_left _ _))
/-- a number is asked for: the fault, or none -/
def q_nf1 (T : q_T) (s : Nat) (lo hi : Int32) : Option Nat :=
  if isD T s = true then (if q_de T s - s ≤ 5 ∧ lo ≤ nI (q_nu T s) ∧ nI (q_nu T s) ≤ hi then none else some (1 + 8 * s + 1)) else some (1 + 8 * s + 0)
abbrev lN1 : List (Nat × Option Nat) := [(197, some 8), (197, some 9), (197, some 10)]
theorem q_in_i (v : Nat) (lo hi : Int32) : q_in64 (nI v).toInt64 lo.toInt64 hi.toInt64 = decide (lo ≤ nI v ∧ nI v ≤ hi) := by
  unfold q_in64
  have e1 : lo.toInt64 ≤ (nI v).toInt64 ↔ lo ≤ nI v := by
    rw [Int64.le_iff_toInt_le, Int32.le_iff_toInt_le, Int32.toInt_toInt64, Int32.toInt_toInt64]
  have e2 : (nI v).toInt64 ≤ hi.toInt64 ↔ nI v ≤ hi := by
    rw [Int64.le_iff_toInt_le, Int32.le_iff_toInt_le, Int32.toInt_toInt64, Int32.toInt_toInt64]
  rw [decide_eq_decide.mpr e1, decide_eq_decide.mpr e2, Bool.decide_and]
theorem m_numberHere {G : qx_G} {σ : qx_S} {T : q_T} {i : Nat} {lo hi : Int32} (hT : tR σ T) (hi0 : i ≤ T.1) (hn8 : qx_mi σ 197 8 = nI i) (hn9 : qx_mi σ 197 9 = nI 0) : qx_M G qc_T 1 YX12_numberHere [.ref 197, .int lo, .int hi] σ (fun r s => r = some (.int (bI (q_nf1 T (q_sk T i) lo hi).isNone)) ∧ ql lN1 σ s ∧ (∀ f, q_nf1 T (q_sk T i) lo hi = some f → qx_mi s 197 9 = nI f) ∧ (q_nf1 T (q_sk T i) lo hi = none → qx_mi s 197 9 = nI 0 ∧ qx_mi s 197 8 = nI (q_de T (q_sk T i)) ∧ qx_mi s 197 10 = nI (q_nu T (q_sk T i)))) := by
  have h4 := hT.2.1
  have hs : q_sk T i ≤ T.1 := q_rn_le _ hi0
  have hv := q_nu_lt T (q_sk T i)
  have hde : q_de T (q_sk T i) ≤ T.1 := q_rn_le _ hs
  have hge : q_sk T i ≤ q_de T (q_sk T i) := q_rn_ge _ _ _
  have key : ∀ σ1, ql [(197, some 8)] σ σ1 → isD T (q_sk T i) = true → ∀ σ', ql [(197, some 8)] σ1 σ' → qx_mi σ' 197 8 = nI (q_de T (q_sk T i)) → qx_K G qc_T 1 RX12 YX12_numberHere 88 [.ref 197, .int lo, .int hi, .int (nI (q_sk T i)), .int (nI (q_nu T (q_sk T i)))] [] σ' (fun r s => r = some (.int (bI (q_nf1 T (q_sk T i) lo hi).isNone)) ∧ ql lN1 σ s ∧ (∀ f, q_nf1 T (q_sk T i) lo hi = some f → qx_mi s 197 9 = nI f) ∧ (q_nf1 T (q_sk T i) lo hi = none → qx_mi s 197 9 = nI 0 ∧ qx_mi s 197 8 = nI (q_de T (q_sk T i)) ∧ qx_mi s 197 10 = nI (q_nu T (q_sk T i)))) := by
    intro σa fa hD σb fb e8
    have e9 : qx_mi σb 197 9 = nI 0 := (fb.i _ _ rfl).trans ((fa.i _ _ rfl).trans hn9)
    have base : ql lN1 σ σb := (fa.mn (by decide)).tr (fb.mn (by decide))
    have bad : ¬ (q_de T (q_sk T i) - q_sk T i ≤ 5 ∧ lo ≤ nI (q_nu T (q_sk T i)) ∧ nI (q_nu T (q_sk T i)) ≤ hi) → q_nf1 T (q_sk T i) lo hi = some (1 + 8 * q_sk T i + 1) := by
      intro z
      unfold q_nf1
      rw [if_pos hD, if_neg z]
    have good : (q_de T (q_sk T i) - q_sk T i ≤ 5 ∧ lo ≤ nI (q_nu T (q_sk T i)) ∧ nI (q_nu T (q_sk T i)) ≤ hi) → q_nf1 T (q_sk T i) lo hi = none := by
      intro z
      unfold q_nf1
      rw [if_pos hD, if_pos z]
    refine qy_wp_ok (c := CX12_numberHere) (cuts := [88]) vX12_numberHere wX12_numberHere 2000 88 _ _ _ ?_
    obtain ⟨σ1, eσ1⟩ : ∃ zs, zs = (qx_wi σb 197 10 (nI (q_nu T (q_sk T i)))) := ⟨_, rfl⟩
    have fσ1 := qn_wif eσ1
    refine And.intro rfl (Exists.intro 10 (Exists.intro σ1 (And.intro rfl (And.intro eσ1.symm ?_))))
    refine And.intro rfl (Exists.intro 8 (Exists.intro (nI (q_de T (q_sk T i))) (And.intro rfl (And.intro ((qn_ne eσ1 (Or.inr (by decide))).trans (e8)) ?_))))
    refine Exists.intro (nI ((q_de T (q_sk T i)) - (q_sk T i))) (And.intro (nI_sub (by omega)) ?_)
    refine Exists.intro (nI 5) (And.intro rfl ?_)
    refine And.intro (fun h101 => ?_) (fun h101 => ?_)
    · skip
      have h101 := nI_ltT (a := 5) (b := (q_de T (q_sk T i)) - (q_sk T i)) (by decide) (by omega) h101
      refine Exists.intro (nI 1) (And.intro rfl ?_)
      refine And.intro rfl (Exists.intro _ (And.intro (by decide) (qx_M_mono (m_fails ((fσ1.i _ _ rfl).trans e9)) ?_)))
      rintro _ σ2 ⟨rfl, fσ2, gσ2⟩
      refine And.intro (fun h123 => ?_) (fun h123 => ?_)
      · skip
        have h123 := bI_f h123
        refine Exists.intro (nI 0) (And.intro rfl ?_)
        refine And.intro (Or.inl rfl) ?_
        first | (have b1 := bad (fun z => of_decide_eq_false ((q_in_i _ _ _).symm.trans h114) z.2); rw [b1]; exact ⟨rfl, base.tr ((fσ1.mn (by decide)).tr (fσ2.mn (by decide))), fun f e => (by cases e; exact gσ2), fun e => (by cases e)⟩) | (have b1 := bad (by omega); rw [b1]; exact ⟨rfl, base.tr ((fσ1.mn (by decide)).tr (fσ2.mn (by decide))), fun f e => (by cases e; exact gσ2), fun e => (by cases e)⟩) | (have b1 := good ⟨by omega, of_decide_eq_true ((q_in_i _ _ _).symm.trans h114)⟩; rw [b1]; exact ⟨rfl, base.tr (fσ1.mn (by decide)), fun f e => (by cases e), fun _ => ⟨(fσ1.i _ _ rfl).trans e9, (fσ1.i _ _ rfl).trans e8, qn_eq eσ1⟩⟩)
      · skip
        have h123 := bI_t h123
        exact absurd h123 (by decide)
    · skip
      have h101 := nI_ltF (a := 5) (b := (q_de T (q_sk T i)) - (q_sk T i)) (by decide) (by omega) h101
      refine Exists.intro ((nI (q_nu T (q_sk T i))).toInt64) (And.intro rfl ?_)
      refine Exists.intro lo.toInt64 (And.intro rfl ?_)
      refine Exists.intro hi.toInt64 (And.intro rfl ?_)
      refine Exists.intro _ (And.intro (by decide) (qx_M_mono (m_in) ?_))
      rintro _ _ ⟨rfl, rfl⟩
      refine And.intro (fun h114 => ?_) (fun h114 => ?_)
      · skip
        have h114 := bI_t h114
        refine Exists.intro (nI 1) (And.intro rfl ?_)
        refine And.intro (Or.inr rfl) ?_
        first | (have b1 := bad (fun z => of_decide_eq_false ((q_in_i _ _ _).symm.trans h114) z.2); rw [b1]; exact ⟨rfl, base.tr ((fσ1.mn (by decide)).tr (fσ2.mn (by decide))), fun f e => (by cases e; exact gσ2), fun e => (by cases e)⟩) | (have b1 := bad (by omega); rw [b1]; exact ⟨rfl, base.tr ((fσ1.mn (by decide)).tr (fσ2.mn (by decide))), fun f e => (by cases e; exact gσ2), fun e => (by cases e)⟩) | (have b1 := good ⟨by omega, of_decide_eq_true ((q_in_i _ _ _).symm.trans h114)⟩; rw [b1]; exact ⟨rfl, base.tr (fσ1.mn (by decide)), fun f e => (by cases e), fun _ => ⟨(fσ1.i _ _ rfl).trans e9, (fσ1.i _ _ rfl).trans e8, qn_eq eσ1⟩⟩)
      · skip
        have h114 := bI_f h114
        refine Exists.intro (nI 1) (And.intro rfl ?_)
        refine And.intro rfl (Exists.intro _ (And.intro (by decide) (qx_M_mono (m_fails ((fσ1.i _ _ rfl).trans e9)) ?_)))
        rintro _ σ2 ⟨rfl, fσ2, gσ2⟩
        refine And.intro (fun h123 => ?_) (fun h123 => ?_)
        · skip
          have h123 := bI_f h123
          refine Exists.intro (nI 0) (And.intro rfl ?_)
          refine And.intro (Or.inl rfl) ?_
          first | (have b1 := bad (fun z => of_decide_eq_false ((q_in_i _ _ _).symm.trans h114) z.2); rw [b1]; exact ⟨rfl, base.tr ((fσ1.mn (by decide)).tr (fσ2.mn (by decide))), fun f e => (by cases e; exact gσ2), fun e => (by cases e)⟩) | (have b1 := bad (by omega); rw [b1]; exact ⟨rfl, base.tr ((fσ1.mn (by decide)).tr (fσ2.mn (by decide))), fun f e => (by cases e; exact gσ2), fun e => (by cases e)⟩) | (have b1 := good ⟨by omega, of_decide_eq_true ((q_in_i _ _ _).symm.trans h114)⟩; rw [b1]; exact ⟨rfl, base.tr (fσ1.mn (by decide)), fun f e => (by cases e), fun _ => ⟨(fσ1.i _ _ rfl).trans e9, (fσ1.i _ _ rfl).trans e8, qn_eq eσ1⟩⟩)
        · skip
          have h123 := bI_t h123
          exact absurd h123 (by decide)
  refine qx_M_in rfl (Nat.le_of_ble_eq_true rfl) ?_
  refine qy_wp_ok (c := CX12_numberHere) (cuts := [34]) vX12_numberHere wX12_numberHere 2000 0 _ _ _ ?_
  refine And.intro rfl (Exists.intro _ (And.intro (by decide) (qx_M_mono (m_see hT hi0 hn8) ?_)))
  rintro _ σ1 ⟨rfl, fσ1, gσ1⟩
  refine And.intro rfl (Exists.intro 8 (Exists.intro (nI (q_sk T i)) (And.intro rfl (And.intro gσ1 ?_))))
  refine And.intro rfl (Exists.intro _ (And.intro (by decide) (qx_M_mono (m_isDigit (hT.fr fσ1 rfl (fun _ => rfl)) (by omega)) ?_)))
  rintro _ _ ⟨rfl, rfl⟩
  refine And.intro (fun h13 => ?_) (fun h13 => ?_)
  · skip
    have h13 := bI_t h13
    refine And.intro rfl (Exists.intro 8 (Exists.intro (nI (q_sk T i)) (And.intro rfl (And.intro gσ1 ?_))))
    refine Exists.intro (nI 0) (And.intro rfl ?_)
    exact l_num (hT.fr fσ1 rfl (fun _ => rfl)) hs (key _ fσ1 h13) _ 0 _ rfl (by omega) (fun j hj => absurd hj (by omega)) qf.rf gσ1
  · skip
    have h13 := bI_f h13
    refine Exists.intro (nI 0) (And.intro rfl ?_)
    refine And.intro rfl (Exists.intro 8 (Exists.intro (nI (q_sk T i)) (And.intro rfl (And.intro gσ1 ?_))))
    refine And.intro rfl (Exists.intro _ (And.intro (by decide) (qx_M_mono (m_fails ((fσ1.i _ _ rfl).trans hn9)) ?_)))
    rintro _ σ2 ⟨rfl, fσ2, gσ2⟩
    refine And.intro (bI_01 _) ?_
    have b1 : q_nf1 T (q_sk T i) lo hi = some (1 + 8 * q_sk T i + 0) := if_neg (by rw [h13]; decide)
    rw [b1]
    exact ⟨rfl, (fσ1.mn (by decide)).tr (fσ2.mn (by decide)), fun f e => (by cases e; exact gσ2), fun e => (by cases e)⟩

