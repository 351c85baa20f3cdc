/-! THE CLASS: the tape -/
def tC (σ : qx_S) (T : q_T) : Prop := qx_mi σ 4 4 = nI T.1 ∧ T.1 ≤ 400 ∧ ∀ k, k < T.1 → qx_mi σ 5 k = sx (T.2 k) ∧ T.2 k < 256
theorem tC.fr {σ s : qx_S} {T : q_T} {l : List (Nat × Option Nat)} (h : tC σ T) (f : ql l σ s) (h1 : pL l 4 4 = false) (h2 : ∀ j, pL l 5 j = false) : tC s T := ⟨(f.i _ _ h1).trans h.1, h.2.1, fun k hk => ⟨(f.i _ _ (h2 k)).trans (h.2.2 k hk).1, (h.2.2 k hk).2⟩⟩
theorem tC.put {σ σ1 σ2 : qx_S} {T : q_T} {x : Int32} (h : tC σ T) (hn : T.1 < 400) (e1 : σ1 = qx_wi σ 5 T.1 (x.toInt8.toInt32).toInt8.toInt32) (e2 : σ2 = qx_wi σ1 4 4 (nI (T.1 + 1))) : tC σ2 (q_f1 T x) := by
  refine ⟨qn_eq e2, hn, fun k hk => ?_⟩
  have hk' : k < T.1 + 1 := hk
  have f := qn_wif e2
  by_cases z : k = T.1
  · subst z
    refine ⟨(f.i _ _ rfl).trans ((qn_eq e1).trans ?_), ?_⟩
    · rw [q_by_sx]
      show _ = sx (va_up T.2 T.1 _ T.1)
      rw [va_up_self]
    · show va_up T.2 T.1 _ T.1 < 256
      rw [va_up_self]
      exact q_by_lt _
  · have y := h.2.2 k (by omega)
    refine ⟨(f.i _ _ rfl).trans ((qn_ne e1 (Or.inr z)).trans ?_), ?_⟩
    · show _ = sx (va_up T.2 T.1 _ k)
      rw [va_up_ne _ _ z]
      exact y.1
    · show va_up T.2 T.1 _ k < 256
      rw [va_up_ne _ _ z]
      exact y.2
abbrev kT : List (Nat × Option Nat) := [(4, some 4), (5, none)]
theorem c_put {G : qx_G} {σ : qx_S} {T : q_T} (h : tC σ T) (hn : T.1 + 4 ≤ 400) (v : Int32) : qx_M G qc_T 0 YX9_put [.ref 4, .int v] σ (fun r s => r = none ∧ ql kT σ s ∧ tC s (q_f4 T v)) := by
  refine qx_M_in rfl (Nat.le_of_ble_eq_true rfl) ?_
  refine qy_wp_ok (c := CX9_put) (cuts := []) vX9_put wX9_put 2000 0 _ _ _ ?_
  refine Exists.intro (nI 24) (And.intro rfl ?_)
  refine And.intro (fun h4 => ?_) (fun h4 => ?_)
  · skip
    exact absurd h4 (by decide)
  · skip
    refine And.intro rfl (Exists.intro 4 (Exists.intro (nI T.1) (And.intro rfl (And.intro h.1 ?_))))
    refine Exists.intro (nI 400) (And.intro rfl ?_)
    refine And.intro (fun h14 => ?_) (fun h14 => ?_)
    · skip
      have h14 := nI_leT (a := 400) (b := T.1) (by decide) (by omega) h14
      first | exact absurd h14 (by omega) | exact absurd h14_1 (by omega) | exact absurd h14_2 (by omega) | exact absurd h14_3 (by omega)
    · skip
      have h14 := nI_leF (a := 400) (b := T.1) (by decide) (by omega) h14
      refine And.intro rfl (Exists.intro 5 (And.intro rfl ?_))
      refine And.intro rfl (Exists.intro 4 (Exists.intro (nI T.1) (And.intro rfl (And.intro h.1 ?_))))
      refine Exists.intro (v >>> ((nI 24) &&& 31)) (And.intro rfl ?_)
      refine Exists.intro ((v >>> ((nI 24) &&& 31)).toInt8.toInt32) (And.intro rfl ?_)
      obtain ⟨σ1, eσ1⟩ : ∃ zs, zs = (qx_wi σ 5 T.1 (((v >>> ((nI 24) &&& 31)).toInt8.toInt32).toInt8.toInt32)) := ⟨_, rfl⟩
      have fσ1 := qn_wi eσ1
      refine Or.inl (Exists.intro (T.1) (Exists.intro σ1 (And.intro rfl (And.intro ⟨400, rfl, by omega, by decide⟩ (And.intro eσ1.symm ?_)))))
      refine And.intro rfl (Exists.intro 4 (Exists.intro (nI T.1) (And.intro rfl (And.intro ((fσ1.i _ _ rfl).trans (h.1)) ?_))))
      refine Exists.intro (nI 1) (And.intro rfl ?_)
      refine Exists.intro (nI (T.1 + 1)) (And.intro (nI_add _ _) ?_)
      obtain ⟨σ2, eσ2⟩ : ∃ zs, zs = (qx_wi σ1 4 4 (nI (T.1 + 1))) := ⟨_, rfl⟩
      have fσ2 := qn_wif eσ2
      refine And.intro rfl (Exists.intro 4 (Exists.intro σ2 (And.intro rfl (And.intro eσ2.symm ?_))))
      refine Exists.intro (nI 16) (And.intro (by decide) ?_)
      refine And.intro (fun h4_1 => ?_) (fun h4_1 => ?_)
      · skip
        exact absurd h4_1 (by decide)
      · skip
        refine And.intro rfl (Exists.intro 4 (Exists.intro (nI (T.1 + 1)) (And.intro rfl (And.intro (qn_eq eσ2) ?_))))
        refine Exists.intro (nI 400) (And.intro rfl ?_)
        refine And.intro (fun h14_1 => ?_) (fun h14_1 => ?_)
        · skip
          have h14_1 := nI_leT (a := 400) (b := T.1 + 1) (by decide) (by omega) h14_1
          first | exact absurd h14 (by omega) | exact absurd h14_1 (by omega) | exact absurd h14_2 (by omega) | exact absurd h14_3 (by omega)
        · skip
          have h14_1 := nI_leF (a := 400) (b := T.1 + 1) (by decide) (by omega) h14_1
          refine And.intro rfl (Exists.intro 5 (And.intro rfl ?_))
          refine And.intro rfl (Exists.intro 4 (Exists.intro (nI (T.1 + 1)) (And.intro rfl (And.intro (qn_eq eσ2) ?_))))
          refine Exists.intro (v >>> ((nI 16) &&& 31)) (And.intro rfl ?_)
          refine Exists.intro ((v >>> ((nI 16) &&& 31)).toInt8.toInt32) (And.intro rfl ?_)
          obtain ⟨σ3, eσ3⟩ : ∃ zs, zs = (qx_wi σ2 5 (T.1 + 1) (((v >>> ((nI 16) &&& 31)).toInt8.toInt32).toInt8.toInt32)) := ⟨_, rfl⟩
          have fσ3 := qn_wi eσ3
          refine Or.inl (Exists.intro (T.1 + 1) (Exists.intro σ3 (And.intro rfl (And.intro ⟨400, rfl, by omega, by decide⟩ (And.intro eσ3.symm ?_)))))
          refine And.intro rfl (Exists.intro 4 (Exists.intro (nI (T.1 + 1)) (And.intro rfl (And.intro ((fσ3.i _ _ rfl).trans (qn_eq eσ2)) ?_))))
          refine Exists.intro (nI 1) (And.intro rfl ?_)
          refine Exists.intro (nI (T.1 + 1 + 1)) (And.intro (nI_add _ _) ?_)
          obtain ⟨σ4, eσ4⟩ : ∃ zs, zs = (qx_wi σ3 4 4 (nI (T.1 + 1 + 1))) := ⟨_, rfl⟩
          have fσ4 := qn_wif eσ4
          refine And.intro rfl (Exists.intro 4 (Exists.intro σ4 (And.intro rfl (And.intro eσ4.symm ?_))))
          refine Exists.intro (nI 8) (And.intro (by decide) ?_)
          refine And.intro (fun h4_2 => ?_) (fun h4_2 => ?_)
          · skip
            exact absurd h4_2 (by decide)
          · skip
            refine And.intro rfl (Exists.intro 4 (Exists.intro (nI (T.1 + 1 + 1)) (And.intro rfl (And.intro (qn_eq eσ4) ?_))))
            refine Exists.intro (nI 400) (And.intro rfl ?_)
            refine And.intro (fun h14_2 => ?_) (fun h14_2 => ?_)
            · skip
              have h14_2 := nI_leT (a := 400) (b := T.1 + 1 + 1) (by decide) (by omega) h14_2
              first | exact absurd h14 (by omega) | exact absurd h14_1 (by omega) | exact absurd h14_2 (by omega) | exact absurd h14_3 (by omega)
            · skip
              have h14_2 := nI_leF (a := 400) (b := T.1 + 1 + 1) (by decide) (by omega) h14_2
              refine And.intro rfl (Exists.intro 5 (And.intro rfl ?_))
              refine And.intro rfl (Exists.intro 4 (Exists.intro (nI (T.1 + 1 + 1)) (And.intro rfl (And.intro (qn_eq eσ4) ?_))))
              refine Exists.intro (v >>> ((nI 8) &&& 31)) (And.intro rfl ?_)
              refine Exists.intro ((v >>> ((nI 8) &&& 31)).toInt8.toInt32) (And.intro rfl ?_)
              obtain ⟨σ5, eσ5⟩ : ∃ zs, zs = (qx_wi σ4 5 (T.1 + 1 + 1) (((v >>> ((nI 8) &&& 31)).toInt8.toInt32).toInt8.toInt32)) := ⟨_, rfl⟩
              have fσ5 := qn_wi eσ5
              refine Or.inl (Exists.intro (T.1 + 1 + 1) (Exists.intro σ5 (And.intro rfl (And.intro ⟨400, rfl, by omega, by decide⟩ (And.intro eσ5.symm ?_)))))
              refine And.intro rfl (Exists.intro 4 (Exists.intro (nI (T.1 + 1 + 1)) (And.intro rfl (And.intro ((fσ5.i _ _ rfl).trans (qn_eq eσ4)) ?_))))
              refine Exists.intro (nI 1) (And.intro rfl ?_)
              refine Exists.intro (nI (T.1 + 1 + 1 + 1)) (And.intro (nI_add _ _) ?_)
              obtain ⟨σ6, eσ6⟩ : ∃ zs, zs = (qx_wi σ5 4 4 (nI (T.1 + 1 + 1 + 1))) := ⟨_, rfl⟩
              have fσ6 := qn_wif eσ6
              refine And.intro rfl (Exists.intro 4 (Exists.intro σ6 (And.intro rfl (And.intro eσ6.symm ?_))))
              refine Exists.intro (nI 0) (And.intro (by decide) ?_)
              refine And.intro (fun h4_3 => ?_) (fun h4_3 => ?_)
              · skip
                exact absurd h4_3 (by decide)
              · skip
                refine And.intro rfl (Exists.intro 4 (Exists.intro (nI (T.1 + 1 + 1 + 1)) (And.intro rfl (And.intro (qn_eq eσ6) ?_))))
                refine Exists.intro (nI 400) (And.intro rfl ?_)
                refine And.intro (fun h14_3 => ?_) (fun h14_3 => ?_)
                · skip
                  have h14_3 := nI_leT (a := 400) (b := T.1 + 1 + 1 + 1) (by decide) (by omega) h14_3
                  first | exact absurd h14 (by omega) | exact absurd h14_1 (by omega) | exact absurd h14_2 (by omega) | exact absurd h14_3 (by omega)
                · skip
                  have h14_3 := nI_leF (a := 400) (b := T.1 + 1 + 1 + 1) (by decide) (by omega) h14_3
                  refine And.intro rfl (Exists.intro 5 (And.intro rfl ?_))
                  refine And.intro rfl (Exists.intro 4 (Exists.intro (nI (T.1 + 1 + 1 + 1)) (And.intro rfl (And.intro (qn_eq eσ6) ?_))))
                  refine Exists.intro (v >>> ((nI 0) &&& 31)) (And.intro rfl ?_)
                  refine Exists.intro ((v >>> ((nI 0) &&& 31)).toInt8.toInt32) (And.intro rfl ?_)
                  obtain ⟨σ7, eσ7⟩ : ∃ zs, zs = (qx_wi σ6 5 (T.1 + 1 + 1 + 1) (((v >>> ((nI 0) &&& 31)).toInt8.toInt32).toInt8.toInt32)) := ⟨_, rfl⟩
                  have fσ7 := qn_wi eσ7
                  refine Or.inl (Exists.intro (T.1 + 1 + 1 + 1) (Exists.intro σ7 (And.intro rfl (And.intro ⟨400, rfl, by omega, by decide⟩ (And.intro eσ7.symm ?_)))))
                  refine And.intro rfl (Exists.intro 4 (Exists.intro (nI (T.1 + 1 + 1 + 1)) (And.intro rfl (And.intro ((fσ7.i _ _ rfl).trans (qn_eq eσ6)) ?_))))
                  refine Exists.intro (nI 1) (And.intro rfl ?_)
                  refine Exists.intro (nI (T.1 + 1 + 1 + 1 + 1)) (And.intro (nI_add _ _) ?_)
                  obtain ⟨σ8, eσ8⟩ : ∃ zs, zs = (qx_wi σ7 4 4 (nI (T.1 + 1 + 1 + 1 + 1))) := ⟨_, rfl⟩
                  have fσ8 := qn_wif eσ8
                  refine And.intro rfl (Exists.intro 4 (Exists.intro σ8 (And.intro rfl (And.intro eσ8.symm ?_))))
                  refine Exists.intro (-8) (And.intro (by decide) ?_)
                  refine And.intro (fun h4_4 => ?_) (fun h4_4 => ?_)
                  · skip
                    refine ⟨rfl, (fσ1.mn (m := kT) (by decide)).tr ((fσ2.mn (by decide)).tr ((fσ3.mn (by decide)).tr ((fσ4.mn (by decide)).tr ((fσ5.mn (by decide)).tr ((fσ6.mn (by decide)).tr ((fσ7.mn (by decide)).tr (fσ8.mn (by decide)))))))), ?_⟩
                    have h1 := h.put (by omega) eσ1 eσ2
                    have h2 := h1.put (show T.1 + 1 < 400 by omega) eσ3 eσ4
                    have h3 := h2.put (show T.1 + 1 + 1 < 400 by omega) eσ5 eσ6
                    exact h3.put (show T.1 + 1 + 1 + 1 < 400 by omega) eσ7 eσ8
                  · skip
                    exact absurd (by decide) h4_4
theorem c_feed_ok {G : qx_G} {σ : qx_S} {T : q_T} (h : tC σ T) (hn : T.1 + 20 ≤ 400) (a b c d e : Int32) : qx_M G qc_T 1 YX11_feed [.ref 3, .int a, .int b, .int c, .int d, .int e] σ (fun r s => r = some (.int (nI (T.1 + 20))) ∧ ql kT σ s ∧ tC s (q_f5 T a b c d e)) := by
  refine qx_M_in rfl (Nat.le_of_ble_eq_true rfl) ?_
  refine qy_wp_ok (c := CX11_feed) (cuts := []) vX11_feed wX11_feed 2000 0 _ _ _ ?_
  refine And.intro rfl (Exists.intro 4 (And.intro rfl ?_))
  refine And.intro rfl (Exists.intro 4 (Exists.intro (nI T.1) (And.intro rfl (And.intro h.1 ?_))))
  refine Exists.intro (nI 20) (And.intro rfl ?_)
  refine Exists.intro (nI (T.1 + 20)) (And.intro (nI_add _ _) ?_)
  refine Exists.intro (nI 400) (And.intro rfl ?_)
  refine And.intro (fun h13 => ?_) (fun h13 => ?_)
  · skip
    have h13 := nI_leT (a := T.1 + 20) (b := 400) (by omega) (by decide) h13
    refine And.intro rfl (Exists.intro 4 (And.intro rfl ?_))
    refine And.intro rfl (Exists.intro _ (And.intro (by decide) (qx_M_mono (c_put h (by omega) a) ?_)))
    rintro _ σ1 ⟨rfl, fσ1, tσ1⟩
    refine And.intro rfl (Exists.intro 4 (And.intro rfl ?_))
    refine And.intro rfl (Exists.intro _ (And.intro (by decide) (qx_M_mono (c_put tσ1 (show T.1 + 4 + 4 ≤ 400 by omega) b) ?_)))
    rintro _ σ2 ⟨rfl, fσ2, tσ2⟩
    refine And.intro rfl (Exists.intro 4 (And.intro rfl ?_))
    refine And.intro rfl (Exists.intro _ (And.intro (by decide) (qx_M_mono (c_put tσ2 (show T.1 + 4 + 4 + 4 ≤ 400 by omega) c) ?_)))
    rintro _ σ3 ⟨rfl, fσ3, tσ3⟩
    refine And.intro rfl (Exists.intro 4 (And.intro rfl ?_))
    refine And.intro rfl (Exists.intro _ (And.intro (by decide) (qx_M_mono (c_put tσ3 (show T.1 + 4 + 4 + 4 + 4 ≤ 400 by omega) d) ?_)))
    rintro _ σ4 ⟨rfl, fσ4, tσ4⟩
    refine And.intro rfl (Exists.intro 4 (And.intro rfl ?_))
    refine And.intro rfl (Exists.intro _ (And.intro (by decide) (qx_M_mono (c_put tσ4 (show T.1 + 4 + 4 + 4 + 4 + 4 ≤ 400 by omega) e) ?_)))
    rintro _ σ5 ⟨rfl, fσ5, tσ5⟩
    refine And.intro rfl (Exists.intro 4 (And.intro rfl ?_))
    refine And.intro rfl (Exists.intro 4 (Exists.intro (nI (T.1 + 20)) (And.intro rfl (And.intro tσ5.1 ?_))))
    exact ⟨rfl, fσ1.tr (fσ2.tr (fσ3.tr (fσ4.tr fσ5))), tσ5⟩
  · skip
    have h13 := nI_leF (a := T.1 + 20) (b := 400) (by omega) (by decide) h13
    exact absurd h13 (by omega)
theorem c_feed_no {G : qx_G} {σ : qx_S} {T : q_T} (h : tC σ T) (hn : 400 < T.1 + 20) (a b c d e : Int32) : qx_M G qc_T 1 YX11_feed [.ref 3, .int a, .int b, .int c, .int d, .int e] σ (qr (-1) σ) := by
  have h4 := h.2.1
  refine qx_M_in rfl (Nat.le_of_ble_eq_true rfl) ?_
  refine qy_wp_ok (c := CX11_feed) (cuts := []) vX11_feed wX11_feed 2000 0 _ _ _ ?_
  refine And.intro rfl (Exists.intro 4 (And.intro rfl ?_))
  refine And.intro rfl (Exists.intro 4 (Exists.intro (nI T.1) (And.intro rfl (And.intro h.1 ?_))))
  refine Exists.intro (nI 20) (And.intro rfl ?_)
  refine Exists.intro (nI (T.1 + 20)) (And.intro (nI_add _ _) ?_)
  refine Exists.intro (nI 400) (And.intro rfl ?_)
  refine And.intro (fun h13 => ?_) (fun h13 => ?_)
  · skip
    have h13 := nI_leT (a := T.1 + 20) (b := 400) (by omega) (by decide) h13
    exact absurd h13 (by omega)
  · skip
    have h13 := nI_leF (a := T.1 + 20) (b := 400) (by omega) (by decide) h13
    refine Exists.intro ((-1)) (And.intro (by decide) ?_)
    exact ⟨rfl, rfl⟩
theorem c_end_ok {G : qx_G} {σ : qx_S} {T : q_T} (h : tC σ T) {n : Nat} (hn : n ≤ T.1) : qx_M G qc_T 0 YX11_end [.ref 3, .int (nI n)] σ (fun r s => r = some (.int (nI n)) ∧ ql kT σ s ∧ tC s (n, T.2)) := by
  have h4 := h.2.1
  refine qx_M_in rfl (Nat.le_of_ble_eq_true rfl) ?_
  refine qy_wp_ok (c := CX11_end) (cuts := []) vX11_end wX11_end 2000 0 _ _ _ ?_
  refine And.intro (fun h1 => ?_) (fun h1 => ?_)
  · skip
    have h1 := nI_ltT (a := n) (b := 0) (by omega) (by decide) h1
    exact absurd h1 (by omega)
  · skip
    have h1 := nI_ltF (a := n) (b := 0) (by omega) (by decide) h1
    refine And.intro rfl (Exists.intro 4 (And.intro rfl ?_))
    refine And.intro rfl (Exists.intro 4 (Exists.intro (nI T.1) (And.intro rfl (And.intro h.1 ?_))))
    refine And.intro (fun h12 => ?_) (fun h12 => ?_)
    · skip
      have h12 := nI_leT (a := n) (b := T.1) (by omega) (by omega) h12
      refine And.intro rfl (Exists.intro 4 (And.intro rfl ?_))
      obtain ⟨σ1, eσ1⟩ : ∃ zs, zs = (qx_wi σ 4 4 (nI n)) := ⟨_, rfl⟩
      have fσ1 := qn_wif eσ1
      refine And.intro rfl (Exists.intro 4 (Exists.intro σ1 (And.intro rfl (And.intro eσ1.symm ?_))))
      exact ⟨rfl, fσ1.mn (by decide), qn_eq eσ1, Nat.le_trans hn h4, fun k hk => ⟨(fσ1.i _ _ rfl).trans (h.2.2 k (Nat.lt_of_lt_of_le hk hn)).1, (h.2.2 k (Nat.lt_of_lt_of_le hk hn)).2⟩⟩
    · skip
      have h12 := nI_leF (a := n) (b := T.1) (by omega) (by omega) h12
      exact absurd h12 (by omega)
theorem c_end_no {G : qx_G} {σ : qx_S} {T : q_T} (h : tC σ T) {x : Int32} (hx : q_is x (T.1 + 1) = false) : qx_M G qc_T 0 YX11_end [.ref 3, .int x] σ (qr (-1) σ) := by
  have h4 := h.2.1
  refine qx_M_in rfl (Nat.le_of_ble_eq_true rfl) ?_
  refine qy_wp_ok (c := CX11_end) (cuts := [17]) vX11_end wX11_end 2000 0 _ _ _ ?_
  refine And.intro (fun h1 => ?_) (fun h1 => ?_)
  · skip
    refine Exists.intro ((-1)) (And.intro (by decide) ?_)
    exact ⟨rfl, rfl⟩
  · skip
    refine And.intro rfl (Exists.intro 4 (And.intro rfl ?_))
    refine And.intro rfl (Exists.intro 4 (Exists.intro (nI T.1) (And.intro rfl (And.intro h.1 ?_))))
    refine And.intro (fun h12 => ?_) (fun h12 => ?_)
    · skip
      exfalso
      obtain ⟨k, hk, rfl⟩ := nI_of (x := x) h1
      have h12 := nI_leT hk (show T.1 < 2147483648 by omega) h12
      rw [q_is_ok (show k < T.1 + 1 by omega) (by omega)] at hx
      cases hx
    · skip
      refine Exists.intro ((-1)) (And.intro (by decide) ?_)
      exact ⟨rfl, rfl⟩
theorem c_byteAt {G : qx_G} {σ : qx_S} {T : q_T} (h : tC σ T) {k : Nat} (hk : k ≤ 500) : qx_M G qc_T 0 YX9_byteAt [.ref 4, .int (nI k)] σ (qr (q_see T k) σ) := by
  have h4 := h.2.1
  rcases Nat.lt_or_ge k T.1 with hlt | hge
  · obtain ⟨c1, c2⟩ := h.2.2 k hlt
    have e : q_see T k = nI (T.2 k) := if_pos hlt
    rw [e]
    refine qx_M_in rfl (Nat.le_of_ble_eq_true rfl) ?_
    refine qy_wp_ok (c := CX9_byteAt) (cuts := []) vX9_byteAt wX9_byteAt 2000 0 _ _ _ ?_
    refine And.intro (fun h1 => ?_) (fun h1 => ?_)
    · skip
      have h1 := nI_ltT (a := k) (b := 0) (by omega) (by decide) h1
      exact absurd h1 (by omega)
    · skip
      have h1 := nI_ltF (a := k) (b := 0) (by omega) (by decide) h1
      refine And.intro rfl (Exists.intro 4 (Exists.intro (nI T.1) (And.intro rfl (And.intro h.1 ?_))))
      refine And.intro (fun h9 => ?_) (fun h9 => ?_)
      · skip
        have h9 := nI_leT (a := T.1) (b := k) (by omega) (by omega) h9
        exact absurd h9 (by omega)
      · skip
        have h9 := nI_leF (a := T.1) (b := k) (by omega) (by omega) h9
        refine And.intro rfl (Exists.intro 5 (And.intro rfl ?_))
        refine Exists.intro (k) (Exists.intro (sx (T.2 k)) (And.intro rfl (And.intro (Or.inl ⟨400, rfl, by omega, by decide⟩) (And.intro c1 ?_))))
        refine Exists.intro (nI 255) (And.intro rfl ?_)
        refine Exists.intro (nI (T.2 k)) (And.intro (sx_and _ c2) ?_)
        exact ⟨rfl, rfl⟩
  · have e : q_see T k = -1 := if_neg (by omega)
    rw [e]
    refine qx_M_in rfl (Nat.le_of_ble_eq_true rfl) ?_
    refine qy_wp_ok (c := CX9_byteAt) (cuts := []) vX9_byteAt wX9_byteAt 2000 0 _ _ _ ?_
    refine And.intro (fun h1 => ?_) (fun h1 => ?_)
    · skip
      have h1 := nI_ltT (a := k) (b := 0) (by omega) (by decide) h1
      exact absurd h1 (by omega)
    · skip
      have h1 := nI_ltF (a := k) (b := 0) (by omega) (by decide) h1
      refine And.intro rfl (Exists.intro 4 (Exists.intro (nI T.1) (And.intro rfl (And.intro h.1 ?_))))
      refine And.intro (fun h9 => ?_) (fun h9 => ?_)
      · skip
        have h9 := nI_leT (a := T.1) (b := k) (by omega) (by omega) h9
        refine Exists.intro ((-1)) (And.intro (by decide) ?_)
        exact ⟨rfl, rfl⟩
      · skip
        have h9 := nI_leF (a := T.1) (b := k) (by omega) (by omega) h9
        exact absurd h9 (by omega)
theorem q_see_n {T : q_T} (hb : ∀ k, k < T.1 → T.2 k < 256) (k c d : Nat) (hc : c < 128) (hd : d < 128) : (nI c ≤ q_see T k ∧ q_see T k ≤ nI d) ↔ (k < T.1 ∧ c ≤ T.2 k ∧ T.2 k ≤ d) := by
  unfold q_see
  rcases Nat.lt_or_ge k T.1 with z | z
  · have b := hb k z
    rw [if_pos z, nI_leI (by omega) (by omega), nI_leI (by omega) (by omega)]
    omega
  · rw [if_neg (by omega)]
    refine ⟨fun y => ?_, fun y => by omega⟩
    exfalso
    have := Int32.le_trans (nI_pos' (n := c) (by omega)) y.1
    exact absurd this (by decide)
theorem c_isLetter {G : qx_G} {σ : qx_S} {T : q_T} (hb : ∀ k, k < T.1 → T.2 k < 256) (k : Nat) : qx_M G qc_T 0 YX9_isLetter [.int (q_see T k)] σ (qr (bI (isL T k)) σ) := by
  have e := q_see_n hb k 97 122 (by decide) (by decide)
  refine qx_M_in rfl (Nat.le_of_ble_eq_true rfl) ?_
  refine qy_wp_ok (c := CX9_isLetter) (cuts := []) vX9_isLetter wX9_isLetter 2000 0 _ _ _ ?_
  refine Exists.intro (nI 97) (And.intro rfl ?_)
  refine And.intro (fun h3 => ?_) (fun h3 => ?_)
  · skip
    refine Exists.intro (nI 0) (And.intro rfl ?_)
    refine And.intro (Or.inl rfl) ?_
    first | exact ⟨congrArg (fun z => some (Value.int (bI z))) (decide_eq_true (e.mp ⟨Int32.not_lt.mp h3, Int32.not_lt.mp h9⟩)).symm, rfl⟩ | exact ⟨congrArg (fun z => some (Value.int (bI z))) (decide_eq_false (fun z => Int32.not_le.mpr h9 (e.mpr z).2)).symm, rfl⟩ | exact ⟨congrArg (fun z => some (Value.int (bI z))) (decide_eq_false (fun z => Int32.not_le.mpr h3 (e.mpr z).1)).symm, rfl⟩
  · skip
    refine Exists.intro (nI 122) (And.intro rfl ?_)
    refine And.intro (fun h9 => ?_) (fun h9 => ?_)
    · skip
      refine Exists.intro (nI 0) (And.intro rfl ?_)
      refine And.intro (Or.inl rfl) ?_
      first | exact ⟨congrArg (fun z => some (Value.int (bI z))) (decide_eq_true (e.mp ⟨Int32.not_lt.mp h3, Int32.not_lt.mp h9⟩)).symm, rfl⟩ | exact ⟨congrArg (fun z => some (Value.int (bI z))) (decide_eq_false (fun z => Int32.not_le.mpr h9 (e.mpr z).2)).symm, rfl⟩ | exact ⟨congrArg (fun z => some (Value.int (bI z))) (decide_eq_false (fun z => Int32.not_le.mpr h3 (e.mpr z).1)).symm, rfl⟩
    · skip
      refine Exists.intro (nI 1) (And.intro rfl ?_)
      refine And.intro (Or.inr rfl) ?_
      first | exact ⟨congrArg (fun z => some (Value.int (bI z))) (decide_eq_true (e.mp ⟨Int32.not_lt.mp h3, Int32.not_lt.mp h9⟩)).symm, rfl⟩ | exact ⟨congrArg (fun z => some (Value.int (bI z))) (decide_eq_false (fun z => Int32.not_le.mpr h9 (e.mpr z).2)).symm, rfl⟩ | exact ⟨congrArg (fun z => some (Value.int (bI z))) (decide_eq_false (fun z => Int32.not_le.mpr h3 (e.mpr z).1)).symm, rfl⟩
theorem c_isDigit {G : qx_G} {σ : qx_S} {T : q_T} (hb : ∀ k, k < T.1 → T.2 k < 256) (k : Nat) : qx_M G qc_T 0 YX9_isDigit [.int (q_see T k)] σ (qr (bI (isD T k)) σ) := by
  have e := q_see_n hb k 48 57 (by decide) (by decide)
  refine qx_M_in rfl (Nat.le_of_ble_eq_true rfl) ?_
  refine qy_wp_ok (c := CX9_isDigit) (cuts := []) vX9_isDigit wX9_isDigit 2000 0 _ _ _ ?_
  refine Exists.intro (nI 48) (And.intro rfl ?_)
  refine And.intro (fun h3 => ?_) (fun h3 => ?_)
  · skip
    refine Exists.intro (nI 0) (And.intro rfl ?_)
    refine And.intro (Or.inl rfl) ?_
    first | exact ⟨congrArg (fun z => some (Value.int (bI z))) (decide_eq_true (e.mp ⟨Int32.not_lt.mp h3, Int32.not_lt.mp h9⟩)).symm, rfl⟩ | exact ⟨congrArg (fun z => some (Value.int (bI z))) (decide_eq_false (fun z => Int32.not_le.mpr h9 (e.mpr z).2)).symm, rfl⟩ | exact ⟨congrArg (fun z => some (Value.int (bI z))) (decide_eq_false (fun z => Int32.not_le.mpr h3 (e.mpr z).1)).symm, rfl⟩
  · skip
    refine Exists.intro (nI 57) (And.intro rfl ?_)
    refine And.intro (fun h9 => ?_) (fun h9 => ?_)
    · skip
      refine Exists.intro (nI 0) (And.intro rfl ?_)
      refine And.intro (Or.inl rfl) ?_
      first | exact ⟨congrArg (fun z => some (Value.int (bI z))) (decide_eq_true (e.mp ⟨Int32.not_lt.mp h3, Int32.not_lt.mp h9⟩)).symm, rfl⟩ | exact ⟨congrArg (fun z => some (Value.int (bI z))) (decide_eq_false (fun z => Int32.not_le.mpr h9 (e.mpr z).2)).symm, rfl⟩ | exact ⟨congrArg (fun z => some (Value.int (bI z))) (decide_eq_false (fun z => Int32.not_le.mpr h3 (e.mpr z).1)).symm, rfl⟩
    · skip
      refine Exists.intro (nI 1) (And.intro rfl ?_)
      refine And.intro (Or.inr rfl) ?_
      first | exact ⟨congrArg (fun z => some (Value.int (bI z))) (decide_eq_true (e.mp ⟨Int32.not_lt.mp h3, Int32.not_lt.mp h9⟩)).symm, rfl⟩ | exact ⟨congrArg (fun z => some (Value.int (bI z))) (decide_eq_false (fun z => Int32.not_le.mpr h9 (e.mpr z).2)).symm, rfl⟩ | exact ⟨congrArg (fun z => some (Value.int (bI z))) (decide_eq_false (fun z => Int32.not_le.mpr h3 (e.mpr z).1)).symm, rfl⟩
/-- a piece's kind as the class has it -/
def kI (k : Nat) : Int32 := if k = 999 then -1 else nI k
/-- one piece is kept -/
def q_kp (σ s : qx_S) (n : Nat) (k p v : Int32) : Prop := qx_mi s 4 5 = nI (n + 1) ∧ qx_mi s 6 = va_up (qx_mi σ 6) n k ∧ qx_mi s 7 = va_up (qx_mi σ 7) n p ∧ qx_mi s 8 = va_up (qx_mi σ 8) n v
abbrev kK : List (Nat × Option Nat) := [(4, some 5), (6, none), (7, none), (8, none)]
theorem c_keep {G : qx_G} {σ : qx_S} {n : Nat} (hn : n ≤ 400) (e5 : qx_mi σ 4 5 = nI n) (k p v : Int32) : qx_M G qc_T 0 YX9_keep [.ref 4, .int k, .int p, .int v] σ (fun r s => r = none ∧ ql kK σ s ∧ q_kp σ s n k p v) := by
  refine qx_M_in rfl (Nat.le_of_ble_eq_true rfl) ?_
  refine qy_wp_ok (c := CX9_keep) (cuts := []) vX9_keep wX9_keep 2000 0 _ _ _ ?_
  refine And.intro rfl (Exists.intro 5 (Exists.intro (nI n) (And.intro rfl (And.intro e5 ?_))))
  refine Exists.intro (nI 400) (And.intro rfl ?_)
  refine And.intro (fun h7 => ?_) (fun h7 => ?_)
  · skip
    have h7 := nI_ltT (a := 400) (b := n) (by decide) (by omega) h7
    exact absurd h7 (by omega)
  · skip
    have h7 := nI_ltF (a := 400) (b := n) (by decide) (by omega) h7
    refine And.intro rfl (Exists.intro 6 (And.intro rfl ?_))
    refine And.intro rfl (Exists.intro 5 (Exists.intro (nI n) (And.intro rfl (And.intro e5 ?_))))
    obtain ⟨σ1, eσ1⟩ : ∃ zs, zs = (qx_wi σ 6 n k) := ⟨_, rfl⟩
    have fσ1 := qn_wi eσ1
    refine Exists.intro (n) (Exists.intro σ1 (And.intro rfl (And.intro ⟨401, rfl, by omega, by decide⟩ (And.intro eσ1.symm ?_))))
    refine And.intro rfl (Exists.intro 7 (And.intro rfl ?_))
    refine And.intro rfl (Exists.intro 5 (Exists.intro (nI n) (And.intro rfl (And.intro ((fσ1.i _ _ rfl).trans (e5)) ?_))))
    obtain ⟨σ2, eσ2⟩ : ∃ zs, zs = (qx_wi σ1 7 n p) := ⟨_, rfl⟩
    have fσ2 := qn_wi eσ2
    refine Exists.intro (n) (Exists.intro σ2 (And.intro rfl (And.intro ⟨401, rfl, by omega, by decide⟩ (And.intro eσ2.symm ?_))))
    refine And.intro rfl (Exists.intro 8 (And.intro rfl ?_))
    refine And.intro rfl (Exists.intro 5 (Exists.intro (nI n) (And.intro rfl (And.intro ((fσ2.i _ _ rfl).trans ((fσ1.i _ _ rfl).trans (e5))) ?_))))
    obtain ⟨σ3, eσ3⟩ : ∃ zs, zs = (qx_wi σ2 8 n v) := ⟨_, rfl⟩
    have fσ3 := qn_wi eσ3
    refine Exists.intro (n) (Exists.intro σ3 (And.intro rfl (And.intro ⟨401, rfl, by omega, by decide⟩ (And.intro eσ3.symm ?_))))
    refine And.intro rfl (Exists.intro 5 (Exists.intro (nI n) (And.intro rfl (And.intro ((fσ3.i _ _ rfl).trans ((fσ2.i _ _ rfl).trans ((fσ1.i _ _ rfl).trans (e5)))) ?_))))
    refine Exists.intro (nI 1) (And.intro rfl ?_)
    refine Exists.intro (nI (n + 1)) (And.intro (nI_add _ _) ?_)
    obtain ⟨σ4, eσ4⟩ : ∃ zs, zs = (qx_wi σ3 4 5 (nI (n + 1))) := ⟨_, rfl⟩
    have fσ4 := qn_wif eσ4
    refine And.intro rfl (Exists.intro 5 (Exists.intro σ4 (And.intro rfl (And.intro eσ4.symm ?_))))
    exact ⟨rfl, (fσ1.mn (by decide)).tr ((fσ2.mn (by decide)).tr ((fσ3.mn (by decide)).tr (fσ4.mn (by decide)))), qn_eq eσ4, (fσ4.row 6 (fun _ => rfl)).trans ((fσ3.row 6 (fun _ => rfl)).trans ((fσ2.row 6 (fun _ => rfl)).trans (qn_row eσ1))), (fσ4.row 7 (fun _ => rfl)).trans ((fσ3.row 7 (fun _ => rfl)).trans ((qn_row eσ2).trans (congrArg (fun z => va_up z n p) (fσ1.row 7 (fun _ => rfl))))), (fσ4.row 8 (fun _ => rfl)).trans ((qn_row eσ3).trans (congrArg (fun z => va_up z n v) ((fσ2.row 8 (fun _ => rfl)).trans (fσ1.row 8 (fun _ => rfl)))))⟩
theorem l_cutNumber {G : qx_G} {σ : qx_S} {T : q_T} (hT : tC σ T) {s n : Nat} (hs : s ≤ T.1) (hn : n ≤ 400) (e5 : qx_mi σ 4 5 = nI n) : ∀ (m k : Nat), m = T.1 - (s + k) → s + k ≤ T.1 → (∀ j, j < k → isD T (s + j) = true) →
    qx_K G qc_T 1 RX9 YX9_cutNumber 4 [.ref 4, .int (nI s), .int (nI (s + k)), .int (nI (q_dv T s (min 5 k)))] [] σ (fun r s' => r = some (.int (nI (q_de T s))) ∧ ql kK σ s' ∧ q_kp σ s' n (nI (if q_de T s - s ≤ 5 then 256 else 257)) (nI s) (nI (q_nu T s))) := by
  have h4 := hT.2.1
  have hb : ∀ k, k < T.1 → T.2 k < 256 := fun k hk => (hT.2.2 k hk).2
  intro m
  induction m using Nat.strongRecOn with
  | _ m ih =>
    intro k hm hk hl
    have t1 := hT.1
    cases hD : isD T (s + k) with
    | true =>
      have a := isD_lt hD
      have es : q_see T (s + k) = nI (T.2 (s + k)) := if_pos a.1
      have all : ∀ j, j < k + 1 → isD T (s + j) = true := fun j hj => by
        rcases Nat.lt_or_ge j k with z | z
        · exact hl j z
        · obtain rfl : j = k := by omega
          exact hD
      have nx := ih (T.1 - (s + (k + 1))) (by omega) (k + 1) rfl (by omega) all
      by_cases k5 : k < 5
      · rw [show min 5 (k + 1) = k + 1 by omega] at nx
        rw [show min 5 k = k by omega]
        have mb := c_byteAt (G := G) hT (k := s + k) (by omega)
        rw [es] at mb
        have mb2 := c_byteAt (G := G) hT (k := s + k) (by omega)
        refine qy_wp_ok (c := CX9_cutNumber) (cuts := [4, 50]) vX9_cutNumber wX9_cutNumber 2000 4 _ _ _ ?_
        refine And.intro rfl (Exists.intro 4 (Exists.intro (nI T.1) (And.intro rfl (And.intro t1 ?_))))
        refine And.intro (fun h9 => ?_) (fun h9 => ?_)
        · skip
          have h9 := nI_leT (a := T.1) (b := s + k) (by omega) (by omega) h9
          exact absurd h9 (by omega)
        · skip
          have h9 := nI_leF (a := T.1) (b := s + k) (by omega) (by omega) h9
          refine And.intro rfl (Exists.intro _ (And.intro (by decide) (qx_M_mono (mb2) ?_)))
          rintro _ _ ⟨rfl, rfl⟩
          refine Exists.intro _ (And.intro (by decide) (qx_M_mono (c_isDigit hb (s + k)) ?_))
          rintro _ _ ⟨rfl, rfl⟩
          refine And.intro (fun h20 => ?_) (fun h20 => ?_)
          · skip
            have h20 := bI_f h20
            exact absurd (h20.symm.trans (hD)) (by decide)
          · skip
            have h20 := bI_t h20
            refine Exists.intro (nI k) (And.intro ((nI_sub (by omega)).trans (congrArg nI (by omega))) ?_)
            refine Exists.intro (nI 5) (And.intro rfl ?_)
            refine And.intro (fun h27 => ?_) (fun h27 => ?_)
            · skip
              have h27 := nI_leT (a := 5) (b := k) (by decide) (by omega) h27
              exact absurd h27 (by omega)
            · skip
              have h27 := nI_leF (a := 5) (b := k) (by decide) (by omega) h27
              refine Exists.intro (nI 10) (And.intro rfl ?_)
              refine Exists.intro (nI ((q_dv T s k) * 10)) (And.intro (pk_mul _ _) ?_)
              refine And.intro rfl (Exists.intro _ (And.intro (by decide) (qx_M_mono (mb) ?_)))
              rintro _ _ ⟨rfl, rfl⟩
              refine Exists.intro (nI ((q_dv T s k) * 10 + (T.2 (s + k)))) (And.intro (nI_add _ _) ?_)
              refine Exists.intro (nI 48) (And.intro rfl ?_)
              refine Exists.intro (nI (q_dv T s (k + 1))) (And.intro ((nI_sub (a := q_dv T s k * 10 + T.2 (s + k)) (b := 48) (by omega)).trans (congrArg nI (show q_dv T s k * 10 + T.2 (s + k) - 48 = 10 * q_dv T s k + (T.2 (s + k) - 48) by omega))) ?_)
              refine Exists.intro (nI (s + k + 1)) (And.intro (nI_add _ _) ?_)
              exact nx
      · rw [show min 5 (k + 1) = 5 by omega] at nx
        rw [show min 5 k = 5 by omega]
        have mb2 := c_byteAt (G := G) hT (k := s + k) (by omega)
        refine qy_wp_ok (c := CX9_cutNumber) (cuts := [4, 50]) vX9_cutNumber wX9_cutNumber 2000 4 _ _ _ ?_
        refine And.intro rfl (Exists.intro 4 (Exists.intro (nI T.1) (And.intro rfl (And.intro t1 ?_))))
        refine And.intro (fun h9 => ?_) (fun h9 => ?_)
        · skip
          have h9 := nI_leT (a := T.1) (b := s + k) (by omega) (by omega) h9
          exact absurd h9 (by omega)
        · skip
          have h9 := nI_leF (a := T.1) (b := s + k) (by omega) (by omega) h9
          refine And.intro rfl (Exists.intro _ (And.intro (by decide) (qx_M_mono (mb2) ?_)))
          rintro _ _ ⟨rfl, rfl⟩
          refine Exists.intro _ (And.intro (by decide) (qx_M_mono (c_isDigit hb (s + k)) ?_))
          rintro _ _ ⟨rfl, rfl⟩
          refine And.intro (fun h20 => ?_) (fun h20 => ?_)
          · skip
            have h20 := bI_f h20
            exact absurd (h20.symm.trans (hD)) (by decide)
          · skip
            have h20 := bI_t h20
            refine Exists.intro (nI k) (And.intro ((nI_sub (by omega)).trans (congrArg nI (by omega))) ?_)
            refine Exists.intro (nI 5) (And.intro rfl ?_)
            refine And.intro (fun h27 => ?_) (fun h27 => ?_)
            · skip
              have h27 := nI_leT (a := 5) (b := k) (by decide) (by omega) h27
              refine Exists.intro (nI (s + k + 1)) (And.intro (nI_add _ _) ?_)
              exact nx
            · skip
              have h27 := nI_leF (a := 5) (b := k) (by decide) (by omega) h27
              exact absurd h27 (by omega)
    | false =>
      have g : s ≤ q_de T s := q_rn_ge (isD T) T.1 s
      have ew : q_de T s = s + k := by
        have h1 : s + k ≤ q_de T s := by
          rcases Nat.lt_or_ge (q_de T s) (s + k) with z | z
          · have y := hl (q_de T s - s) (by omega)
            rw [show s + (q_de T s - s) = q_de T s by omega, q_rn_end (isD_n T) hs] at y
            cases y
          · exact z
        have h2 : q_de T s ≤ s + k := by
          rcases Nat.lt_or_ge (s + k) (q_de T s) with z | z
          · rw [q_rn_in (f := isD T) (n := T.1) (i := s) (by omega) z] at hD
            cases hD
          · exact z
        omega
      have en : q_dv T s (min 5 k) = q_nu T s := by
        unfold q_nu
        rw [ew, show s + k - s = k by omega]
      rw [en, ew]
      have mb2 := c_byteAt (G := G) hT (k := s + k) (by omega)
      refine qy_wp_ok (c := CX9_cutNumber) (cuts := [4]) vX9_cutNumber wX9_cutNumber 2000 4 _ _ _ ?_
      refine And.intro rfl (Exists.intro 4 (Exists.intro (nI T.1) (And.intro rfl (And.intro t1 ?_))))
      refine And.intro (fun h9 => ?_) (fun h9 => ?_)
      · skip
        have h9 := nI_leT (a := T.1) (b := s + k) (by omega) (by omega) h9
        refine Exists.intro (nI k) (And.intro ((nI_sub (by omega)).trans (congrArg nI (by omega))) ?_)
        refine Exists.intro (nI 5) (And.intro rfl ?_)
        refine And.intro (fun h55 => ?_) (fun h55 => ?_)
        · skip
          have h55 := nI_ltT (a := 5) (b := k) (by decide) (by omega) h55
          refine Exists.intro (nI 257) (And.intro rfl ?_)
          refine And.intro rfl (Exists.intro _ (And.intro (by decide) (qx_M_mono (c_keep hn e5 (nI 257) (nI s) (nI (q_nu T s))) ?_)))
          rintro _ σ1 ⟨rfl, fσ1, kσ1⟩
          first | (rw [if_pos (by omega)]; exact ⟨rfl, fσ1, kσ1⟩) | (rw [if_neg (by omega)]; exact ⟨rfl, fσ1, kσ1⟩)
        · skip
          have h55 := nI_ltF (a := 5) (b := k) (by decide) (by omega) h55
          refine Exists.intro (nI 256) (And.intro rfl ?_)
          refine And.intro rfl (Exists.intro _ (And.intro (by decide) (qx_M_mono (c_keep hn e5 (nI 256) (nI s) (nI (q_nu T s))) ?_)))
          rintro _ σ1 ⟨rfl, fσ1, kσ1⟩
          first | (rw [if_pos (by omega)]; exact ⟨rfl, fσ1, kσ1⟩) | (rw [if_neg (by omega)]; exact ⟨rfl, fσ1, kσ1⟩)
      · skip
        have h9 := nI_leF (a := T.1) (b := s + k) (by omega) (by omega) h9
        refine And.intro rfl (Exists.intro _ (And.intro (by decide) (qx_M_mono (mb2) ?_)))
        rintro _ _ ⟨rfl, rfl⟩
        refine Exists.intro _ (And.intro (by decide) (qx_M_mono (c_isDigit hb (s + k)) ?_))
        rintro _ _ ⟨rfl, rfl⟩
        refine And.intro (fun h20 => ?_) (fun h20 => ?_)
        · skip
          have h20 := bI_f h20
          refine Exists.intro (nI k) (And.intro ((nI_sub (by omega)).trans (congrArg nI (by omega))) ?_)
          refine Exists.intro (nI 5) (And.intro rfl ?_)
          refine And.intro (fun h55 => ?_) (fun h55 => ?_)
          · skip
            have h55 := nI_ltT (a := 5) (b := k) (by decide) (by omega) h55
            refine Exists.intro (nI 257) (And.intro rfl ?_)
            refine And.intro rfl (Exists.intro _ (And.intro (by decide) (qx_M_mono (c_keep hn e5 (nI 257) (nI s) (nI (q_nu T s))) ?_)))
            rintro _ σ1 ⟨rfl, fσ1, kσ1⟩
            first | (rw [if_pos (by omega)]; exact ⟨rfl, fσ1, kσ1⟩) | (rw [if_neg (by omega)]; exact ⟨rfl, fσ1, kσ1⟩)
          · skip
            have h55 := nI_ltF (a := 5) (b := k) (by decide) (by omega) h55
            refine Exists.intro (nI 256) (And.intro rfl ?_)
            refine And.intro rfl (Exists.intro _ (And.intro (by decide) (qx_M_mono (c_keep hn e5 (nI 256) (nI s) (nI (q_nu T s))) ?_)))
            rintro _ σ1 ⟨rfl, fσ1, kσ1⟩
            first | (rw [if_pos (by omega)]; exact ⟨rfl, fσ1, kσ1⟩) | (rw [if_neg (by omega)]; exact ⟨rfl, fσ1, kσ1⟩)
        · skip
          have h20 := bI_t h20
          exact absurd (h20.symm.trans (hD)) (by decide)
theorem c_cutNumber {G : qx_G} {σ : qx_S} {T : q_T} (hT : tC σ T) {s n : Nat} (hs : s ≤ T.1) (hn : n ≤ 400) (e5 : qx_mi σ 4 5 = nI n) : qx_M G qc_T 1 YX9_cutNumber [.ref 4, .int (nI s)] σ (fun r s' => r = some (.int (nI (q_de T s))) ∧ ql kK σ s' ∧ q_kp σ s' n (nI (if q_de T s - s ≤ 5 then 256 else 257)) (nI s) (nI (q_nu T s))) := by
  refine qx_M_in rfl (Nat.le_of_ble_eq_true rfl) ?_
  refine qy_wp_ok (c := CX9_cutNumber) (cuts := [4]) vX9_cutNumber wX9_cutNumber 2000 0 _ _ _ ?_
  refine Exists.intro (nI 0) (And.intro rfl ?_)
  exact l_cutNumber hT hs hn e5 _ 0 rfl (by omega) (fun j hj => absurd hj (by omega))

