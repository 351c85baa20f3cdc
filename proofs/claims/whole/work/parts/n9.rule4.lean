theorem gX.r1 {S : qS} {nr : Nat} (h : gX S nr) (hr : nr < 6) : gX S (nr + 1) := by
  obtain ⟨a, b, c, d, f, g, i, j⟩ := h
  refine ⟨a, b, c, d, f, g, i, j.imp id (fun w => ?_)⟩
  obtain ⟨t, t1, t2⟩ := q_is_t w (by omega)
  rw [t2]
  exact q_is_ok (by omega) (by omega)
theorem z_rule {G : qx_G} (hG : kStr G) {n : Nat} {σ : qx_S} (h : zZ n σ) : zO G YX11_rule YX12_rule [] n σ := by
  obtain ⟨S, nr, Rs, T, J, e, ow, k⟩ := h.k
  have r6 := k.r6
  rcases (show nr = 6 ∨ nr < 6 by omega) with z | hr
  · subst z
    exact zPair0 h (by decide) (by decide) (c_rule_full k.1.2.2.2.1.1.1) (m_rule_no k.2.1.2.1)
  · have wf : ∀ t, t < nr → q_len (Rs t) ≤ 400 ∧ q_nc (Rs t) ≤ 12 := fun t ht => ⟨(k.2.1.2.2.2.1 t ht).1.2.1, (k.2.1.2.2.2.1 t ht).1.1⟩
    cases hq : q_ru T with
    | error f =>
      refine zPair (v := -2 - nI f) (dr := 12) (S := S) (nr := nr) (Rs := Rs) (T := T) (J := J) (S' := S) (nr' := nr) (Rs' := Rs) (T' := (0, T.2)) (J' := J) (e' := e) (by omega) k.2.2.2.2.1 k.2.2.1 k.2.2.2.1 k.2.2.2.2.2.1 k.2.2.2.2.2.2 (by decide) (by decide) (z_rule_err hG k hr hq) (fun s hM => qx_M_mono (m_rule_ok hM.2.2.2.2.1 hM.2.1 hr) (fun r s' z => ?_))
      rw [hq] at z
      obtain ⟨z1, z2, z3, z4, z5⟩ := z
      exact ⟨z4, hM.ru z1 z5 (fun t ht => (hM.2.2.2.1 t ht).bz z2 ht (wf t ht).1 (wf t ht).2) z3⟩
    | ok R =>
      refine zPair (v := nI nr) (dr := 12) (S := S) (nr := nr) (Rs := Rs) (T := T) (J := J) (S' := S) (nr' := nr + 1) (Rs' := zR' Rs nr R) (T' := (0, T.2)) (J' := J) (e' := e) (by omega) k.2.2.2.2.1 (k.2.2.1.r1 hr) (fun i I hi w => (k.2.2.2.1 i I hi w).r1 hr) k.2.2.2.2.2.1 k.2.2.2.2.2.2 (by decide) (by decide) (z_rule_okc hG k hr hq) (fun s hM => qx_M_mono (m_rule_ok hM.2.2.2.2.1 hM.2.1 hr) (fun r s' z => ?_))
      rw [hq] at z
      obtain ⟨z1, z2, z3, z4, z5, z6⟩ := z
      have hw := q_ru_w hM.2.2.2.2.1.2.1 hq
      refine ⟨z4, hM.ru z1 z5 (fun t ht => ?_) z3⟩
      by_cases v : t = nr
      · subst v
        unfold zR'
        rw [if_pos rfl]
        exact ⟨hw, z6.1, z6.2.1, z6.2.2.2⟩
      · unfold zR'
        rw [if_neg v]
        exact (hM.2.2.2.1 t (by omega)).bz z2 (by omega) (wf t (by omega)).1 (wf t (by omega)).2
