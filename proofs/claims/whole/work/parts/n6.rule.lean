/-! rule -/
theorem cI.rd {σ s : qx_S} {S : qS} {rf : Option qR} {e : Nat} (h : cI σ S rf e) (h1 : σ.1 ≤ s.1) (d : ∀ a, a < σ.1 → s.2.2.1 a = σ.2.2.1 a) (i : ∀ a j, a < σ.1 → (9 ≤ a ∧ a < 191) ∨ qx_sh qc_T σ a = (0, 6400) ∨ (∃ y, qx_mr σ 156 7 = some y ∧ y ≤ a ∧ a ≤ y + 5) → qx_mi s a j = qx_mi σ a j) (r : ∀ a j, a = 26 ∨ a = 29 ∨ a = 156 → qx_mr s a j = qx_mr σ a j) (hin : inF s (qx_mr s 156 7)) : cI s S rf e := by
  have h9 := h.2.2.2.2.2.2.2.2
  have sv : ∀ a, a < σ.1 → qx_sh qc_T s a = qx_sh qc_T σ a := fun a ha => kx_sh (d a ha)
  have lo : ∀ a j, 9 ≤ a → a < 191 → qx_mi s a j = qx_mi σ a j := fun a j h9' ha => i a j (by omega) (Or.inl ⟨h9', ha⟩)
  obtain ⟨a1, a2, a3, a4, a5, a6, a7, a8, a9⟩ := h
  refine ⟨a1, a2.fb a1.1.1 a1.b12 (fun y j h1 h2 => lo _ _ (by omega) (by omega)), ?_, (r _ _ (by omega)).trans a4, ?_, ?_, ⟨(lo _ _ (by omega) (by omega)).trans a7.1, a7.2.1, (lo _ _ (by omega) (by omega)).trans a7.2.2.1, fun p a q hp ha hq => ?_⟩, ?_, by omega⟩
  · obtain ⟨b1, b2, b3, b4, b5, b6, b7, b8, b9⟩ := a3
    refine ⟨rfl, b2, b3, rfl, b5, rfl, rfl, fun i hi => ⟨(r _ _ (by omega)).trans (b8 i hi).1, ?_⟩, fun i hi => ⟨(r _ _ (by omega)).trans (b9 i hi).1, ?_⟩⟩
    · have w := (b8 i hi).2
      exact ⟨(sv _ (by omega)).trans w.1, (sv _ (by omega)).trans w.2.1, (sv _ (by omega)).trans w.2.2.1, (sv _ (by omega)).trans w.2.2.2.1, (sv _ (by omega)).trans w.2.2.2.2⟩
    · have w := (b9 i hi).2
      exact ⟨(sv _ (by omega)).trans w.1, (sv _ (by omega)).trans w.2⟩
  · cases rf with
    | none => exact (r _ _ (by omega)).trans a5
    | some R =>
      obtain ⟨x, h1', h2, h3, h4, h5⟩ := a5
      have h2b := h2.2
      refine ⟨x, (r _ _ (by omega)).trans h1', ⟨h2.1, by omega⟩, uR.sh h3 (fun y _ hy => sv _ (by omega)), h4.lo (fun y hy hy2 j => i _ _ (by omega) (Or.inr (Or.inr ⟨x, h1', hy, hy2⟩))), h5⟩
  · exact hin
  · obtain ⟨v, w1, w2⟩ := a7.2.2.2 p a q hp ha hq
    exact ⟨v, (lo _ _ (by omega) (by omega)).trans w1, w2⟩
  · rcases a8 with t1 | ⟨t, t1⟩
    · exact Or.inl ((r _ _ (by omega)).trans t1)
    · refine Or.inr ⟨t, (r _ _ (by omega)).trans t1.1, t1.2.1, by have := t1.2.2.1; omega, (sv _ t1.2.2.1).trans t1.2.2.2.1, fun i' j x y hi hj hx hy => ?_⟩
      obtain ⟨v, w1, w2⟩ := t1.2.2.2.2 i' j x y hi hj hx hy
      exact ⟨v, (i _ _ t1.2.2.1 (Or.inr (Or.inl t1.2.2.2.1))).trans w1, w2⟩
theorem qT_no {σ : qx_S} {x : Nat} (h : x = 4 ∨ x = 6 ∨ x = 7 ∨ x = 8) : qx_sh qc_T σ x ≠ (0, 6400) := by
  have q : ∀ y, y < 5 → qc_T (4 + y) ≠ some (0, 6400) ∧ qc_T (4 + y) ≠ none := by decide
  obtain ⟨q1, q2⟩ := q (x - 4) (by omega)
  rw [show 4 + (x - 4) = x by omega] at q1 q2
  intro w
  unfold qx_sh at w
  cases hq : qc_T x with
  | none => exact q2 hq
  | some v => rw [hq] at w q1; exact q1 (congrArg some w)
theorem pD_nq {a x j : Nat} (h1 : ¬ (a ≤ x ∧ x ≤ a + 5)) (h2 : x ≠ 4 ∧ x ≠ 6 ∧ x ≠ 7 ∧ x ≠ 8) : pD a x j = false := by
  unfold pD
  rw [decide_eq_false h1, show pL [(4, none), (6, none), (7, none), (8, none)] x j = false from pL_ne (by simp; omega)]
  rfl
/-- a rule that can't be read -/
theorem z_rule_err {G : qx_G} (hG : kStr G) {n f : Nat} {σ : qx_S} {S : qS} {nr : Nat} {Rs : Nat → qR} {T : q_T} {J : Nat → Option qS} {e : Nat} {ow : Nat → Nat} (k : zK n σ S nr Rs T J e ow) (hr : nr < 6) (hq : q_ru T = .error f) : qx_M G qc_T 37 YX11_rule [.ref 3] σ (fun r s => r = some (.int (-2 - nI f)) ∧ (∃ ow', zC s S nr Rs (0, T.2) J e ow') ∧ zM s S nr Rs T J ∧ po s ≤ po σ + 3200 ∧ pcl s ≤ pcl σ + 140) := by
  obtain ⟨⟨c1, c2, c3, c4, c5, c6, c7, c8⟩, hM, -⟩ := k
  have h9 := c1.1.2.2.2.2.2.2.2.2
  obtain ⟨a, d1, d2, d3, d4⟩ := c5
  have hx := d3.x d2.1
  refine qx_M_mono (c_rule_err hG c6 c4.1.1 hr d1 d3 hq) (fun r s z => ?_)
  obtain ⟨z1, fr, z3⟩ := z
  have fk := qf.k fr
  obtain ⟨p3, p4⟩ := po_eq fr.1 fr.2.1 fr.2.2.2.1
  have lo : ∀ x j, 9 ≤ x → x < 191 → pD a x j = false := fun x j q1 q2 => pD_nq (by omega) (by omega)
  have hi : ∀ x j, 191 ≤ x → ow x ≠ 3 → pD a x j = false := fun x j q1 q2 => pD_nq (fun w => q2 (d4 x w.1 (by omega))) (by omega)
  have p315 : ∀ j, pD a 3 j = false := fun j => pD_nq (by omega) (by omega)
  have hI : cI s S (q_rf nr Rs (S 7)) e := by
    refine c1.1.rd fk.1 fk.2.1 (fun x j xl hx' => ?_) (fun x j _ => fr.r x j) ?_
    · rcases hx' with w | w | ⟨y, y1, y2, y3⟩
      · exact fr.i _ _ (lo x j w.1 w.2)
      · refine fr.i _ _ (pD_nq (fun v => d3.no v.1 v.2 w) ?_)
        exact ⟨fun v => qT_no (by omega) w, fun v => qT_no (by omega) w, fun v => qT_no (by omega) w, fun v => qT_no (by omega) w⟩
      · rcases c1.1.2.2.2.2.2.1 with ⟨v1, -⟩ | ⟨g, nr', x', v1, v2, v3, v4, v5, v6⟩
        · rw [v1] at y1; cases y1
        · rw [v1] at y1
          have ey : x' = y := Option.some.inj y1
          subst ey
          have en : nI nr' = nI nr := v3.symm.trans c4.1.1
          have enr : nr' = nr := nI_eqT (by omega) (by omega) en
          have ho := c4.2 g x' (by omega) v6 x y2 (by omega)
          obtain ⟨y', q1, q2, -⟩ := c4.1.2.2 g (by omega)
          have q3 : y' = x' := by rw [v6] at q1; exact (Option.some.inj q1).symm
          exact fr.i _ _ (hi x j (by omega) (by omega))
    · rw [show qx_mr s 156 7 = qx_mr σ 156 7 from fr.r _ _]
      rcases c1.1.2.2.2.2.2.1 with ⟨v1, v2⟩ | ⟨g, nr', x', v1, v2, v3, v4, v5, v6⟩
      · exact Or.inl ⟨v1, (fr.i _ _ (lo _ _ (by omega) (by omega))).trans v2⟩
      · exact Or.inr ⟨g, nr', x', v1, (fr.i _ _ (lo _ _ (by omega) (by omega))).trans v2, (fr.i _ _ (p315 _)).trans v3, v4, v5, (fr.r _ _).trans v6⟩
  exact ⟨z1, ⟨ow, c1.k fk ⟨p315 _, fun _ => lo _ _ (by omega) (by omega), fun x j w => lo _ _ (by omega) (by omega), fun x j w => lo _ _ (by omega) (by omega)⟩ hI, c2.k h9 fk (fun _ _ => rfl) rfl (fun x j q1 _ w => hi x j q1 (by omega)), c3.k h9 fk (fun _ _ => rfl) rfl (fun x j q1 _ w => hi x j q1 (by omega)), c4.k h9 fk (fun _ _ => rfl) (p315 _) (fun _ _ => rfl) (fun x j q1 _ w w2 => hi x j q1 (by omega)), ⟨a, (fr.r _ _).trans d1, by rw [fr.1]; exact d2, d3.fr fr, d4⟩, z3, c7.k h9 fk (fun _ _ => rfl) (fun _ => rfl) (fun _ _ _ => rfl) (fun x j q1 _ w => hi x j q1 (by omega)), c8⟩, hM.k h9 fk (fun x j q1 q2 => hi x j (by omega) (by rw [c8 x q1 q2]; omega)), by omega, by omega⟩
