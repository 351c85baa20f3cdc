/-! rule -/
theorem cI.rd {σ s : qx_S} {S : qS} {rf : Option qR} {e : Nat} (h : cI σ S rf e) (h1 : σ.1 ≤ s.1) (d : ∀ a, a < σ.1 → s.2.2.1 a = σ.2.2.1 a) (i : ∀ a j, a < σ.1 → (9 ≤ a ∧ a < 191) ∨ qx_sh qc_T σ a = (0, 6400) ∨ (∃ y, qx_mr σ 156 7 = some y ∧ y ≤ a ∧ a ≤ y + 5) → qx_mi s a j = qx_mi σ a j) (r : ∀ a j, a = 26 ∨ a = 29 ∨ a = 156 → qx_mr s a j = qx_mr σ a j) (hin : inF s (qx_mr s 156 7)) : cI s S rf e := by
  have h9 := h.2.2.2.2.2.2.2.2
  have sv : ∀ a, a < σ.1 → qx_sh qc_T s a = qx_sh qc_T σ a := fun a ha => kx_sh (d a ha)
  have lo : ∀ a j, 9 ≤ a → a < 191 → qx_mi s a j = qx_mi σ a j := fun a j h9' ha => i a j (by omega) (Or.inl ⟨h9', ha⟩)
  obtain ⟨a1, a2, a3, a4, a5, a6, a7, a8, a9⟩ := h
  refine ⟨a1, a2.fb a1.1.1 a1.b12 (fun y j h1 h2 => lo _ _ (by omega) (by omega)), ?_, (r _ _ (by omega)).trans a4, ?_, ?_, ⟨(lo _ _ (by omega) (by omega)).trans a7.1, a7.2.1, (lo _ _ (by omega) (by omega)).trans a7.2.2.1, fun p a q hp ha hq => ?_⟩, ?_, by omega⟩
  · obtain ⟨b1, b2, b3, b4, b5, b6, b7, b8, b9⟩ := a3
    refine ⟨rfl, b2, b3, rfl, b5, rfl, rfl, fun i hi => ⟨(r _ _ (by omega)).trans (b8 i hi).1, ?_⟩, fun i hi => ⟨(r _ _ (by omega)).trans (b9 i hi).1, ?_⟩⟩
    · have w := (b8 i hi).2
      exact ⟨(sv _ (by omega)).trans w.1, (sv _ (by omega)).trans w.2.1, (sv _ (by omega)).trans w.2.2.1, (sv _ (by omega)).trans w.2.2.2.1, (sv _ (by omega)).trans w.2.2.2.2⟩
    · have w := (b9 i hi).2
      exact ⟨(sv _ (by omega)).trans w.1, (sv _ (by omega)).trans w.2⟩
  · cases rf with
    | none => exact (r _ _ (by omega)).trans a5
    | some R =>
      obtain ⟨x, h1', h2, h3, h4, h5⟩ := a5
      have h2b := h2.2
      refine ⟨x, (r _ _ (by omega)).trans h1', ⟨h2.1, by omega⟩, uR.sh h3 (fun y _ hy => sv _ (by omega)), h4.lo (fun y hy hy2 j => i _ _ (by omega) (Or.inr (Or.inr ⟨x, h1', hy, hy2⟩))), h5⟩
  · exact hin
  · obtain ⟨v, w1, w2⟩ := a7.2.2.2 p a q hp ha hq
    exact ⟨v, (lo _ _ (by omega) (by omega)).trans w1, w2⟩
  · rcases a8 with t1 | ⟨t, t1⟩
    · exact Or.inl ((r _ _ (by omega)).trans t1)
    · refine Or.inr ⟨t, (r _ _ (by omega)).trans t1.1, t1.2.1, by have := t1.2.2.1; omega, (sv _ t1.2.2.1).trans t1.2.2.2.1, fun i' j x y hi hj hx hy => ?_⟩
      obtain ⟨v, w1, w2⟩ := t1.2.2.2.2 i' j x y hi hj hx hy
      exact ⟨v, (i _ _ t1.2.2.1 (Or.inr (Or.inl t1.2.2.2.1))).trans w1, w2⟩