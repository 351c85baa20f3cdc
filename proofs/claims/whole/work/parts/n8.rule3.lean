/-! rule, side by side -/
theorem mR1.bz {σ s : qx_S} {t nr : Nat} {R : qR} (h : mR1 σ t R) (hb : bZ σ s nr) (ht : t < nr) (h1 : q_len R ≤ 400) (h2 : q_nc R ≤ 12) : mR1 s t R := by
  obtain ⟨a, b, c, d⟩ := h
  refine ⟨a, (hb.2.2 t (by omega)).trans b, fun i hi => (hb.1 _ (by omega)).trans (c i hi), fun i hi => ?_⟩
  obtain ⟨d1, d2, d3, d4, d5⟩ := d i hi
  exact ⟨(hb.2.1 _ (by omega)).trans d1, (hb.2.1 _ (by omega)).trans d2, (hb.2.1 _ (by omega)).trans d3, (hb.2.1 _ (by omega)).trans d4, (hb.2.1 _ (by omega)).trans d5⟩
theorem zM.ru {σ s : qx_S} {S : qS} {nr nr' : Nat} {Rs Rs' : Nat → qR} {T : q_T} {J : Nat → Option qS} (h : zM σ S nr Rs T J) (f : ql lRu σ s) (h2 : qx_mi s 197 2 = nI nr') (hR : ∀ t, t < nr' → mR1 s t (Rs' t)) (hT : tR s (0, T.2)) : (∃ l, ql l σ s ∧ kRf l = true) ∧ zM s S nr' Rs' (0, T.2) J :=
  ⟨⟨_, f, rfl⟩, (f.row _ (fun _ => rfl)).trans h.1, h2, (f.i _ _ rfl).trans h.2.2.1, hR, hT, fun k hk => ⟨fun z => (f.i _ _ rfl).trans ((h.2.2.2.2.2 k hk).1 z), fun I z => ⟨(f.i _ _ rfl).trans ((h.2.2.2.2.2 k hk).2 I z).1, fun j hj => (f.i _ _ rfl).trans (((h.2.2.2.2.2 k hk).2 I z).2 j hj)⟩⟩⟩
