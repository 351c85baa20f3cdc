/-! THE CLASS: country -/
/-- the rule in force is the object v -/
def inF (σ : qx_S) (v : Option Nat) : Prop := (v = none ∧ qx_mi σ 15 9 = -1) ∨ ∃ f nr x, v = some x ∧ qx_mi σ 15 9 = nI f ∧ qx_mi σ 3 15 = nI nr ∧ nr ≤ 6 ∧ f < nr ∧ qx_mr σ 14 f = some x
theorem inF.fr {σ s : qx_S} {v : Option Nat} {l : List (Nat × Option Nat)} (h : inF σ v) (f : ql l σ s) (h1 : pL l 15 9 = false) (h2 : pL l 3 15 = false) : inF s v := by
  rcases h with ⟨a, b⟩ | ⟨g, nr, x, a1, a2, a3, a4, a5, a6⟩
  · exact Or.inl ⟨a, (f.i _ _ h1).trans b⟩
  · exact Or.inr ⟨g, nr, x, a1, (f.i _ _ h1).trans a2, (f.i _ _ h2).trans a3, a4, a5, (f.r _ _).trans a6⟩
theorem c_stirV {G : qx_G} {σ : qx_S} {e : Nat} {v : Option Nat} (h8 : qx_mi σ 156 8 = nI e) (h : inF σ v) : qx_M G qc_T 1 YX11_stir [.ref 3] σ (fun r s' => r = none ∧ s' = qx_wi (qx_wr σ 156 7 v) 156 8 (nI (e + 1))) := by
  rcases h with ⟨a, b⟩ | ⟨g, nr, x, a1, a2, a3, a4, a5, a6⟩
  · rw [a]
    exact c_stir0 h8 b
  · rw [a1]
    exact c_stir h8 a2 a3 a4 a5 a6
abbrev kE4 : List (Nat × Option Nat) := [(9, none), (10, none), (11, none), (12, none), (13, none), (4, none), (6, none), (7, none), (8, none)]
theorem c_country_no {G : qx_G} (hG : kStr G) {σ : qx_S} {T : q_T} {D : qS} {f : Nat} (hT : tC σ T) (e : q_cty T D = .error f) : qx_M G qc_T 12 YX11_country [.ref 3] σ (fun r s' => r = some (.int (-2 - nI f)) ∧ ql kE4 σ s' ∧ tC s' (0, T.2)) := by
  have mr := c_readFrom (G := G) hG hT D
  rw [e] at mr
  refine qx_M_in rfl (Nat.le_of_ble_eq_true rfl) ?_
  refine qy_wp_ok (c := CX11_country) (cuts := []) vX11_country wX11_country 2000 0 _ _ _ ?_
  refine And.intro rfl (Exists.intro 9 (And.intro rfl ?_))
  refine And.intro rfl (Exists.intro 4 (And.intro rfl ?_))
  refine And.intro rfl (Exists.intro _ (And.intro (by decide) (qx_M_mono (mr) ?_)))
  rintro _ ρ ⟨fρ, rfl, gρ⟩
  refine And.intro rfl (Exists.intro 4 (And.intro rfl ?_))
  refine Exists.intro (nI 0) (And.intro rfl ?_)
  obtain ⟨σ2, eσ2⟩ : ∃ zs, zs = (qx_wi ρ 4 4 (nI 0)) := ⟨_, rfl⟩
  have fσ2 := qn_wif eσ2
  refine And.intro rfl (Exists.intro 4 (Exists.intro σ2 (And.intro rfl (And.intro eσ2.symm ?_))))
  refine And.intro (fun h21 => ?_) (fun h21 => ?_)
  · skip
    have h21 := bI_t h21
    exact absurd (h21.symm.trans (rfl)) (by decide)
  · skip
    have h21 := bI_f h21
    refine Exists.intro ((-2)) (And.intro (by decide) ?_)
    refine And.intro rfl (Exists.intro 4 (And.intro rfl ?_))
    refine And.intro rfl (Exists.intro 7 (Exists.intro (nI f) (And.intro rfl (And.intro ((qn_ne eσ2 (Or.inr (by decide))).trans (gρ)) ?_))))
    refine Exists.intro ((-2) - (nI f)) (And.intro rfl ?_)
    exact ⟨rfl, (fρ.mn (by decide)).tr (fσ2.mn (by decide)), qn_eq eσ2, Nat.zero_le _, fun k hk => absurd hk (by show ¬ k < 0; omega)⟩
abbrev kE5 : List (Nat × Option Nat) := [(9, none), (10, none), (11, none), (12, none), (13, none), (4, none), (6, none), (7, none), (8, none), (16, none), (17, none), (18, none), (19, none), (20, none), (21, none), (22, none), (23, none), (24, none), (25, none), (27, some 1), (15, some 8), (15, some 7), (30, none)]
/-- the state at 15 is that of a new country -/
def nwC (s : qx_S) (E : qS) : Prop := dR s 16 E ∧ (∀ p, p < s_n E 1 → qx_mi s 22 p = E (10 + 5 * p + 2)) ∧ (qx_mi s 21 4 = nI 1 ∧ qx_mi s 21 5 = nI 0 ∧ (∀ j, j < 10 → qx_mi s 23 j = nI 0 ∧ qx_mi s 25 j = nI 0) ∧ ∀ j, j < 100 → qx_mi s 24 j = nI 0) ∧ qx_mi s 27 1 = nI 0 ∧ qx_mi s 15 8 = nI 0 ∧ qx_mi s 15 7 = nI 0 ∧ ∀ j, j < 10 → qx_mi s 30 j = -1
theorem c_country_ok {G : qx_G} (hG : kStr G) {σ : qx_S} {T : q_T} {D E : qS} {e : Nat} {v : Option Nat} (hT : tC σ T) (g : gD E) (eq : q_cty T D = .ok E) (h8 : qx_mi σ 156 8 = nI e) (hv : inF σ v) : qx_M G qc_T 12 YX11_country [.ref 3] σ (fun r s' => r = some (.int (E 1)) ∧ ∃ s, ql kE5 σ s ∧ tC s (0, T.2) ∧ nwC s E ∧ s' = qx_wi (qx_wr s 156 7 v) 156 8 (nI (e + 1))) := by
  have mr := c_readFrom (G := G) hG hT D
  rw [eq] at mr
  have b1 := g.2.1.2
  have key : ∀ ρ σ1 τ, ql kE σ ρ → dR ρ 9 E → σ1 = qx_wi ρ 4 4 (nI 0) → ql kBI σ1 τ → dR τ 16 E → nwS σ1 τ 21 11 → qx_mi τ 27 1 = nI 0 → qx_mi τ 15 8 = nI 0 → qx_mi τ 15 7 = nI 0 → (∀ j, j < 10 → qx_mi τ 30 j = -1) → ql kE5 σ τ ∧ tC τ (0, T.2) ∧ nwC τ E := by
    intro ρ σ1 τ f1 hd e1 f2 h1 h2 h3 h4 h5 h6
    refine ⟨(f1.mn (by decide)).tr (((qn_wif e1).mn (by decide)).tr (f2.mn (by decide))), ⟨(f2.i _ _ rfl).trans (qn_eq e1), Nat.zero_le _, fun k hk => absurd hk (by show ¬ k < 0; omega)⟩, h1, fun p hp => ((h2.2.2.1 p (by omega)).1.trans (qn_ne e1 (Or.inl (by decide)))).trans (hd.2.2.2.1 p hp).2, ⟨h2.1, h2.2.1, fun j hj => (h2.2.2.1 j hj).2, h2.2.2.2⟩, h3, h4, h5, h6⟩
  have fk : ∀ ρ σ1, ql kE σ ρ → σ1 = qx_wi ρ 4 4 (nI 0) → dR ρ 9 E → dR σ1 9 E := fun ρ σ1 _ e1 hd => hd.fb g (fun k hk j => qn_ne e1 (Or.inl (by omega)))
  refine qx_M_in rfl (Nat.le_of_ble_eq_true rfl) ?_
  refine qy_wp_ok (c := CX11_country) (cuts := []) vX11_country wX11_country 2000 0 _ _ _ ?_
  refine And.intro rfl (Exists.intro 9 (And.intro rfl ?_))
  refine And.intro rfl (Exists.intro 4 (And.intro rfl ?_))
  refine And.intro rfl (Exists.intro _ (And.intro (by decide) (qx_M_mono (mr) ?_)))
  rintro _ ρ ⟨fρ, rfl, dρ⟩
  refine And.intro rfl (Exists.intro 4 (And.intro rfl ?_))
  refine Exists.intro (nI 0) (And.intro rfl ?_)
  obtain ⟨σ2, eσ2⟩ : ∃ zs, zs = (qx_wi ρ 4 4 (nI 0)) := ⟨_, rfl⟩
  have fσ2 := qn_wif eσ2
  refine And.intro rfl (Exists.intro 4 (Exists.intro σ2 (And.intro rfl (And.intro eσ2.symm ?_))))
  refine And.intro (fun h21 => ?_) (fun h21 => ?_)
  · skip
    have h21 := bI_t h21
    refine And.intro rfl (Exists.intro 15 (And.intro rfl ?_))
    refine And.intro rfl (Exists.intro 9 (And.intro rfl ?_))
    refine And.intro rfl (Exists.intro _ (And.intro (by decide) (qx_M_mono (c_beginIn (fk _ _ fρ eσ2 dρ) g) ?_)))
    rintro _ τ ⟨rfl, fτ, t1, t2, t3, t4, t5, t6⟩
    refine And.intro rfl (Exists.intro _ (And.intro (by decide) (qx_M_mono (c_stirV ((key _ _ _ fρ dρ eσ2 fτ t1 t2 t3 t4 t5 t6).1.i 156 8 rfl |>.trans h8) (hv.fr (key _ _ _ fρ dρ eσ2 fτ t1 t2 t3 t4 t5 t6).1 rfl rfl)) ?_)))
    rintro _ μ ⟨rfl, eμ⟩
    refine And.intro rfl (Exists.intro 15 (And.intro rfl ?_))
    refine And.intro rfl (Exists.intro 16 (And.intro rfl ?_))
    refine And.intro rfl (Exists.intro 5 (Exists.intro (E 1) (And.intro rfl (And.intro ((congrArg (fun s => qx_mi s 16 5) eμ).trans ((qw_ne (Or.inl (by decide))).trans t1.2.1)) ?_))))
    exact ⟨rfl, τ, (key _ _ _ fρ dρ eσ2 fτ t1 t2 t3 t4 t5 t6).1, (key _ _ _ fρ dρ eσ2 fτ t1 t2 t3 t4 t5 t6).2.1, (key _ _ _ fρ dρ eσ2 fτ t1 t2 t3 t4 t5 t6).2.2, eμ⟩
  · skip
    have h21 := bI_f h21
    exact absurd (h21.symm.trans (rfl)) (by decide)

