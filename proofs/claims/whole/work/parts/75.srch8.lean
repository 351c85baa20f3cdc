/-! THE REFERENCE: searched -/
theorem sP.back {S S' : qS} (h : sP S S') (h10 : s_n S 1 ≤ 10) : q_pl S' (fun j => S (10 + 5 * j)) 10 = S := by
  funext i
  unfold q_pl
  split
  · next z =>
    show S (10 + 5 * ((i - 10) / 5)) = S i
    rw [show 10 + 5 * ((i - 10) / 5) = i by omega]
  · next z => exact h i (by omega)
abbrev lV : List (Nat × Option Nat) := [(197, some 45), (219, none), (220, none), (221, none), (222, none), (223, none), (224, none), (205, none), (206, none), (197, some 18), (208, none), (197, some 24), (207, none), (210, none)]
theorem m_searched {G : qx_G} {σ : qx_S} {S : qS} {rf : Option qR} {go : Option (Nat × Nat)} {gp gq : Int32} (hX : mX σ S rf none) (g : gS S) (hg : gR S go gp gq) : qx_M G qc_T 8 YX12_searched [.ref 197, .int gp, .int gq] σ (fun r s => r = some (.int (q_se S rf go).2) ∧ ql lV σ s ∧ mX s S rf none ∧ mS s (q_se S rf go).1 ∧ 0 < (q_se S rf go).1.1 ∧ ∀ i, i < (q_se S rf go).1.1 → q_vd S (q_co (q_se S rf go).1 i)) := by
  refine qx_M_in rfl (Nat.le_of_ble_eq_true rfl) ?_
  refine qy_wp_ok (c := CX12_searched) (cuts := []) vX12_searched wX12_searched 2000 0 _ _ _ ?_
  refine And.intro rfl (Exists.intro _ (And.intro (by decide) (qx_M_mono (m_keepsPlaces hX.1) ?_)))
  rintro _ σ1 ⟨rfl, fσ1, gσ1⟩
  refine And.intro rfl (Exists.intro _ (And.intro (by decide) (qx_M_mono (m_searches (hX.fr fσ1 rfl) g hg) ?_)))
  rintro _ σ2 ⟨rfl, fσ2, ⟨S', xσ2, sσ2⟩, mσ2, zσ2, vσ2⟩
  refine And.intro rfl (Exists.intro _ (And.intro (by decide) (qx_M_mono (m_putsPlacesBack (f := fun j => S (10 + 5 * j)) xσ2.1 (fun j hj => (fσ2.i _ _ rfl).trans (gσ1 j hj))) ?_)))
  rintro _ σ3 ⟨rfl, fσ3, cσ3⟩
  exact ⟨rfl, (fσ1.mn (m := lV) (by decide)).tr ((fσ2.mn (by decide)).tr (fσ3.mn (by decide))), xσ2.at fσ3 (cσ3.trans (sσ2.back g.2.1.2)) (sσ2 1 (by omega)).symm (sσ2 7 (by omega)).symm, mσ2.fr2 fσ3 rfl (fun _ => rfl) (fun _ => rfl) (fun _ => rfl) (fun _ => rfl) (fun _ => rfl) (fun _ => rfl), zσ2, vσ2⟩
/-- an answer of the search: -2, -3, or a situation -/
def q_an (B : q_B) (r : Int32) : Prop := r = -2 ∨ r = -3 ∨ ∃ i, i < B.1 ∧ r = nI i
theorem q_ev_an {S : qS} {rf : Option qR} {go : Option (Nat × Nat)} {k a b : Nat} {B B' : q_B} {r : Int32} (h : q_ev S rf go k a b B = (B', some r)) : q_an B' r := by
  by_cases z1 : q_cs S rf (q_co B k) a b = false
  · rw [q_ev_no z1] at h
    cases h
  have z1 : q_cs S rf (q_co B k) a b = true := by
    cases y : q_cs S rf (q_co B k) a b with
    | false => exact absurd y z1
    | true => rfl
  cases z2 : q_fi B (q_sw (s_n S 1) (q_co B k) a b) with
  | some t =>
    rw [q_ev_old (by rw [z2]; rfl)] at h
    cases h
  | none =>
    cases z3 : q_gl1 go (q_sw (s_n S 1) (q_co B k) a b) with
    | true =>
      rw [q_ev_goal z1 z2 z3] at h
      cases h
      exact Or.inr (Or.inr ⟨B.1, Nat.lt_succ_self _, rfl⟩)
    | false =>
      rcases Nat.lt_or_ge B.1 2000 with z4 | z4
      · rw [q_ev_new z1 z2 z4 z3] at h
        cases h
      · rw [q_ev_full z1 z2 z4 z3] at h
        cases h
        exact Or.inr (Or.inl rfl)
theorem q_lp_an {f : Nat → q_B → q_B × Option Int32} (hf : ∀ i B B' r, f i B = (B', some r) → q_an B' r) : ∀ (m i : Nat) (B B' : q_B) (r : Int32), q_lp f m i B = (B', some r) → q_an B' r
  | 0, i, B, B', r, h => by cases h
  | m + 1, i, B, B', r, h => by
    obtain ⟨x, y⟩ : ∃ x, f i B = x := ⟨_, rfl⟩
    obtain ⟨B1, o⟩ := x
    cases o with
    | none =>
      rw [q_lp_n y] at h
      exact q_lp_an hf m (i + 1) B1 B' r h
    | some t =>
      rw [q_lp_r y] at h
      cases h
      exact hf i B _ _ y
theorem q_wk_an {f : Nat → q_B → q_B × Option Int32} (hf : ∀ i B B' r, f i B = (B', some r) → q_an B' r) : ∀ (m i : Nat) (B B' : q_B) (r : Int32), q_wk f m i B = (B', some r) → q_an B' r
  | 0, i, B, B', r, h => by cases h
  | m + 1, i, B, B', r, h => by
    by_cases hi : i < B.1
    · obtain ⟨x, y⟩ : ∃ x, f i B = x := ⟨_, rfl⟩
      obtain ⟨B1, o⟩ := x
      cases o with
      | none =>
        rw [q_wk_n hi y] at h
        exact q_wk_an hf m (i + 1) B1 B' r h
      | some t =>
        rw [q_wk_r hi y] at h
        cases h
        exact hf i B _ _ y
    · rw [q_wk_e hi] at h
      cases h
theorem q_se_an (S : qS) (rf : Option qR) (go : Option (Nat × Nat)) : q_an (q_se S rf go).1 (q_se S rf go).2 := by
  cases z : q_gl1 go (q_en (s_at S) (s_n S 1)) with
  | true =>
    rw [q_se_0 z]
    exact Or.inr (Or.inr ⟨0, Nat.succ_pos _, rfl⟩)
  | false =>
    obtain ⟨x, y⟩ : ∃ x, q_wk (q_sa S rf go) 2001 0 (q_B0 (q_en (s_at S) (s_n S 1))) = x := ⟨_, rfl⟩
    obtain ⟨B, o⟩ := x
    cases o with
    | none =>
      rw [q_se_n z y]
      exact Or.inl rfl
    | some r =>
      rw [q_se_r z y]
      exact q_wk_an (fun k B B' r h => q_lp_an (fun a B B' r h => q_lp_an (fun b B B' r h => q_ev_an h) _ _ _ _ _ h) _ _ _ _ _ h) _ _ _ _ _ y

