/-! THE REFERENCE: place, laid out -/
/-- who is at q; who elsewhere likes it more; who there would leave -/
def q_p0 (S : qS) (q p : Nat) : Bool := decide (s_at S p = q)
def q_p1 (S : qS) (rf : Option qR) (q p : Nat) : Bool := !decide (s_at S p = q) && decide (q_lk S rf p (s_at S p) (s_at S p) < q_lk S rf p (s_at S p) q)
def q_p2 (S : qS) (rf : Option qR) (q p : Nat) : Bool := decide (s_at S p = q) && q_aw S rf none p (s_at S p)
theorem l_place {G : qx_G} {σ0 : qx_S} {S : qS} {rf : Option qR} (g : gS S) {q w : Nat} (hq : q < s_n S 0) (hw : w < 3) {f : Nat → Bool} (hf0 : w = 0 → f = q_p0 S q) (hf1 : w = 1 → f = q_p1 S rf q) (hf2 : w = 2 → f = q_p2 S rf q) : ∀ (m p : Nat) (σ : qx_S), m = s_n S 1 - p → p ≤ s_n S 1 → ql lE σ0 σ → mX σ S rf none →
    qx_K G qc_T 5 RX12 YX12_place 38 [.ref 197, .int (nI q), .int (nI w), .int (nI (q_set f p)), .int (nI p), .retAddr 0, .retAddr 0] [] σ (fun r s => r = some (.int (nI (q_set f (s_n S 1)))) ∧ ql lE σ0 s) := by
  intro m
  have h10 := g.2.1.2
  have h8 := g.1.2
  induction m using Nat.strongRecOn with
  | _ m ih =>
    intro p σ hm hp hf hX
    rcases Nat.lt_or_ge p (s_n S 1) with hlt | hge
    · have ha : s_n S (10 + 5 * p) < s_n S 0 := (g.2.2 p hlt).2
      have u1 : f p = true → q_set f (p + 1) = q_set f p ||| 2 ^ p := fun h => if_pos h
      have u2 : f p = false → q_set f (p + 1) = q_set f p ||| 0 := fun h => (if_neg (by rw [h]; decide)).trans (Nat.or_zero _).symm
      have st : ∀ s, ql lE σ0 s → mX s S rf none → qx_K G qc_T 5 RX12 YX12_place 38 [.ref 197, .int (nI q), .int (nI w), .int (nI (q_set f (p + 1))), .int (nI (p + 1)), .retAddr 0, .retAddr 0] [] s (fun r s => r = some (.int (nI (q_set f (s_n S 1)))) ∧ ql lE σ0 s) := fun s y1 y2 => ih _ (by omega) (p + 1) s rfl (by omega) y1 y2
      have e3 : w = 0 ∨ w = 1 ∨ w = 2 := by omega
      rcases e3 with rfl | rfl | rfl
      · have hfp : f p = q_p0 S q p := by rw [hf0 rfl]
        refine qy_wp_ok (c := CX12_place) (cuts := [38]) vX12_place wX12_place 2000 38 _ _ _ ?_
        refine And.intro rfl (Exists.intro 207 (And.intro rfl ?_))
        refine Exists.intro (nI 1) (And.intro rfl ?_)
        refine Exists.intro (1) (Exists.intro (nI (s_n S 1)) (And.intro rfl (And.intro ⟨2788, rfl, by decide, by decide⟩ (And.intro ((congrFun hX.1 1).trans g.2.1.1) ?_))))
        refine And.intro (fun h46 => ?_) (fun h46 => ?_)
        · skip
          have h46 := nI_leT (a := s_n S 1) (b := p) (by omega) (by omega) h46
          exact absurd h46 (by omega)
        · skip
          have h46 := nI_leF (a := s_n S 1) (b := p) (by omega) (by omega) h46
          refine And.intro rfl (Exists.intro _ (And.intro (by decide) (qx_M_mono (m_at (p := p) (by omega) ((congrFun hX.1 _).trans (g.2.2 p (by omega)).1)) ?_)))
          rintro _ _ ⟨rfl, rfl⟩
          refine And.intro (fun h56 => ?_) (fun h56 => ?_)
          · skip
            have h56 := nI_neT (a := s_n S (10 + 5 * p)) (b := q) (by omega) (by omega) h56
            refine Exists.intro (nI 0) (And.intro rfl ?_)
            refine And.intro (fun h67 => ?_) (fun h67 => ?_)
            · skip
              exact absurd (by decide) h67
            · skip
              refine And.intro (fun h139 => ?_) (fun h139 => ?_)
              · skip
                refine Exists.intro (nI 0) (And.intro rfl ?_)
                refine Exists.intro (nI ((q_set f p) ||| 0)) (And.intro (nI_or _ _) ?_)
                refine Exists.intro (nI (p + 1)) (And.intro (nI_add _ _) ?_)
                refine qx_K_le (ls := [.ref 197, .int (nI q), .int (nI 0), .int (nI ((q_set f p) ||| 0)), .int (nI (p + 1)), .retAddr 0, .retAddr 0]) ⟨Or.inr rfl, Or.inr rfl, Or.inr rfl, Or.inr rfl, Or.inr rfl, Or.inl rfl, Or.inl rfl, trivial⟩ ?_
                first | (rw [← u1 (by rw [hfp]; exact decide_eq_true h56)]; exact st _ hf hX) | (rw [← u2 (by rw [hfp]; exact decide_eq_false h56)]; exact st _ hf hX)
              · skip
                exact absurd (by decide) h139
          · skip
            have h56 := nI_eqT (a := s_n S (10 + 5 * p)) (b := q) (by omega) (by omega) h56
            refine Exists.intro (nI 1) (And.intro rfl ?_)
            refine And.intro (fun h67 => ?_) (fun h67 => ?_)
            · skip
              exact absurd (by decide) h67
            · skip
              refine And.intro (fun h139 => ?_) (fun h139 => ?_)
              · skip
                exact absurd h139 (by decide)
              · skip
                refine Exists.intro (nI 1) (And.intro rfl ?_)
                refine Exists.intro (nI (2 ^ p)) (And.intro (nI_sh1 (by omega)) ?_)
                refine Exists.intro (nI ((q_set f p) ||| (2 ^ p))) (And.intro (nI_or _ _) ?_)
                refine Exists.intro (nI (p + 1)) (And.intro (nI_add _ _) ?_)
                refine qx_K_le (ls := [.ref 197, .int (nI q), .int (nI 0), .int (nI ((q_set f p) ||| (2 ^ p))), .int (nI (p + 1)), .retAddr 0, .retAddr 0]) ⟨Or.inr rfl, Or.inr rfl, Or.inr rfl, Or.inr rfl, Or.inr rfl, Or.inl rfl, Or.inl rfl, trivial⟩ ?_
                first | (rw [← u1 (by rw [hfp]; exact decide_eq_true h56)]; exact st _ hf hX) | (rw [← u2 (by rw [hfp]; exact decide_eq_false h56)]; exact st _ hf hX)
      · have hfp : f p = (!decide (s_at S p = q) && decide (q_lk S rf p (s_at S p) (s_at S p) < q_lk S rf p (s_at S p) q)) := by rw [hf1 rfl]; rfl
        refine qy_wp_ok (c := CX12_place) (cuts := [38]) vX12_place wX12_place 2000 38 _ _ _ ?_
        refine And.intro rfl (Exists.intro 207 (And.intro rfl ?_))
        refine Exists.intro (nI 1) (And.intro rfl ?_)
        refine Exists.intro (1) (Exists.intro (nI (s_n S 1)) (And.intro rfl (And.intro ⟨2788, rfl, by decide, by decide⟩ (And.intro ((congrFun hX.1 1).trans g.2.1.1) ?_))))
        refine And.intro (fun h46 => ?_) (fun h46 => ?_)
        · skip
          have h46 := nI_leT (a := s_n S 1) (b := p) (by omega) (by omega) h46
          exact absurd h46 (by omega)
        · skip
          have h46 := nI_leF (a := s_n S 1) (b := p) (by omega) (by omega) h46
          refine And.intro rfl (Exists.intro _ (And.intro (by decide) (qx_M_mono (m_at (p := p) (by omega) ((congrFun hX.1 _).trans (g.2.2 p (by omega)).1)) ?_)))
          rintro _ _ ⟨rfl, rfl⟩
          refine And.intro (fun h56 => ?_) (fun h56 => ?_)
          · skip
            have h56 := nI_neT (a := s_n S (10 + 5 * p)) (b := q) (by omega) (by omega) h56
            refine Exists.intro (nI 0) (And.intro rfl ?_)
            refine And.intro (fun h67 => ?_) (fun h67 => ?_)
            · skip
              refine Exists.intro (nI 1) (And.intro rfl ?_)
              refine And.intro (fun h77 => ?_) (fun h77 => ?_)
              · skip
                exact absurd (by decide) h77
              · skip
                refine And.intro (fun h82 => ?_) (fun h82 => ?_)
                · skip
                  exact absurd (by decide) h82
                · skip
                  refine And.intro rfl (Exists.intro _ (And.intro (by decide) (qx_M_mono (m_likes (p := p) (a := s_at S p) (q := q) hX (by omega) (by omega) (g.2.2 p (by omega)).1) ?_)))
                  rintro _ σ1 ⟨rfl, fσ1⟩
                  have hf_σ1 : ql lE σ0 σ1 := hf.tr fσ1
                  have hX_σ1 : mX σ1 S rf none := hX.fr fσ1 rfl
                  refine And.intro rfl (Exists.intro _ (And.intro (by decide) (qx_M_mono (m_at (p := p) (by omega) ((congrFun hX_σ1.1 _).trans (g.2.2 p (by omega)).1)) ?_)))
                  rintro _ _ ⟨rfl, rfl⟩
                  refine And.intro rfl (Exists.intro _ (And.intro (by decide) (qx_M_mono (m_likes (p := p) (a := s_at S p) (q := (s_n S (10 + 5 * p))) hX_σ1 (by omega) (by omega) (g.2.2 p (by omega)).1) ?_)))
                  rintro _ σ2 ⟨rfl, fσ2⟩
                  have hf_σ2 : ql lE σ0 σ2 := hf_σ1.tr fσ2
                  have hX_σ2 : mX σ2 S rf none := hX_σ1.fr fσ2 rfl
                  refine And.intro (fun h104 => ?_) (fun h104 => ?_)
                  · skip
                    refine Exists.intro (nI 0) (And.intro rfl ?_)
                    refine And.intro (fun h139 => ?_) (fun h139 => ?_)
                    · skip
                      refine Exists.intro (nI 0) (And.intro rfl ?_)
                      refine Exists.intro (nI ((q_set f p) ||| 0)) (And.intro (nI_or _ _) ?_)
                      refine Exists.intro (nI (p + 1)) (And.intro (nI_add _ _) ?_)
                      refine qx_K_le (ls := [.ref 197, .int (nI q), .int (nI 1), .int (nI ((q_set f p) ||| 0)), .int (nI (p + 1)), .retAddr 0, .retAddr 0]) ⟨Or.inr rfl, Or.inr rfl, Or.inr rfl, Or.inr rfl, Or.inr rfl, Or.inl rfl, Or.inl rfl, trivial⟩ ?_
                      first | (rw [← u1 (by rw [hfp, decide_eq_false h56, decide_eq_true (show q_lk S rf p (s_at S p) (s_at S p) < q_lk S rf p (s_at S p) q from Int32.not_le.mp h104)]; rfl)]; exact st _ hf_σ2 hX_σ2) | (rw [← u2 (by rw [hfp, decide_eq_true h56]; rfl)]; exact st _ hf_σ2 hX_σ2) | (rw [← u2 (by rw [hfp, decide_eq_false (show ¬ q_lk S rf p (s_at S p) (s_at S p) < q_lk S rf p (s_at S p) q from Int32.not_lt.mpr h104), Bool.and_false])]; exact st _ hf_σ2 hX_σ2)
                    · skip
                      exact absurd (by decide) h139
                  · skip
                    refine Exists.intro (nI 1) (And.intro rfl ?_)
                    refine And.intro (fun h139 => ?_) (fun h139 => ?_)
                    · skip
                      exact absurd h139 (by decide)
                    · skip
                      refine Exists.intro (nI 1) (And.intro rfl ?_)
                      refine Exists.intro (nI (2 ^ p)) (And.intro (nI_sh1 (by omega)) ?_)
                      refine Exists.intro (nI ((q_set f p) ||| (2 ^ p))) (And.intro (nI_or _ _) ?_)
                      refine Exists.intro (nI (p + 1)) (And.intro (nI_add _ _) ?_)
                      refine qx_K_le (ls := [.ref 197, .int (nI q), .int (nI 1), .int (nI ((q_set f p) ||| (2 ^ p))), .int (nI (p + 1)), .retAddr 0, .retAddr 0]) ⟨Or.inr rfl, Or.inr rfl, Or.inr rfl, Or.inr rfl, Or.inr rfl, Or.inl rfl, Or.inl rfl, trivial⟩ ?_
                      first | (rw [← u1 (by rw [hfp, decide_eq_false h56, decide_eq_true (show q_lk S rf p (s_at S p) (s_at S p) < q_lk S rf p (s_at S p) q from Int32.not_le.mp h104)]; rfl)]; exact st _ hf_σ2 hX_σ2) | (rw [← u2 (by rw [hfp, decide_eq_true h56]; rfl)]; exact st _ hf_σ2 hX_σ2) | (rw [← u2 (by rw [hfp, decide_eq_false (show ¬ q_lk S rf p (s_at S p) (s_at S p) < q_lk S rf p (s_at S p) q from Int32.not_lt.mpr h104), Bool.and_false])]; exact st _ hf_σ2 hX_σ2)
            · skip
              exact absurd h67 (by decide)
          · skip
            have h56 := nI_eqT (a := s_n S (10 + 5 * p)) (b := q) (by omega) (by omega) h56
            refine Exists.intro (nI 1) (And.intro rfl ?_)
            refine And.intro (fun h67 => ?_) (fun h67 => ?_)
            · skip
              refine Exists.intro (nI 1) (And.intro rfl ?_)
              refine And.intro (fun h77 => ?_) (fun h77 => ?_)
              · skip
                exact absurd (by decide) h77
              · skip
                refine And.intro (fun h82 => ?_) (fun h82 => ?_)
                · skip
                  refine Exists.intro (nI 0) (And.intro rfl ?_)
                  refine And.intro (fun h139 => ?_) (fun h139 => ?_)
                  · skip
                    refine Exists.intro (nI 0) (And.intro rfl ?_)
                    refine Exists.intro (nI ((q_set f p) ||| 0)) (And.intro (nI_or _ _) ?_)
                    refine Exists.intro (nI (p + 1)) (And.intro (nI_add _ _) ?_)
                    refine qx_K_le (ls := [.ref 197, .int (nI q), .int (nI 1), .int (nI ((q_set f p) ||| 0)), .int (nI (p + 1)), .retAddr 0, .retAddr 0]) ⟨Or.inr rfl, Or.inr rfl, Or.inr rfl, Or.inr rfl, Or.inr rfl, Or.inl rfl, Or.inl rfl, trivial⟩ ?_
                    first | (rw [← u1 (by rw [hfp, decide_eq_false h56, decide_eq_true (show q_lk S rf p (s_at S p) (s_at S p) < q_lk S rf p (s_at S p) q from Int32.not_le.mp h104)]; rfl)]; exact st _ hf hX) | (rw [← u2 (by rw [hfp, decide_eq_true h56]; rfl)]; exact st _ hf hX) | (rw [← u2 (by rw [hfp, decide_eq_false (show ¬ q_lk S rf p (s_at S p) (s_at S p) < q_lk S rf p (s_at S p) q from Int32.not_lt.mpr h104), Bool.and_false])]; exact st _ hf hX)
                  · skip
                    exact absurd (by decide) h139
                · skip
                  exact absurd h82 (by decide)
            · skip
              exact absurd h67 (by decide)
      · have hfp : f p = (decide (s_at S p = q) && q_aw S rf none p (s_at S p)) := by rw [hf2 rfl]; rfl
        refine qy_wp_ok (c := CX12_place) (cuts := [38]) vX12_place wX12_place 2000 38 _ _ _ ?_
        refine And.intro rfl (Exists.intro 207 (And.intro rfl ?_))
        refine Exists.intro (nI 1) (And.intro rfl ?_)
        refine Exists.intro (1) (Exists.intro (nI (s_n S 1)) (And.intro rfl (And.intro ⟨2788, rfl, by decide, by decide⟩ (And.intro ((congrFun hX.1 1).trans g.2.1.1) ?_))))
        refine And.intro (fun h46 => ?_) (fun h46 => ?_)
        · skip
          have h46 := nI_leT (a := s_n S 1) (b := p) (by omega) (by omega) h46
          exact absurd h46 (by omega)
        · skip
          have h46 := nI_leF (a := s_n S 1) (b := p) (by omega) (by omega) h46
          refine And.intro rfl (Exists.intro _ (And.intro (by decide) (qx_M_mono (m_at (p := p) (by omega) ((congrFun hX.1 _).trans (g.2.2 p (by omega)).1)) ?_)))
          rintro _ _ ⟨rfl, rfl⟩
          refine And.intro (fun h56 => ?_) (fun h56 => ?_)
          · skip
            have h56 := nI_neT (a := s_n S (10 + 5 * p)) (b := q) (by omega) (by omega) h56
            refine Exists.intro (nI 0) (And.intro rfl ?_)
            refine And.intro (fun h67 => ?_) (fun h67 => ?_)
            · skip
              refine Exists.intro (nI 1) (And.intro rfl ?_)
              refine And.intro (fun h77 => ?_) (fun h77 => ?_)
              · skip
                refine And.intro (fun h117 => ?_) (fun h117 => ?_)
                · skip
                  refine Exists.intro (nI 0) (And.intro rfl ?_)
                  refine And.intro (fun h139 => ?_) (fun h139 => ?_)
                  · skip
                    refine Exists.intro (nI 0) (And.intro rfl ?_)
                    refine Exists.intro (nI ((q_set f p) ||| 0)) (And.intro (nI_or _ _) ?_)
                    refine Exists.intro (nI (p + 1)) (And.intro (nI_add _ _) ?_)
                    refine qx_K_le (ls := [.ref 197, .int (nI q), .int (nI 2), .int (nI ((q_set f p) ||| 0)), .int (nI (p + 1)), .retAddr 0, .retAddr 0]) ⟨Or.inr rfl, Or.inr rfl, Or.inr rfl, Or.inr rfl, Or.inr rfl, Or.inl rfl, Or.inl rfl, trivial⟩ ?_
                    first | (rw [← u1 (by rw [hfp, decide_eq_true h56, h126]; rfl)]; exact st _ hf hX) | (rw [← u2 (by rw [hfp, decide_eq_false h56]; rfl)]; exact st _ hf hX) | (rw [← u2 (by rw [hfp, h126, Bool.and_false])]; exact st _ hf hX)
                  · skip
                    exact absurd (by decide) h139
                · skip
                  exact absurd (by decide) h117
              · skip
                exact absurd h77 (by decide)
            · skip
              exact absurd h67 (by decide)
          · skip
            have h56 := nI_eqT (a := s_n S (10 + 5 * p)) (b := q) (by omega) (by omega) h56
            refine Exists.intro (nI 1) (And.intro rfl ?_)
            refine And.intro (fun h67 => ?_) (fun h67 => ?_)
            · skip
              refine Exists.intro (nI 1) (And.intro rfl ?_)
              refine And.intro (fun h77 => ?_) (fun h77 => ?_)
              · skip
                refine And.intro (fun h117 => ?_) (fun h117 => ?_)
                · skip
                  exact absurd h117 (by decide)
                · skip
                  refine And.intro rfl (Exists.intro _ (And.intro (by decide) (qx_M_mono (m_wishesAway (p := p) hX g (by omega)) ?_)))
                  rintro _ σ1 ⟨rfl, fσ1⟩
                  have hf_σ1 : ql lE σ0 σ1 := hf.tr fσ1
                  have hX_σ1 : mX σ1 S rf none := hX.fr fσ1 rfl
                  refine And.intro (fun h126 => ?_) (fun h126 => ?_)
                  · skip
                    have h126 := bI_f h126
                    refine Exists.intro (nI 0) (And.intro rfl ?_)
                    refine And.intro (fun h139 => ?_) (fun h139 => ?_)
                    · skip
                      refine Exists.intro (nI 0) (And.intro rfl ?_)
                      refine Exists.intro (nI ((q_set f p) ||| 0)) (And.intro (nI_or _ _) ?_)
                      refine Exists.intro (nI (p + 1)) (And.intro (nI_add _ _) ?_)
                      refine qx_K_le (ls := [.ref 197, .int (nI q), .int (nI 2), .int (nI ((q_set f p) ||| 0)), .int (nI (p + 1)), .retAddr 0, .retAddr 0]) ⟨Or.inr rfl, Or.inr rfl, Or.inr rfl, Or.inr rfl, Or.inr rfl, Or.inl rfl, Or.inl rfl, trivial⟩ ?_
                      first | (rw [← u1 (by rw [hfp, decide_eq_true h56, h126]; rfl)]; exact st _ hf_σ1 hX_σ1) | (rw [← u2 (by rw [hfp, decide_eq_false h56]; rfl)]; exact st _ hf_σ1 hX_σ1) | (rw [← u2 (by rw [hfp, h126, Bool.and_false])]; exact st _ hf_σ1 hX_σ1)
                    · skip
                      exact absurd (by decide) h139
                  · skip
                    have h126 := bI_t h126
                    refine Exists.intro (nI 1) (And.intro rfl ?_)
                    refine And.intro (fun h139 => ?_) (fun h139 => ?_)
                    · skip
                      exact absurd h139 (by decide)
                    · skip
                      refine Exists.intro (nI 1) (And.intro rfl ?_)
                      refine Exists.intro (nI (2 ^ p)) (And.intro (nI_sh1 (by omega)) ?_)
                      refine Exists.intro (nI ((q_set f p) ||| (2 ^ p))) (And.intro (nI_or _ _) ?_)
                      refine Exists.intro (nI (p + 1)) (And.intro (nI_add _ _) ?_)
                      refine qx_K_le (ls := [.ref 197, .int (nI q), .int (nI 2), .int (nI ((q_set f p) ||| (2 ^ p))), .int (nI (p + 1)), .retAddr 0, .retAddr 0]) ⟨Or.inr rfl, Or.inr rfl, Or.inr rfl, Or.inr rfl, Or.inr rfl, Or.inl rfl, Or.inl rfl, trivial⟩ ?_
                      first | (rw [← u1 (by rw [hfp, decide_eq_true h56, h126]; rfl)]; exact st _ hf_σ1 hX_σ1) | (rw [← u2 (by rw [hfp, decide_eq_false h56]; rfl)]; exact st _ hf_σ1 hX_σ1) | (rw [← u2 (by rw [hfp, h126, Bool.and_false])]; exact st _ hf_σ1 hX_σ1)
              · skip
                exact absurd h77 (by decide)
            · skip
              exact absurd h67 (by decide)
    · obtain rfl : p = s_n S 1 := by omega
      refine qy_wp_ok (c := CX12_place) (cuts := [38]) vX12_place wX12_place 2000 38 _ _ _ ?_
      refine And.intro rfl (Exists.intro 207 (And.intro rfl ?_))
      refine Exists.intro (nI 1) (And.intro rfl ?_)
      refine Exists.intro (1) (Exists.intro (nI (s_n S 1)) (And.intro rfl (And.intro ⟨2788, rfl, by decide, by decide⟩ (And.intro ((congrFun hX.1 1).trans g.2.1.1) ?_))))
      refine And.intro (fun h46 => ?_) (fun h46 => ?_)
      · skip
        have h46 := nI_leT (a := s_n S 1) (b := s_n S 1) (by omega) (by omega) h46
        exact ⟨rfl, hf⟩
      · skip
        have h46 := nI_leF (a := s_n S 1) (b := s_n S 1) (by omega) (by omega) h46
        exact absurd h46 (by omega)
theorem m_place_no {G : qx_G} {σ : qx_S} {S : qS} (hS : qx_mi σ 207 = S) {pl : Nat} (e0 : S 0 = nI pl) {x w : Int32} (hb : (q_is x pl && q_in64 w.toInt64 (lN 0) (lN 3)) = false) : qx_M G qc_T 5 YX12_place [.ref 197, .int x, .int w] σ (qr (-1) σ) := by
  refine qx_M_in rfl (Nat.le_of_ble_eq_true rfl) ?_
  refine qy_wp_ok (c := CX12_place) (cuts := [38]) vX12_place wX12_place 2000 0 _ _ _ ?_
  refine And.intro rfl (Exists.intro _ (And.intro (by decide) (qx_M_mono (m_isPlace hS e0 x) ?_)))
  rintro _ _ ⟨rfl, rfl⟩
  refine And.intro (fun h5 => ?_) (fun h5 => ?_)
  · skip
    have h5 := bI_f h5
    refine Exists.intro ((-1)) (And.intro (by decide) ?_)
    exact ⟨rfl, rfl⟩
  · skip
    have h5 := bI_t h5
    refine Exists.intro w.toInt64 (And.intro rfl ?_)
    refine Exists.intro (lN 0) (And.intro rfl ?_)
    refine Exists.intro (lN 3) (And.intro (by decide) ?_)
    refine Exists.intro _ (And.intro (by decide) (qx_M_mono (m_in (v := w.toInt64) (l := (lN 0)) (h := (lN 3))) ?_))
    rintro _ _ ⟨rfl, rfl⟩
    refine And.intro (fun h17 => ?_) (fun h17 => ?_)
    · skip
      have h17 := bI_t h17
      rw [h5, h17] at hb; cases hb
    · skip
      have h17 := bI_f h17
      refine Exists.intro ((-1)) (And.intro (by decide) ?_)
      exact ⟨rfl, rfl⟩
theorem m_place_3 {G : qx_G} {σ : qx_S} {S : qS} (hS : qx_mi σ 207 = S) {pl n : Nat} (e0 : S 0 = nI pl) (h0 : pl ≤ 8) (e2 : S 2 = nI n) (hn : n ≤ 8) {q : Nat} (hq : q < pl) : qx_M G qc_T 5 YX12_place [.ref 197, .int (nI q), .int (nI 3)] σ (qr (nI (q_ca S (nI q) n)) σ) := by
  refine qx_M_in rfl (Nat.le_of_ble_eq_true rfl) ?_
  refine qy_wp_ok (c := CX12_place) (cuts := [38]) vX12_place wX12_place 2000 0 _ _ _ ?_
  refine And.intro rfl (Exists.intro _ (And.intro (by decide) (qx_M_mono (m_isPlace hS e0 (nI q)) ?_)))
  rintro _ _ ⟨rfl, rfl⟩
  refine And.intro (fun h5 => ?_) (fun h5 => ?_)
  · skip
    have h5 := bI_f h5
    exact absurd (h5.symm.trans (q_is_ok hq (by omega))) (by decide)
  · skip
    have h5 := bI_t h5
    refine Exists.intro (lN 3) (And.intro (by decide) ?_)
    refine Exists.intro (lN 0) (And.intro rfl ?_)
    refine Exists.intro (lN 3) (And.intro (by decide) ?_)
    refine Exists.intro _ (And.intro (by decide) (qx_M_mono (m_in (v := (lN 3)) (l := (lN 0)) (h := (lN 3))) ?_))
    rintro _ _ ⟨rfl, rfl⟩
    refine And.intro (fun h17 => ?_) (fun h17 => ?_)
    · skip
      have h17 := bI_t h17
      refine Exists.intro (nI 3) (And.intro rfl ?_)
      refine And.intro (fun h24 => ?_) (fun h24 => ?_)
      · skip
        exact absurd (by decide) h24
      · skip
        refine And.intro rfl (Exists.intro _ (And.intro (by decide) (qx_M_mono (m_callsAt hS e2 hn) ?_)))
        rintro _ _ ⟨rfl, rfl⟩
        exact ⟨rfl, rfl⟩
    · skip
      have h17 := bI_f h17
      exact absurd (h17.symm.trans ((by decide : q_in64 (lN 3) (lN 0) (lN 3) = true))) (by decide)
theorem m_place_ok {G : qx_G} {σ : qx_S} {S : qS} {rf : Option qR} (hX : mX σ S rf none) (g : gS S) {q w : Nat} (hq : q < s_n S 0) (hw : w < 3) {f : Nat → Bool} (hf0 : w = 0 → f = q_p0 S q) (hf1 : w = 1 → f = q_p1 S rf q) (hf2 : w = 2 → f = q_p2 S rf q) : qx_M G qc_T 5 YX12_place [.ref 197, .int (nI q), .int (nI w)] σ (fun r s => r = some (.int (nI (q_set f (s_n S 1)))) ∧ ql lE σ s) := by
  have h8 := g.1.2
  refine qx_M_in rfl (Nat.le_of_ble_eq_true rfl) ?_
  refine qy_wp_ok (c := CX12_place) (cuts := [38]) vX12_place wX12_place 2000 0 _ _ _ ?_
  refine And.intro rfl (Exists.intro _ (And.intro (by decide) (qx_M_mono (m_isPlace hX.1 g.1.1 (nI q)) ?_)))
  rintro _ _ ⟨rfl, rfl⟩
  refine And.intro (fun h5 => ?_) (fun h5 => ?_)
  · skip
    have h5 := bI_f h5
    exact absurd (h5.symm.trans (q_is_ok hq (by omega))) (by decide)
  · skip
    have h5 := bI_t h5
    refine Exists.intro ((nI w).toInt64) (And.intro rfl ?_)
    refine Exists.intro (lN 0) (And.intro rfl ?_)
    refine Exists.intro (lN 3) (And.intro (by decide) ?_)
    refine Exists.intro _ (And.intro (by decide) (qx_M_mono (m_in (v := ((nI w).toInt64)) (l := (lN 0)) (h := (lN 3))) ?_))
    rintro _ _ ⟨rfl, rfl⟩
    refine And.intro (fun h17 => ?_) (fun h17 => ?_)
    · skip
      have h17 := bI_t h17
      refine Exists.intro (nI 3) (And.intro rfl ?_)
      refine And.intro (fun h24 => ?_) (fun h24 => ?_)
      · skip
        have h24 := nI_neT (a := w) (b := 3) (by omega) (by decide) h24
        refine Exists.intro (nI 0) (And.intro rfl ?_)
        refine Exists.intro (nI 0) (And.intro rfl ?_)
        exact l_place (f := f) g hq hw hf0 hf1 hf2 _ 0 σ rfl (by omega) qf.rf hX
      · skip
        have h24 := nI_eqT (a := w) (b := 3) (by omega) (by decide) h24
        exact absurd h24 (by omega)
    · skip
      have h17 := bI_f h17
      exact absurd (h17.symm.trans (q_in_ok (by omega) (by omega) (by decide))) (by decide)
theorem q_in_m1 {x : Int32} {n : Nat} (hn : n ≤ 1000) : q_in64 x.toInt64 (lN 0) ((nI n - nI 1).toInt64) = q_is x n := by
  have e : (nI n - nI 1).toInt = (n : Int) - 1 := by
    rw [pk_sub_toInt (by omega) (by omega)]
    rfl
  unfold q_in64 q_is
  have a1 : lN 0 ≤ x.toInt64 ↔ 0 ≤ x := by
    rw [Int64.le_iff_toInt_le, Int32.le_iff_toInt_le, Int32.toInt_toInt64]
    rfl
  have a2 : x.toInt64 ≤ (nI n - nI 1).toInt64 ↔ x < nI n := by
    rw [Int64.le_iff_toInt_le, Int32.lt_iff_toInt_lt, Int32.toInt_toInt64, Int32.toInt_toInt64, e, nI_toInt (by omega)]
    omega
  rw [decide_eq_decide.mpr a1, decide_eq_decide.mpr a2]
theorem m_laidOut_no {G : qx_G} {σ : qx_S} {S : qS} (hS : qx_mi σ 207 = S) (hB : iB S) {x : Int32} (hx : ¬ x = -1) (hx2 : q_is x (s_n S 5) = false) : qx_M G qc_T 1 YX12_laidOut [.ref 197, .int x] σ (qr (-2) σ) := by
  have b12 := hB.2.1
  have e0 := q_in_m1 (x := x) (n := s_n S 5) (by omega)
  refine qx_M_in rfl (Nat.le_of_ble_eq_true rfl) ?_
  refine qy_wp_ok (c := CX12_laidOut) (cuts := [30]) vX12_laidOut wX12_laidOut 2000 0 _ _ _ ?_
  refine Exists.intro ((-1)) (And.intro (by decide) ?_)
  refine And.intro (fun h2 => ?_) (fun h2 => ?_)
  · skip
    exact absurd h2 hx
  · skip
    refine Exists.intro x.toInt64 (And.intro rfl ?_)
    refine Exists.intro (lN 0) (And.intro rfl ?_)
    refine And.intro rfl (Exists.intro 207 (And.intro rfl ?_))
    refine Exists.intro (nI 5) (And.intro rfl ?_)
    refine Exists.intro (5) (Exists.intro (nI (s_n S 5)) (And.intro rfl (And.intro ⟨2788, rfl, by decide, by decide⟩ (And.intro ((congrFun hS 5).trans hB.1) ?_))))
    refine Exists.intro (nI 1) (And.intro rfl ?_)
    refine Exists.intro (nI (s_n S 5) - nI 1) (And.intro rfl ?_)
    refine Exists.intro ((nI (s_n S 5) - nI 1).toInt64) (And.intro rfl ?_)
    refine Exists.intro _ (And.intro (by decide) (qx_M_mono (m_in (v := x.toInt64) (l := (lN 0)) (h := ((nI (s_n S 5) - nI 1).toInt64))) ?_))
    rintro _ _ ⟨rfl, rfl⟩
    refine And.intro (fun h20 => ?_) (fun h20 => ?_)
    · skip
      have h20 := bI_t h20
      exact absurd (h20.symm.trans (e0.trans hx2)) (by decide)
    · skip
      have h20 := bI_f h20
      refine Exists.intro ((-2)) (And.intro (by decide) ?_)
      exact ⟨rfl, rfl⟩
theorem m_laidOut_ok {G : qx_G} {σ : qx_S} {S : qS} (hS : qx_mi σ 207 = S) (g : gS S) (hB : iB S) {x : Int32} (hx : x = -1 ∨ q_is x (s_n S 5) = true) : qx_M G qc_T 1 YX12_laidOut [.ref 197, .int x] σ (fun r s => r = some (.int (nI (if x = -1 then q_dyl (q_mt S) (s_n S 5) else q_dys (q_mt S) (s_n S 5) x.toNatClampNeg))) ∧ ql [(211, none)] σ s) := by
  have b12 := hB.2.1
  have e0 := q_in_m1 (x := x) (n := s_n S 5) (by omega)
  have hx3 : x = -1 ∨ ∃ k, k < s_n S 5 ∧ x = nI k := hx.imp id (fun z => q_is_t z (by omega))
  refine qx_M_in rfl (Nat.le_of_ble_eq_true rfl) ?_
  refine qy_wp_ok (c := CX12_laidOut) (cuts := [30]) vX12_laidOut wX12_laidOut 2000 0 _ _ _ ?_
  refine Exists.intro ((-1)) (And.intro (by decide) ?_)
  refine And.intro (fun h2 => ?_) (fun h2 => ?_)
  · skip
    refine Exists.intro (nI 0) (And.intro rfl ?_)
    refine Exists.intro (nI 0) (And.intro rfl ?_)
    exact l_laidOut1 g hB hx3 _ 0 σ rfl (by omega) qf.rf hS (fun i hi => absurd hi (by omega))
  · skip
    refine Exists.intro x.toInt64 (And.intro rfl ?_)
    refine Exists.intro (lN 0) (And.intro rfl ?_)
    refine And.intro rfl (Exists.intro 207 (And.intro rfl ?_))
    refine Exists.intro (nI 5) (And.intro rfl ?_)
    refine Exists.intro (5) (Exists.intro (nI (s_n S 5)) (And.intro rfl (And.intro ⟨2788, rfl, by decide, by decide⟩ (And.intro ((congrFun hS 5).trans hB.1) ?_))))
    refine Exists.intro (nI 1) (And.intro rfl ?_)
    refine Exists.intro (nI (s_n S 5) - nI 1) (And.intro rfl ?_)
    refine Exists.intro ((nI (s_n S 5) - nI 1).toInt64) (And.intro rfl ?_)
    refine Exists.intro _ (And.intro (by decide) (qx_M_mono (m_in (v := x.toInt64) (l := (lN 0)) (h := ((nI (s_n S 5) - nI 1).toInt64))) ?_))
    rintro _ _ ⟨rfl, rfl⟩
    refine And.intro (fun h20 => ?_) (fun h20 => ?_)
    · skip
      have h20 := bI_t h20
      refine Exists.intro (nI 0) (And.intro rfl ?_)
      refine Exists.intro (nI 0) (And.intro rfl ?_)
      exact l_laidOut1 g hB hx3 _ 0 σ rfl (by omega) qf.rf hS (fun i hi => absurd hi (by omega))
    · skip
      have h20 := bI_f h20
      rcases hx with y | y; exact absurd y h2; exact absurd ((e0.symm.trans h20).symm.trans y) (by decide)

