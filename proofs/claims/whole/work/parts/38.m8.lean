/-! THE REFERENCE: judged, laid out, changers -/
abbrev lJ : List (Nat × Option Nat) := [(205, none), (206, none), (197, some 18), (208, none), (197, some 24), (207, none), (197, some 27)]
theorem l_judges {G : qx_G} {σ0 : qx_S} {rf : Option qR} : ∀ (m b : Nat) (σ : qx_S) (S : qS), m = s_n S 5 - b → b ≤ s_n S 5 → ql lJ σ0 σ → mX σ S rf none → gS S → iB S → qx_mi σ 197 27 = nI 0 →
    qx_K G qc_T 6 RX12 YX12_judges 7 [.ref 197, .int (nI b)] [] σ (fun r s => r = some (.int (q_jdc rf (s_n S 5 - b) b S).1) ∧ ql lJ σ0 s ∧ qx_mi s 197 27 = nI (q_jdc rf (s_n S 5 - b) b S).2.1 ∧ qx_mi s 207 = (q_jdc rf (s_n S 5 - b) b S).2.2 ∧ mX s (q_jdc rf (s_n S 5 - b) b S).2.2 rf none) := by
  intro m
  induction m using Nat.strongRecOn with
  | _ m ih =>
    intro b σ S hm hb hf hX g hB e27
    have b12 := hB.2.1
    have h10 := g.2.1.2
    rcases Nat.lt_or_ge b (s_n S 5) with hlt | hge
    · have e1 : s_n S 5 - b = (s_n S 5 - (b + 1)) + 1 := by omega
      obtain ⟨y1, y2, y3, y4⟩ := hB.2.2 b hlt
      have hl3 : q_lb S rf none (q_bm S b) (s_n S (254 + 7 * b)) ≤ 3 := q_lbc_le ..
      have s : sA S (q_gr (q_bm S b) (s_n S (254 + 7 * b)) S) := q_gr_sA (fun k hk => Nat.lt_of_lt_of_le (y4 k hk).2 h10)
      have s5 := s.n (i := 5) (by omega)
      refine qy_wp_ok (c := CX12_judges) (cuts := [7]) vX12_judges wX12_judges 2000 7 _ _ _ ?_
      refine And.intro rfl (Exists.intro 207 (And.intro rfl ?_))
      refine Exists.intro (nI 5) (And.intro rfl ?_)
      refine Exists.intro (5) (Exists.intro (nI (s_n S 5)) (And.intro rfl (And.intro ⟨2788, rfl, by decide, by decide⟩ (And.intro ((congrFun hX.1 5).trans hB.1) ?_))))
      refine And.intro (fun h14 => ?_) (fun h14 => ?_)
      · skip
        have h14 := nI_leT (a := s_n S 5) (b := b) (by omega) (by omega) h14
        exact absurd h14 (by omega)
      · skip
        have h14 := nI_leF (a := s_n S 5) (b := b) (by omega) (by omega) h14
        refine And.intro rfl (Exists.intro _ (And.intro (by decide) (qx_M_mono (m_takesBooked hX.1 y3 (by omega) y1) ?_)))
        rintro _ σ1 ⟨rfl, fσ1, aσ1, bσ1⟩
        have hf_σ1 : ql lJ σ0 σ1 := hf.tr (fσ1.mn rfl)
        have hX_σ1 : mX σ1 S rf none := hX.fr fσ1 rfl
        have hG : mG σ1 (q_bm S b) (s_n S (254 + 7 * b)) := ⟨aσ1, fun k hk => (bσ1 k hk).trans (y4 k hk).1⟩
        refine And.intro rfl (Exists.intro _ (And.intro (by decide) (qx_M_mono (m_lawBroken hX_σ1 g y3 (fun k hk => (y4 k hk).2) hG) ?_)))
        rintro _ σ2 ⟨rfl, fσ2⟩
        have hf_σ2 : ql lJ σ0 σ2 := hf_σ1.tr (fσ2.mn rfl)
        have hX_σ2 : mX σ2 S rf none := hX_σ1.fr fσ2 rfl
        obtain ⟨σ3, eσ3⟩ : ∃ zs, zs = (qx_wi σ2 197 27 (nI (q_lb S rf none (q_bm S b) (s_n S (254 + 7 * b))))) := ⟨_, rfl⟩
        have fσ3 := qn_wif eσ3
        refine And.intro rfl (Exists.intro 27 (Exists.intro σ3 (And.intro rfl (And.intro eσ3.symm ?_))))
        have hf_σ3 : ql lJ σ0 σ3 := hf_σ2.tr (fσ3.mn rfl)
        have hX_σ3 : mX σ3 S rf none := hX_σ2.fr fσ3 rfl
        refine And.intro rfl (Exists.intro 27 (Exists.intro (nI (q_lb S rf none (q_bm S b) (s_n S (254 + 7 * b)))) (And.intro rfl (And.intro (qn_eq eσ3) ?_))))
        refine And.intro (fun h34 => ?_) (fun h34 => ?_)
        · skip
          have h34 := nI_leT (a := q_lb S rf none (q_bm S b) (s_n S (254 + 7 * b))) (b := 0) (by omega) (by decide) h34
          refine And.intro rfl (Exists.intro _ (And.intro (by decide) (qx_M_mono (m_goRound hX_σ3.1 y2 y3 (fun k hk => Nat.lt_of_lt_of_le (y4 k hk).2 h10) ((hG.fr fσ2 rfl (fun _ => rfl)).fr fσ3 rfl (fun _ => rfl))) ?_)))
          rintro _ σ4 ⟨rfl, fσ4, gσ4⟩
          have hf_σ4 : ql lJ σ0 σ4 := hf_σ3.tr (fσ4.mn rfl)
          have hX_σ4 : mX σ4 (q_gr (q_bm S b) (s_n S (254 + 7 * b)) S) rf none := hX_σ3.at fσ4 gσ4 (s 1 (by omega)) (s 7 (by omega))
          refine Exists.intro (nI (b + 1)) (And.intro (nI_add _ _) ?_)
          have e2 : q_jdc rf (s_n S 5 - b) b S = q_jdc rf (s_n (q_gr (q_bm S b) (s_n S (254 + 7 * b)) S) 5 - (b + 1)) (b + 1) (q_gr (q_bm S b) (s_n S (254 + 7 * b)) S) := by rw [s5, e1]; exact if_neg (by omega)
          rw [e2]
          exact ih _ (by omega) (b + 1) _ _ rfl (by omega) hf_σ4 hX_σ4 (q_gr_g g y2 (fun k hk => (y4 k hk).2)) (hB.at s) ((fσ4.i _ _ rfl).trans ((qn_eq eσ3).trans (by rw [show q_lb S rf none (q_bm S b) (s_n S (254 + 7 * b)) = 0 by omega])))
        · skip
          have h34 := nI_leF (a := q_lb S rf none (q_bm S b) (s_n S (254 + 7 * b))) (b := 0) (by omega) (by decide) h34
          rw [e1]
          have e2 : q_jdc rf (s_n S 5 - (b + 1) + 1) b S = (nI b, q_lb S rf none (q_bm S b) (s_n S (254 + 7 * b)), S) := if_pos h34
          rw [e2]
          exact ⟨rfl, hf_σ3, (qn_eq eσ3), hX_σ3.1, hX_σ3⟩
    · obtain rfl : b = s_n S 5 := by omega
      rw [Nat.sub_self]
      refine qy_wp_ok (c := CX12_judges) (cuts := [7]) vX12_judges wX12_judges 2000 7 _ _ _ ?_
      refine And.intro rfl (Exists.intro 207 (And.intro rfl ?_))
      refine Exists.intro (nI 5) (And.intro rfl ?_)
      refine Exists.intro (5) (Exists.intro (nI (s_n S 5)) (And.intro rfl (And.intro ⟨2788, rfl, by decide, by decide⟩ (And.intro ((congrFun hX.1 5).trans hB.1) ?_))))
      refine And.intro (fun h14 => ?_) (fun h14 => ?_)
      · skip
        have h14 := nI_leT (a := s_n S 5) (b := s_n S 5) (by omega) (by omega) h14
        refine Exists.intro ((-1)) (And.intro (by decide) ?_)
        exact ⟨rfl, hf, e27, hX.1, hX⟩
      · skip
        have h14 := nI_leF (a := s_n S 5) (b := s_n S 5) (by omega) (by omega) h14
        exact absurd h14 (by omega)
theorem m_judges {G : qx_G} {σ : qx_S} {S : qS} {rf : Option qR} (hX : mX σ S rf none) (g : gS S) (hB : iB S) : qx_M G qc_T 6 YX12_judges [.ref 197] σ (fun r s => r = some (.int (q_jd rf S).1) ∧ ql lJ σ s ∧ qx_mi s 197 27 = nI (q_jd rf S).2.1 ∧ qx_mi s 207 = (q_jd rf S).2.2) := by
  refine qx_M_in rfl (Nat.le_of_ble_eq_true rfl) ?_
  refine qy_wp_ok (c := CX12_judges) (cuts := [7]) vX12_judges wX12_judges 2000 0 _ _ _ ?_
  refine Exists.intro (nI 0) (And.intro rfl ?_)
  obtain ⟨σ1, eσ1⟩ : ∃ zs, zs = (qx_wi σ 197 27 (nI 0)) := ⟨_, rfl⟩
  have fσ1 := qn_wif eσ1
  refine And.intro rfl (Exists.intro 27 (Exists.intro σ1 (And.intro rfl (And.intro eσ1.symm ?_))))
  have hX_σ1 : mX σ1 S rf none := hX.fr fσ1 rfl
  refine Exists.intro (nI 0) (And.intro rfl ?_)
  exact qx_K_mono (l_judges _ 0 _ S rfl (by omega) (fσ1.mn rfl) hX_σ1 g hB (qn_eq eσ1)) (fun r s h => ⟨h.1, h.2.1, h.2.2.1, h.2.2.2.1⟩)
abbrev lJ2 : List (Nat × Option Nat) := (210, none) :: lJ
theorem m_judged {G : qx_G} {σ : qx_S} {S : qS} {rf : Option qR} (hX : mX σ S rf none) (g : gS S) (hB : iB S) (x : Int32) : qx_M G qc_T 7 YX12_judged [.ref 197, .int x] σ (fun r s => r = some (.int (if nI 0 ≤ x ∧ x ≤ nI 1 then (if x = 0 then (q_jd rf S).1 else nI (q_jd rf S).2.1) else -2)) ∧ ql lJ2 σ s ∧ qx_mi s 207 = S) := by
  have hf : ql lJ2 σ σ := qf.rf
  have e0 := q_in_iff x (lo := 0) (hi := 1) (by decide) (by decide)
  refine qx_M_in rfl (Nat.le_of_ble_eq_true rfl) ?_
  refine qy_wp_ok (c := CX12_judged) (cuts := []) vX12_judged wX12_judged 2000 0 _ _ _ ?_
  refine Exists.intro x.toInt64 (And.intro rfl ?_)
  refine Exists.intro (lN 0) (And.intro rfl ?_)
  refine Exists.intro (lN 1) (And.intro rfl ?_)
  refine Exists.intro _ (And.intro (by decide) (qx_M_mono (m_in (v := x.toInt64) (l := (lN 0)) (h := (lN 1))) ?_))
  rintro _ _ ⟨rfl, rfl⟩
  refine And.intro (fun h7 => ?_) (fun h7 => ?_)
  · skip
    have h7 := bI_t h7
    refine And.intro rfl (Exists.intro _ (And.intro (by decide) (qx_M_mono (m_keepsPlaces hX.1) ?_)))
    rintro _ σ1 ⟨rfl, fσ1, gσ1⟩
    have hf_σ1 : ql lJ2 σ σ1 := hf.tr (fσ1.mn rfl)
    refine And.intro rfl (Exists.intro _ (And.intro (by decide) (qx_M_mono (m_judges (hX.fr fσ1 rfl) g hB) ?_)))
    rintro _ σ2 ⟨rfl, fσ2, aσ2, bσ2⟩
    have hf_σ2 : ql lJ2 σ σ2 := hf_σ1.tr (fσ2.mn rfl)
    refine And.intro rfl (Exists.intro _ (And.intro (by decide) (qx_M_mono (m_putsPlacesBack bσ2 (fun j hj => (fσ2.i _ _ rfl).trans (gσ1 j hj))) ?_)))
    rintro _ σ3 ⟨rfl, fσ3, cσ3⟩
    have hf_σ3 : ql lJ2 σ σ3 := hf_σ2.tr (fσ3.mn rfl)
    refine And.intro (fun h27 => ?_) (fun h27 => ?_)
    · skip
      refine And.intro rfl (Exists.intro 27 (Exists.intro (nI ((q_jd rf S).2.1)) (And.intro rfl (And.intro ((fσ3.i _ _ rfl).trans (aσ2)) ?_))))
      have h7 := of_decide_eq_true (e0.symm.trans h7); refine ⟨congrArg (fun z => some (Value.int z)) ?_, hf_σ3, cσ3.trans (q_pl_back (q_jdc_sA _ _ _ (by omega) hB g).1)⟩; first | rw [if_pos h7, if_pos h27] | rw [if_pos h7, if_neg h27]
    · skip
      have h7 := of_decide_eq_true (e0.symm.trans h7); refine ⟨congrArg (fun z => some (Value.int z)) ?_, hf_σ3, cσ3.trans (q_pl_back (q_jdc_sA _ _ _ (by omega) hB g).1)⟩; first | rw [if_pos h7, if_pos h27] | rw [if_pos h7, if_neg h27]
  · skip
    have h7 := bI_f h7
    refine Exists.intro ((-2)) (And.intro (by decide) ?_)
    have h7 := of_decide_eq_false (e0.symm.trans h7); exact ⟨by rw [if_neg h7], hf, hX.1⟩
theorem m_then {G : qx_G} {σ : qx_S} {S : qS} {rf : Option qR} (hX : mX σ S rf none) (g : gS S) (hB : iB S) (x : Int32) : qx_M G qc_T 7 YX12_then [.ref 197, .int x] σ (fun r s => r = some (.int (if q_is x (s_n S 1) = true then (q_jd rf S).2.2 (10 + 5 * x.toNatClampNeg) else -1)) ∧ ql lJ2 σ s ∧ qx_mi s 207 = S) := by
  have hf : ql lJ2 σ σ := qf.rf
  have h10 := g.2.1.2
  cases hq : q_is x (s_n S 1) with
  | false =>
    refine qx_M_in rfl (Nat.le_of_ble_eq_true rfl) ?_
    refine qy_wp_ok (c := CX12_then) (cuts := []) vX12_then wX12_then 2000 0 _ _ _ ?_
    refine And.intro rfl (Exists.intro _ (And.intro (by decide) (qx_M_mono (m_isPerson hX.1 g.2.1.1 x) ?_)))
    rintro _ _ ⟨rfl, rfl⟩
    refine And.intro (fun h5 => ?_) (fun h5 => ?_)
    · skip
      have h5 := bI_t h5
      rw [hq] at h5; cases h5
    · skip
      have h5 := bI_f h5
      refine Exists.intro ((-1)) (And.intro (by decide) ?_)
      exact ⟨rfl, hf, hX.1⟩
  | true =>
    obtain ⟨p, hp, rfl⟩ := q_is_t hq (by omega)
    rw [nI_clamp (n := p) (by omega)]
    refine qx_M_in rfl (Nat.le_of_ble_eq_true rfl) ?_
    refine qy_wp_ok (c := CX12_then) (cuts := []) vX12_then wX12_then 2000 0 _ _ _ ?_
    refine And.intro rfl (Exists.intro _ (And.intro (by decide) (qx_M_mono (m_isPerson hX.1 g.2.1.1 (nI p)) ?_)))
    rintro _ _ ⟨rfl, rfl⟩
    refine And.intro (fun h5 => ?_) (fun h5 => ?_)
    · skip
      have h5 := bI_t h5
      refine And.intro rfl (Exists.intro _ (And.intro (by decide) (qx_M_mono (m_keepsPlaces hX.1) ?_)))
      rintro _ σ1 ⟨rfl, fσ1, gσ1⟩
      have hf_σ1 : ql lJ2 σ σ1 := hf.tr (fσ1.mn rfl)
      refine And.intro rfl (Exists.intro _ (And.intro (by decide) (qx_M_mono (m_judges (hX.fr fσ1 rfl) g hB) ?_)))
      rintro _ σ2 ⟨rfl, fσ2, aσ2, bσ2⟩
      have hf_σ2 : ql lJ2 σ σ2 := hf_σ1.tr (fσ2.mn rfl)
      refine And.intro rfl (Exists.intro _ (And.intro (by decide) (qx_M_mono (m_at (p := p) (by omega) (congrFun bσ2 (10 + 5 * p))) ?_)))
      rintro _ _ ⟨rfl, rfl⟩
      refine And.intro rfl (Exists.intro _ (And.intro (by decide) (qx_M_mono (m_putsPlacesBack bσ2 (fun j hj => (fσ2.i _ _ rfl).trans (gσ1 j hj))) ?_)))
      rintro _ σ3 ⟨rfl, fσ3, cσ3⟩
      have hf_σ3 : ql lJ2 σ σ3 := hf_σ2.tr (fσ3.mn rfl)
      exact ⟨rfl, hf_σ3, cσ3.trans (q_pl_back (q_jdc_sA _ _ _ (by omega) hB g).1)⟩
    · skip
      have h5 := bI_f h5
      rw [hq] at h5; cases h5
/-! who changes with whom -/
theorem l_changers2 {G : qx_G} {σ0 : qx_S} {S : qS} {rf : Option qR} (g : gS S) {k what : Int32} {a : Nat} (ha : a < s_n S 1) {Φ : qx_F} : ∀ (m b : Nat) (n : Int32) (σ : qx_S), m = s_n S 1 - b → b ≤ s_n S 1 → ql lR σ0 σ → mX σ S rf none →
    (∀ r s, ql lR σ0 s → (q_cgi (q_can S rf) k what a (s_n S 1 - b) b n).1 = some r → Φ (some (.int r)) s) →
    (∀ s, ql lR σ0 s → mX s S rf none → (q_cgi (q_can S rf) k what a (s_n S 1 - b) b n).1 = none → qx_K G qc_T 7 RX12 YX12_changers 99 [.ref 197, .int k, .int what, .int (q_cgi (q_can S rf) k what a (s_n S 1 - b) b n).2, .int (nI a), .retAddr 0] [] s Φ) →
    qx_K G qc_T 7 RX12 YX12_changers 43 [.ref 197, .int k, .int what, .int n, .int (nI a), .int (nI b)] [] σ Φ := by
  intro m
  have h10 := g.2.1.2
  induction m using Nat.strongRecOn with
  | _ m ih =>
    intro b n σ hm hb hf hX hr hk
    rcases Nat.lt_or_ge b (s_n S 1) with hlt | hge
    · have e1 : s_n S 1 - b = (s_n S 1 - (b + 1)) + 1 := by omega
      rw [e1] at hr hk
      have u1 : ∀ n, q_can S rf a b = false → q_cgi (q_can S rf) k what a (s_n S 1 - (b + 1) + 1) b n = q_cgi (q_can S rf) k what a (s_n S 1 - (b + 1)) (b + 1) n := fun n y => if_neg (by rw [y]; decide)
      have u2 : q_can S rf a b = true → ¬ (what < nI 2 ∧ n = k) → q_cgi (q_can S rf) k what a (s_n S 1 - (b + 1) + 1) b n = q_cgi (q_can S rf) k what a (s_n S 1 - (b + 1)) (b + 1) (n + nI 1) := fun y z => (if_pos y).trans (if_neg z)
      have u3 : q_can S rf a b = true → (what < nI 2 ∧ n = k) → q_cgi (q_can S rf) k what a (s_n S 1 - (b + 1) + 1) b n = (some (if what = 0 then nI a else nI b), n) := fun y z => (if_pos y).trans (if_pos z)
      refine qy_wp_ok (c := CX12_changers) (cuts := [43, 99]) vX12_changers wX12_changers 2000 43 _ _ _ ?_
      refine And.intro rfl (Exists.intro 207 (And.intro rfl ?_))
      refine Exists.intro (nI 1) (And.intro rfl ?_)
      refine Exists.intro (1) (Exists.intro (nI (s_n S 1)) (And.intro rfl (And.intro ⟨2788, rfl, by decide, by decide⟩ (And.intro ((congrFun hX.1 1).trans g.2.1.1) ?_))))
      refine And.intro (fun h51 => ?_) (fun h51 => ?_)
      · skip
        have h51 := nI_leT (a := s_n S 1) (b := b) (by omega) (by omega) h51
        exact absurd h51 (by omega)
      · skip
        have h51 := nI_leF (a := s_n S 1) (b := b) (by omega) (by omega) h51
        refine And.intro rfl (Exists.intro _ (And.intro (by decide) (qx_M_mono (m_canChange hX g (by omega) (by omega)) ?_)))
        rintro _ σ1 ⟨rfl, fσ1, gσ1⟩
        have hf_σ1 : ql lR σ0 σ1 := hf.tr fσ1
        have hX_σ1 : mX σ1 S rf none := hX.fr fσ1 rfl
        refine And.intro (fun h62 => ?_) (fun h62 => ?_)
        · skip
          have h62 := bI_t h62
          refine Exists.intro (nI 2) (And.intro rfl ?_)
          refine And.intro (fun h70 => ?_) (fun h70 => ?_)
          · skip
            refine Exists.intro (n + (nI 1)) (And.intro rfl ?_)
            refine Exists.intro (nI (b + 1)) (And.intro (nI_add _ _) ?_)
            first | (refine ih _ (by omega) (b + 1) _ _ rfl (by omega) hf_σ1 hX_σ1 ?_ ?_ <;> rw [← u1 _ h62] <;> assumption) | (refine ih _ (by omega) (b + 1) _ _ rfl (by omega) hf_σ1 hX_σ1 ?_ ?_ <;> rw [← u2 h62 (fun z => absurd z.1 (Int32.not_lt.mpr h70))] <;> assumption) | (refine ih _ (by omega) (b + 1) _ _ rfl (by omega) hf_σ1 hX_σ1 ?_ ?_ <;> rw [← u2 h62 (fun z => absurd z.2 h75)] <;> assumption)
          · skip
            refine And.intro (fun h75 => ?_) (fun h75 => ?_)
            · skip
              refine Exists.intro (n + (nI 1)) (And.intro rfl ?_)
              refine Exists.intro (nI (b + 1)) (And.intro (nI_add _ _) ?_)
              first | (refine ih _ (by omega) (b + 1) _ _ rfl (by omega) hf_σ1 hX_σ1 ?_ ?_ <;> rw [← u1 _ h62] <;> assumption) | (refine ih _ (by omega) (b + 1) _ _ rfl (by omega) hf_σ1 hX_σ1 ?_ ?_ <;> rw [← u2 h62 (fun z => absurd z.1 (Int32.not_lt.mpr h70))] <;> assumption) | (refine ih _ (by omega) (b + 1) _ _ rfl (by omega) hf_σ1 hX_σ1 ?_ ?_ <;> rw [← u2 h62 (fun z => absurd z.2 h75)] <;> assumption)
            · skip
              refine And.intro (fun h79 => ?_) (fun h79 => ?_)
              · skip
                refine hr _ _ hf_σ1 ?_; rw [u3 h62 ⟨Int32.not_le.mp h70, h75⟩]; first | rw [if_pos h79] | rw [if_neg h79]
              · skip
                refine hr _ _ hf_σ1 ?_; rw [u3 h62 ⟨Int32.not_le.mp h70, h75⟩]; first | rw [if_pos h79] | rw [if_neg h79]
        · skip
          have h62 := bI_f h62
          refine Exists.intro (nI (b + 1)) (And.intro (nI_add _ _) ?_)
          first | (refine ih _ (by omega) (b + 1) _ _ rfl (by omega) hf_σ1 hX_σ1 ?_ ?_ <;> rw [← u1 _ h62] <;> assumption) | (refine ih _ (by omega) (b + 1) _ _ rfl (by omega) hf_σ1 hX_σ1 ?_ ?_ <;> rw [← u2 h62 (fun z => absurd z.1 (Int32.not_lt.mpr h70))] <;> assumption) | (refine ih _ (by omega) (b + 1) _ _ rfl (by omega) hf_σ1 hX_σ1 ?_ ?_ <;> rw [← u2 h62 (fun z => absurd z.2 h75)] <;> assumption)
    · obtain rfl : b = s_n S 1 := by omega
      rw [Nat.sub_self] at hk
      refine qy_wp_ok (c := CX12_changers) (cuts := [43, 99]) vX12_changers wX12_changers 2000 43 _ _ _ ?_
      refine And.intro rfl (Exists.intro 207 (And.intro rfl ?_))
      refine Exists.intro (nI 1) (And.intro rfl ?_)
      refine Exists.intro (1) (Exists.intro (nI (s_n S 1)) (And.intro rfl (And.intro ⟨2788, rfl, by decide, by decide⟩ (And.intro ((congrFun hX.1 1).trans g.2.1.1) ?_))))
      refine And.intro (fun h51 => ?_) (fun h51 => ?_)
      · skip
        have h51 := nI_leT (a := s_n S 1) (b := s_n S 1) (by omega) (by omega) h51
        refine qx_K_le (ls := [.ref 197, .int k, .int what, .int n, .int (nI a), .retAddr 0]) ⟨Or.inr rfl, Or.inr rfl, Or.inr rfl, Or.inr rfl, Or.inr rfl, Or.inl rfl, trivial⟩ ?_
        exact hk _ hf hX rfl
      · skip
        have h51 := nI_leF (a := s_n S 1) (b := s_n S 1) (by omega) (by omega) h51
        exact absurd h51 (by omega)

