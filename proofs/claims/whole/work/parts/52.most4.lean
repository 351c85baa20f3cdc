/-! THE REFERENCE: MOST of all sets, followed -/
theorem l_leastOf {G : qx_G} {σ : qx_S} {s : Nat} (hs0 : 0 < s) (hs : s < 1024) : ∀ (m p : Nat), m = q_lo s - p → p ≤ q_lo s →
    qx_K G qc_T 1 RX12 YX12_leastOf 2 [.retAddr 0, .int (nI s), .int (nI p)] [] σ (qr (nI (q_lo s)) σ) := by
  obtain ⟨y1, y2, y3⟩ := q_lo_ok hs0 hs
  intro m
  induction m using Nat.strongRecOn with
  | _ m ih =>
    intro p hm hp
    rcases Nat.lt_or_ge p (q_lo s) with hlt | hge
    · skip
      refine qy_wp_ok (c := CX12_leastOf) (cuts := [2]) vX12_leastOf wX12_leastOf 2000 2 _ _ _ ?_
      refine Exists.intro _ (And.intro (by decide) (qx_M_mono (m_isOf (s := s) (k := p) (by omega) (by omega)) ?_))
      rintro _ _ ⟨rfl, rfl⟩
      refine And.intro (fun h7 => ?_) (fun h7 => ?_)
      · skip
        have h7 := bI_t h7
        exact absurd (h7.symm.trans (y3 p hlt)) (by decide)
      · skip
        have h7 := bI_f h7
        refine Exists.intro (nI (p + 1)) (And.intro (nI_add _ _) ?_)
        exact ih _ (by omega) (p + 1) rfl (by omega)
    · obtain rfl : p = q_lo s := by omega
      refine qy_wp_ok (c := CX12_leastOf) (cuts := [2]) vX12_leastOf wX12_leastOf 2000 2 _ _ _ ?_
      refine Exists.intro _ (And.intro (by decide) (qx_M_mono (m_isOf (s := s) (k := (q_lo s)) (by omega) (by omega)) ?_))
      rintro _ _ ⟨rfl, rfl⟩
      refine And.intro (fun h7 => ?_) (fun h7 => ?_)
      · skip
        have h7 := bI_t h7
        exact ⟨rfl, rfl⟩
      · skip
        have h7 := bI_f h7
        exact absurd (h7.symm.trans (y1)) (by decide)
theorem m_leastOf {G : qx_G} {σ : qx_S} {s : Nat} (hs0 : 0 < s) (hs : s < 1024) : qx_M G qc_T 1 YX12_leastOf [.ref 197, .int (nI s)] σ (qr (nI (q_lo s)) σ) := by
  refine qx_M_in rfl (Nat.le_of_ble_eq_true rfl) ?_
  refine qy_wp_ok (c := CX12_leastOf) (cuts := [2]) vX12_leastOf wX12_leastOf 2000 0 _ _ _ ?_
  refine Exists.intro (nI 0) (And.intro rfl ?_)
  refine qx_K_le (ls := [.retAddr 0, .int (nI s), .int (nI 0)]) ⟨Or.inl rfl, Or.inr rfl, Or.inr rfl, trivial⟩ ?_
  exact l_leastOf hs0 hs _ 0 rfl (by omega)
abbrev lFm : List (Nat × Option Nat) := [(205, none), (206, none), (197, some 18), (212, none), (213, none), (214, none), (215, none), (216, none), (197, some 34), (197, some 35), (197, some 36)]
/-- the tables below N -/
def mT (σ : qx_S) (D : Nat → q_T3) (N : Nat) : Prop := ∀ i, i < N → qx_mi σ 214 i = (D i).1 ∧ qx_mi σ 215 i = nI (D i).2.1 ∧ (0 < i → qx_mi σ 216 i = nI (D i).2.2)
theorem l_findsMost {G : qx_G} {σ0 : qx_S} {can : Nat → Nat → Nat → Bool} {gn : Nat → Nat → Int32} {pe k : Nat} (hpe : pe ≤ 10) (hk2 : 2 ≤ k) (hk4 : k ≤ 4) : ∀ (m s : Nat) (σ : qx_S), m = 2 ^ pe - s → 1 ≤ s → s ≤ 2 ^ pe → ql lFm σ0 σ → mK σ can gn pe k → mT σ (q_Dt can gn pe k (s - 1)) s →
    qx_K G qc_T 6 RX12 YX12_findsMost 21 [.ref 197, .int (nI k), .int (nI s), .retAddr 0] [] σ (fun r s' => r = none ∧ ql lFm σ0 s' ∧ mT s' (q_Dt can gn pe k (2 ^ pe - 1)) (2 ^ pe) ∧ mK s' can gn pe k) := by
  have h1024 : 2 ^ pe ≤ 1024 := Nat.pow_le_pow_right (by decide) hpe
  intro m
  induction m using Nat.strongRecOn with
  | _ m ih =>
    intro s σ hm h1 hs hf hK hT
    rcases Nat.lt_or_ge s (2 ^ pe) with hlt | hge
    · obtain ⟨y1, y2, y3⟩ := q_lo_ok (s := s) (by omega) (by omega)
      have y4 := q_tb_lt hlt y1
      have hw : q_wo s (2 ^ q_lo s) < s := q_wo_lt y1 Nat.testBit_two_pow_self
      have hb := fun i => q_Dt_b (can := can) (gn := gn) (k := k) hpe (s - 1) (by omega) i
      have hbw := (hb (q_wo s (2 ^ q_lo s))).1
      have hD : mD σ (q_Dt can gn pe k (s - 1)) s := fun i hi => ⟨(hT i hi).1, (hT i hi).2.1, (hb i).1⟩
      have es : q_Dt can gn pe k s s = q_De can gn pe k (q_Dt can gn pe k (s - 1)) s := by
        rw [show s = s - 1 + 1 by omega]
        exact if_pos rfl
      have eo : ∀ i, i < s → q_Dt can gn pe k s i = q_Dt can gn pe k (s - 1) i := by
        intro i hi
        rw [q_Dt_st can gn pe k s (by omega), q_Dt_st can gn pe k (s - 1) (by omega)]
      have hbs := hb s
      refine qy_wp_ok (c := CX12_findsMost) (cuts := [21]) vX12_findsMost wX12_findsMost 2000 21 _ _ _ ?_
      refine Exists.intro (nI 1) (And.intro rfl ?_)
      refine And.intro rfl (Exists.intro 207 (And.intro rfl ?_))
      refine Exists.intro (nI 1) (And.intro rfl ?_)
      refine Exists.intro (1) (Exists.intro (nI pe) (And.intro rfl (And.intro ⟨2788, rfl, by decide, by decide⟩ (And.intro (hK.1) ?_))))
      refine Exists.intro (nI (2 ^ pe)) (And.intro (nI_sh1 (by omega)) ?_)
      refine And.intro (fun h30 => ?_) (fun h30 => ?_)
      · skip
        have h30 := nI_leT (a := 2 ^ pe) (b := s) (by omega) (by omega) h30
        exact absurd h30 (by omega)
      · skip
        have h30 := nI_leF (a := 2 ^ pe) (b := s) (by omega) (by omega) h30
        refine And.intro rfl (Exists.intro _ (And.intro (by decide) (qx_M_mono (m_leastOf (s := s) (by omega) (by omega)) ?_)))
        rintro _ _ ⟨rfl, rfl⟩
        refine And.intro rfl (Exists.intro 214 (And.intro rfl ?_))
        refine Exists.intro (nI 1) (And.intro rfl ?_)
        refine Exists.intro (nI (2 ^ (q_lo s))) (And.intro (nI_sh1 (by omega)) ?_)
        refine Exists.intro ((-1)) (And.intro (by decide) ?_)
        refine Exists.intro ((nI (2 ^ (q_lo s))) ^^^ (-1)) (And.intro rfl ?_)
        refine Exists.intro (nI (q_wo s (2 ^ q_lo s))) (And.intro (nI_andn s (2 ^ q_lo s) (by omega)) ?_)
        refine Exists.intro (q_wo s (2 ^ q_lo s)) (Exists.intro ((q_Dt can gn pe k (s - 1) (q_wo s (2 ^ q_lo s))).1) (And.intro rfl (And.intro ⟨1024, rfl, by omega, by decide⟩ (And.intro ((hT _ hw).1) ?_))))
        obtain ⟨σ1, eσ1⟩ : ∃ zs, zs = (qx_wi σ 197 34 ((q_Dt can gn pe k (s - 1) (q_wo s (2 ^ q_lo s))).1)) := ⟨_, rfl⟩
        have fσ1 := qn_wif eσ1
        refine And.intro rfl (Exists.intro 34 (Exists.intro σ1 (And.intro rfl (And.intro eσ1.symm ?_))))
        have hf_σ1 : ql lFm σ0 σ1 := hf.tr (fσ1.mn rfl)
        have hK_σ1 : mK σ1 can gn pe k := hK.fr fσ1 (fun _ => rfl) (fun _ => rfl) (fun _ => rfl)
        have hD_σ1 : mD σ1 (q_Dt can gn pe k (s - 1)) s := hD.fr fσ1 (fun _ => rfl) (fun _ => rfl)
        refine And.intro rfl (Exists.intro 215 (And.intro rfl ?_))
        refine Exists.intro (nI 1) (And.intro rfl ?_)
        refine Exists.intro (nI (2 ^ (q_lo s))) (And.intro (nI_sh1 (by omega)) ?_)
        refine Exists.intro ((-1)) (And.intro (by decide) ?_)
        refine Exists.intro ((nI (2 ^ (q_lo s))) ^^^ (-1)) (And.intro rfl ?_)
        refine Exists.intro (nI (q_wo s (2 ^ q_lo s))) (And.intro (nI_andn s (2 ^ q_lo s) (by omega)) ?_)
        refine Exists.intro (q_wo s (2 ^ q_lo s)) (Exists.intro (nI ((q_Dt can gn pe k (s - 1) (q_wo s (2 ^ q_lo s))).2.1)) (And.intro rfl (And.intro ⟨1024, rfl, by omega, by decide⟩ (And.intro ((fσ1.i _ _ rfl).trans ((hT _ hw).2.1)) ?_))))
        obtain ⟨σ2, eσ2⟩ : ∃ zs, zs = (qx_wi σ1 197 35 (nI ((q_Dt can gn pe k (s - 1) (q_wo s (2 ^ q_lo s))).2.1))) := ⟨_, rfl⟩
        have fσ2 := qn_wif eσ2
        refine And.intro rfl (Exists.intro 35 (Exists.intro σ2 (And.intro rfl (And.intro eσ2.symm ?_))))
        have hf_σ2 : ql lFm σ0 σ2 := hf_σ1.tr (fσ2.mn rfl)
        have hK_σ2 : mK σ2 can gn pe k := hK_σ1.fr fσ2 (fun _ => rfl) (fun _ => rfl) (fun _ => rfl)
        have hD_σ2 : mD σ2 (q_Dt can gn pe k (s - 1)) s := hD_σ1.fr fσ2 (fun _ => rfl) (fun _ => rfl)
        refine Exists.intro (nI 0) (And.intro rfl ?_)
        obtain ⟨σ3, eσ3⟩ : ∃ zs, zs = (qx_wi σ2 197 36 (nI 0)) := ⟨_, rfl⟩
        have fσ3 := qn_wif eσ3
        refine And.intro rfl (Exists.intro 36 (Exists.intro σ3 (And.intro rfl (And.intro eσ3.symm ?_))))
        have hf_σ3 : ql lFm σ0 σ3 := hf_σ2.tr (fσ3.mn rfl)
        have hK_σ3 : mK σ3 can gn pe k := hK_σ2.fr fσ3 (fun _ => rfl) (fun _ => rfl) (fun _ => rfl)
        have hD_σ3 : mD σ3 (q_Dt can gn pe k (s - 1)) s := hD_σ2.fr fσ3 (fun _ => rfl) (fun _ => rfl)
        refine And.intro rfl (Exists.intro _ (And.intro (by decide) (qx_M_mono (m_offersFrom (bs := ((q_Dt can gn pe k (s - 1) (q_wo s (2 ^ q_lo s))).1, (q_Dt can gn pe k (s - 1) (q_wo s (2 ^ q_lo s))).2.1, 0)) hpe hk2 hk4 (by omega) y1 y4 hK_σ3 hD_σ3 ⟨(fσ3.i _ _ rfl).trans ((fσ2.i _ _ rfl).trans (qn_eq eσ1)), (fσ3.i _ _ rfl).trans (qn_eq eσ2), qn_eq eσ3⟩ ⟨by show (q_Dt can gn pe k (s - 1) (q_wo s (2 ^ q_lo s))).2.1 ≤ _; omega, by show 0 < 32768; omega⟩) ?_)))
        rintro _ σ4 ⟨rfl, fσ4, gσ4⟩
        have hf_σ4 : ql lFm σ0 σ4 := hf_σ3.tr (fσ4.mn rfl)
        have hK_σ4 : mK σ4 can gn pe k := hK_σ3.fr fσ4 (fun _ => rfl) (fun _ => rfl) (fun _ => rfl)
        have hD_σ4 : mD σ4 (q_Dt can gn pe k (s - 1)) s := hD_σ3.fr fσ4 (fun _ => rfl) (fun _ => rfl)
        refine And.intro rfl (Exists.intro 214 (And.intro rfl ?_))
        refine And.intro rfl (Exists.intro 34 (Exists.intro ((q_Dt can gn pe k s s).1) (And.intro rfl (And.intro (gσ4.1.trans (by rw [es]; rfl)) ?_))))
        obtain ⟨σ5, eσ5⟩ : ∃ zs, zs = (qx_wi σ4 214 s ((q_Dt can gn pe k s s).1)) := ⟨_, rfl⟩
        have fσ5 := qn_wi eσ5
        refine Exists.intro (s) (Exists.intro σ5 (And.intro rfl (And.intro ⟨1024, rfl, by omega, by decide⟩ (And.intro eσ5.symm ?_))))
        have hf_σ5 : ql lFm σ0 σ5 := hf_σ4.tr (fσ5.mn rfl)
        have hK_σ5 : mK σ5 can gn pe k := hK_σ4.fr fσ5 (fun _ => rfl) (fun _ => rfl) (fun _ => rfl)
        refine And.intro rfl (Exists.intro 215 (And.intro rfl ?_))
        refine And.intro rfl (Exists.intro 35 (Exists.intro (nI (q_Dt can gn pe k s s).2.1) (And.intro rfl (And.intro ((fσ5.i _ _ rfl).trans ((gσ4.2.1.trans (by rw [es]; rfl)))) ?_))))
        obtain ⟨σ6, eσ6⟩ : ∃ zs, zs = (qx_wi σ5 215 s (nI (q_Dt can gn pe k s s).2.1)) := ⟨_, rfl⟩
        have fσ6 := qn_wi eσ6
        refine Exists.intro (s) (Exists.intro σ6 (And.intro rfl (And.intro ⟨1024, rfl, by omega, by decide⟩ (And.intro eσ6.symm ?_))))
        have hf_σ6 : ql lFm σ0 σ6 := hf_σ5.tr (fσ6.mn rfl)
        have hK_σ6 : mK σ6 can gn pe k := hK_σ5.fr fσ6 (fun _ => rfl) (fun _ => rfl) (fun _ => rfl)
        refine And.intro rfl (Exists.intro 216 (And.intro rfl ?_))
        refine And.intro rfl (Exists.intro 36 (Exists.intro (nI (q_Dt can gn pe k s s).2.2) (And.intro rfl (And.intro ((fσ6.i _ _ rfl).trans ((fσ5.i _ _ rfl).trans ((gσ4.2.2.trans (by rw [es]; rfl))))) ?_))))
        obtain ⟨σ7, eσ7⟩ : ∃ zs, zs = (qx_wi σ6 216 s (nI (q_Dt can gn pe k s s).2.2)) := ⟨_, rfl⟩
        have fσ7 := qn_wi eσ7
        refine Exists.intro (s) (Exists.intro σ7 (And.intro rfl (And.intro ⟨1024, rfl, by omega, by decide⟩ (And.intro eσ7.symm ?_))))
        have hf_σ7 : ql lFm σ0 σ7 := hf_σ6.tr (fσ7.mn rfl)
        have hK_σ7 : mK σ7 can gn pe k := hK_σ6.fr fσ7 (fun _ => rfl) (fun _ => rfl) (fun _ => rfl)
        refine Exists.intro (nI (s + 1)) (And.intro (nI_add _ _) ?_)
        refine qx_K_le (ls := [.ref 197, .int (nI k), .int (nI (s + 1)), .retAddr 0]) ⟨Or.inr rfl, Or.inr rfl, Or.inr rfl, Or.inl rfl, trivial⟩ ?_
        refine ih _ (by omega) (s + 1) _ rfl (by omega) (by omega) hf_σ7 hK_σ7 (fun i hi => ?_)
        rw [Nat.add_sub_cancel]
        by_cases e : i = s
        · subst e
          exact ⟨(fσ7.i _ _ rfl).trans ((fσ6.i _ _ rfl).trans (qn_eq eσ5)), (fσ7.i _ _ rfl).trans (qn_eq eσ6), fun _ => qn_eq eσ7⟩
        · rw [eo i (by omega)]
          obtain ⟨z1, z2, z3⟩ := hT i (by omega)
          have t1 : ∀ j, qx_mi σ4 214 j = qx_mi σ 214 j := fun j => (fσ4.i _ _ rfl).trans ((fσ3.i _ _ rfl).trans ((fσ2.i _ _ rfl).trans (fσ1.i _ _ rfl)))
          have t2 : ∀ j, qx_mi σ4 215 j = qx_mi σ 215 j := fun j => (fσ4.i _ _ rfl).trans ((fσ3.i _ _ rfl).trans ((fσ2.i _ _ rfl).trans (fσ1.i _ _ rfl)))
          have t3 : ∀ j, qx_mi σ4 216 j = qx_mi σ 216 j := fun j => (fσ4.i _ _ rfl).trans ((fσ3.i _ _ rfl).trans ((fσ2.i _ _ rfl).trans (fσ1.i _ _ rfl)))
          exact ⟨(fσ7.i _ _ rfl).trans ((fσ6.i _ _ rfl).trans ((qn_ne eσ5 (Or.inr e)).trans ((t1 i).trans z1))), (fσ7.i _ _ rfl).trans ((qn_ne eσ6 (Or.inr e)).trans ((fσ5.i _ _ rfl).trans ((t2 i).trans z2))), fun w => (qn_ne eσ7 (Or.inr e)).trans ((fσ6.i _ _ rfl).trans ((fσ5.i _ _ rfl).trans ((t3 i).trans (z3 w))))⟩
    · obtain rfl : s = 2 ^ pe := by omega
      refine qy_wp_ok (c := CX12_findsMost) (cuts := [21]) vX12_findsMost wX12_findsMost 2000 21 _ _ _ ?_
      refine Exists.intro (nI 1) (And.intro rfl ?_)
      refine And.intro rfl (Exists.intro 207 (And.intro rfl ?_))
      refine Exists.intro (nI 1) (And.intro rfl ?_)
      refine Exists.intro (1) (Exists.intro (nI pe) (And.intro rfl (And.intro ⟨2788, rfl, by decide, by decide⟩ (And.intro (hK.1) ?_))))
      refine Exists.intro (nI (2 ^ pe)) (And.intro (nI_sh1 (by omega)) ?_)
      refine And.intro (fun h30 => ?_) (fun h30 => ?_)
      · skip
        have h30 := nI_leT (a := 2 ^ pe) (b := 2 ^ pe) (by omega) (by omega) h30
        exact ⟨rfl, hf, hT, hK⟩
      · skip
        have h30 := nI_leF (a := 2 ^ pe) (b := 2 ^ pe) (by omega) (by omega) h30
        exact absurd h30 (by omega)
/-- the best of all sets -/
abbrev q_D (S : qS) (rf : Option qR) (ly : Option (Nat × Nat)) (k : Nat) : Nat → q_T3 := q_Dt (q_cn S rf ly) (q_gn S rf ly) (s_n S 1) k (2 ^ s_n S 1 - 1)
theorem m_findsMost {G : qx_G} {σ : qx_S} {S : qS} {rf : Option qR} {ly : Option (Nat × Nat)} (hX : mX σ S rf ly) (g : gS S) {k : Nat} (hk2 : 2 ≤ k) (hk4 : k ≤ 4) : qx_M G qc_T 6 YX12_findsMost [.ref 197, .int (nI k)] σ (fun r s => r = none ∧ ql lFm σ s ∧ mT s (q_D S rf ly k) (2 ^ s_n S 1) ∧ mX s S rf ly) := by
  have h10 := g.2.1.2
  have hf : ql lFm σ σ := qf.rf
  have hpos : 1 ≤ 2 ^ s_n S 1 := Nat.one_le_two_pow
  refine qx_M_in rfl (Nat.le_of_ble_eq_true rfl) ?_
  refine qy_wp_ok (c := CX12_findsMost) (cuts := [21]) vX12_findsMost wX12_findsMost 2000 0 _ _ _ ?_
  refine And.intro rfl (Exists.intro _ (And.intro (by decide) (qx_M_mono (m_marks hX g hk2 hk4) ?_)))
  rintro _ σ1 ⟨rfl, fσ1, aσ1, bσ1⟩
  have hf_σ1 : ql lFm σ σ1 := hf.tr (fσ1.mn rfl)
  refine And.intro rfl (Exists.intro 214 (And.intro rfl ?_))
  refine Exists.intro (nI 0) (And.intro rfl ?_)
  refine Exists.intro (nI 0) (And.intro rfl ?_)
  obtain ⟨σ2, eσ2⟩ : ∃ zs, zs = (qx_wi σ1 214 0 (nI 0)) := ⟨_, rfl⟩
  have fσ2 := qn_wi eσ2
  refine Exists.intro (0) (Exists.intro σ2 (And.intro rfl (And.intro ⟨1024, rfl, by decide, by decide⟩ (And.intro eσ2.symm ?_))))
  have hf_σ2 : ql lFm σ σ2 := hf_σ1.tr (fσ2.mn rfl)
  refine And.intro rfl (Exists.intro 215 (And.intro rfl ?_))
  refine Exists.intro (nI 0) (And.intro rfl ?_)
  refine Exists.intro (nI 0) (And.intro rfl ?_)
  obtain ⟨σ3, eσ3⟩ : ∃ zs, zs = (qx_wi σ2 215 0 (nI 0)) := ⟨_, rfl⟩
  have fσ3 := qn_wi eσ3
  refine Exists.intro (0) (Exists.intro σ3 (And.intro rfl (And.intro ⟨1024, rfl, by decide, by decide⟩ (And.intro eσ3.symm ?_))))
  have hf_σ3 : ql lFm σ σ3 := hf_σ2.tr (fσ3.mn rfl)
  refine Exists.intro (nI 1) (And.intro rfl ?_)
  refine qx_K_mono (l_findsMost g.2.1.2 hk2 hk4 _ 1 σ3 rfl (by omega) hpos hf_σ3 ((bσ1.fr fσ2 (fun _ => rfl) (fun _ => rfl) (fun _ => rfl)).fr fσ3 (fun _ => rfl) (fun _ => rfl) (fun _ => rfl)) (fun i hi => ?_)) (fun r s y => ⟨y.1, y.2.1, y.2.2.1, hX.fr y.2.1 rfl⟩)
  obtain rfl : i = 0 := by omega
  exact ⟨(fσ3.i _ _ rfl).trans (qn_eq eσ2), qn_eq eσ3, fun w => absurd w (by omega)⟩

