/-! THE REFERENCE: CORE, rounds -/
theorem l_comesBack {G : qx_G} {σ : qx_S} {pe : Nat} (e1 : qx_mi σ 207 1 = nI pe) (hpe : pe ≤ 10) {pts : Nat → Nat} (hpt : ∀ i, i < pe → qx_mi σ 218 i = nI (pts i) ∧ pts i < pe) {p : Nat} (hp : p < pe) : ∀ (m k o : Nat), m = pe - k → k ≤ pe → o < pe →
    qx_K G qc_T 0 RX12 YX12_comesBack 9 [.ref 197, .int (nI p), .int (nI o), .int (nI k)] [] σ (qr (bI (q_cb pts p (pe - k) o)) σ) := by
  intro m
  induction m using Nat.strongRecOn with
  | _ m ih =>
    intro k o hm hk ho
    have ho2 := (hpt o ho).2
    rcases Nat.lt_or_ge k pe with hlt | hge
    · have e2 : pe - k = (pe - (k + 1)) + 1 := by omega
      have u1 : o = p → q_cb pts p (pe - k) o = true := fun z => by rw [e2]; exact if_pos z
      have u2 : ¬ o = p → q_cb pts p (pe - k) o = q_cb pts p (pe - (k + 1)) (pts o) := fun z => by rw [e2]; exact if_neg z
      refine qy_wp_ok (c := CX12_comesBack) (cuts := [9]) vX12_comesBack wX12_comesBack 2000 9 _ _ _ ?_
      refine And.intro rfl (Exists.intro 207 (And.intro rfl ?_))
      refine Exists.intro (nI 1) (And.intro rfl ?_)
      refine Exists.intro (1) (Exists.intro (nI pe) (And.intro rfl (And.intro ⟨2788, rfl, by decide, by decide⟩ (And.intro e1 ?_))))
      refine And.intro (fun h16 => ?_) (fun h16 => ?_)
      · skip
        have h16 := nI_leT (a := pe) (b := k) (by omega) (by omega) h16
        exact absurd h16 (by omega)
      · skip
        have h16 := nI_leF (a := pe) (b := k) (by omega) (by omega) h16
        refine And.intro (fun h21 => ?_) (fun h21 => ?_)
        · skip
          have h21 := nI_eqT (a := o) (b := p) (by omega) (by omega) h21
          refine And.intro (fun h39 => ?_) (fun h39 => ?_)
          · skip
            have h39 := nI_neT (a := o) (b := p) (by omega) (by omega) h39
            exact absurd h21 h39
          · skip
            have h39 := nI_eqT (a := o) (b := p) (by omega) (by omega) h39
            refine Exists.intro (nI 1) (And.intro rfl ?_)
            refine And.intro (Or.inr rfl) ?_
            exact ⟨congrArg (fun z => some (Value.int z)) (bI_true (u1 h21)).symm, rfl⟩
        · skip
          have h21 := nI_neT (a := o) (b := p) (by omega) (by omega) h21
          refine And.intro rfl (Exists.intro 218 (And.intro rfl ?_))
          refine Exists.intro (o) (Exists.intro (nI (pts o)) (And.intro rfl (And.intro ⟨10, rfl, by omega, by decide⟩ (And.intro ((hpt o ho).1) ?_))))
          refine Exists.intro (nI (k + 1)) (And.intro (nI_add _ _) ?_)
          rw [u2 h21]; exact ih _ (by omega) (k + 1) (pts o) rfl (by omega) ho2
    · obtain rfl : k = pe := by omega
      rw [Nat.sub_self]
      refine qy_wp_ok (c := CX12_comesBack) (cuts := [9]) vX12_comesBack wX12_comesBack 2000 9 _ _ _ ?_
      refine And.intro rfl (Exists.intro 207 (And.intro rfl ?_))
      refine Exists.intro (nI 1) (And.intro rfl ?_)
      refine Exists.intro (1) (Exists.intro (nI k) (And.intro rfl (And.intro ⟨2788, rfl, by decide, by decide⟩ (And.intro e1 ?_))))
      refine And.intro (fun h16 => ?_) (fun h16 => ?_)
      · skip
        have h16 := nI_leT (a := k) (b := k) (by omega) (by omega) h16
        refine And.intro (fun h39 => ?_) (fun h39 => ?_)
        · skip
          have h39 := nI_neT (a := o) (b := p) (by omega) (by omega) h39
          refine Exists.intro (nI 0) (And.intro rfl ?_)
          refine And.intro (Or.inl rfl) ?_
          first | exact ⟨congrArg (fun z => some (Value.int z)) (bI_true (decide_eq_true h39)).symm, rfl⟩ | exact ⟨congrArg (fun z => some (Value.int z)) (bI_false (decide_eq_false h39)).symm, rfl⟩
        · skip
          have h39 := nI_eqT (a := o) (b := p) (by omega) (by omega) h39
          refine Exists.intro (nI 1) (And.intro rfl ?_)
          refine And.intro (Or.inr rfl) ?_
          first | exact ⟨congrArg (fun z => some (Value.int z)) (bI_true (decide_eq_true h39)).symm, rfl⟩ | exact ⟨congrArg (fun z => some (Value.int z)) (bI_false (decide_eq_false h39)).symm, rfl⟩
      · skip
        have h16 := nI_leF (a := k) (b := k) (by omega) (by omega) h16
        exact absurd h16 (by omega)
theorem m_comesBack {G : qx_G} {σ : qx_S} {pe : Nat} (e1 : qx_mi σ 207 1 = nI pe) (hpe : pe ≤ 10) {pts : Nat → Nat} (hpt : ∀ i, i < pe → qx_mi σ 218 i = nI (pts i) ∧ pts i < pe) {p : Nat} (hp : p < pe) : qx_M G qc_T 0 YX12_comesBack [.ref 197, .int (nI p)] σ (qr (bI (q_cb pts p pe (pts p))) σ) := by
  refine qx_M_in rfl (Nat.le_of_ble_eq_true rfl) ?_
  refine qy_wp_ok (c := CX12_comesBack) (cuts := [9]) vX12_comesBack wX12_comesBack 2000 0 _ _ _ ?_
  refine And.intro rfl (Exists.intro 218 (And.intro rfl ?_))
  refine Exists.intro (p) (Exists.intro (nI (pts p)) (And.intro rfl (And.intro ⟨10, rfl, by omega, by decide⟩ (And.intro ((hpt p hp).1) ?_))))
  refine Exists.intro (nI 0) (And.intro rfl ?_)
  exact l_comesBack e1 hpe hpt hp _ 0 (pts p) rfl (by omega) (hpt p hp).2
abbrev lCo : List (Nat × Option Nat) := [(205, none), (206, none), (197, some 18), (217, none), (218, none)]
theorem l_cr0 {G : qx_G} {σ0 : qx_S} {s0 : Nat} {Φ : qx_F} : ∀ (m p : Nat) (σ : qx_S), m = 10 - p → p ≤ 10 → ql lCo σ0 σ → (∀ i, i < p → qx_mi σ 217 i = nI i) →
    (∀ s, ql lCo σ0 s → (∀ i, i < 10 → qx_mi s 217 i = nI i) → qx_K G qc_T 5 RX12 YX12_findsCore 32 [.ref 197, .int (nI s0), .retAddr 0, .retAddr 0] [] s Φ) →
    qx_K G qc_T 5 RX12 YX12_findsCore 13 [.ref 197, .int (nI s0), .int (nI p), .retAddr 0] [] σ Φ := by
  intro m
  induction m using Nat.strongRecOn with
  | _ m ih =>
    intro p σ hm hp hf hj hcont
    refine qy_wp_ok (c := CX12_findsCore) (cuts := [13, 32]) vX12_findsCore wX12_findsCore 2000 13 _ _ _ ?_
    refine Exists.intro (nI 10) (And.intro rfl ?_)
    refine And.intro (fun h16 => ?_) (fun h16 => ?_)
    · skip
      have h16 := nI_leT (a := 10) (b := p) (by decide) (by omega) h16
      refine qx_K_le (ls := [.ref 197, .int (nI s0), .retAddr 0, .retAddr 0]) ⟨Or.inr rfl, Or.inr rfl, Or.inl rfl, Or.inr rfl, trivial⟩ ?_
      exact hcont _ hf (fun i hi => hj i (by omega))
    · skip
      have h16 := nI_leF (a := 10) (b := p) (by decide) (by omega) h16
      refine And.intro rfl (Exists.intro 217 (And.intro rfl ?_))
      obtain ⟨σ1, eσ1⟩ : ∃ zs, zs = (qx_wi σ 217 p (nI p)) := ⟨_, rfl⟩
      have fσ1 := qn_wi eσ1
      refine Exists.intro (p) (Exists.intro σ1 (And.intro rfl (And.intro ⟨10, rfl, by omega, by decide⟩ (And.intro eσ1.symm ?_))))
      have hf_σ1 : ql lCo σ0 σ1 := hf.tr (fσ1.mn rfl)
      refine Exists.intro (nI (p + 1)) (And.intro (nI_add _ _) ?_)
      refine ih _ (by omega) (p + 1) _ rfl (by omega) hf_σ1 (fun j h => ?_) hcont
      rcases Nat.lt_or_ge j p with z | z
      · exact (qn_ne eσ1 (Or.inr (by omega))).trans (hj j z)
      · obtain rfl : j = p := by omega
        exact qn_eq eσ1
theorem l_cr1 {G : qx_G} {σ0 : qx_S} {S : qS} {rf : Option qR} {ly : Option (Nat × Nat)} (g : gS S) {left : Nat} (hl : left < 1024) {t : Nat → Nat} {Φ : qx_F} : ∀ (m p : Nat) (σ : qx_S), m = s_n S 1 - p → p ≤ s_n S 1 → ql lCo σ0 σ → mX σ S rf ly → (∀ i, i < 10 → qx_mi σ 217 i = nI (t i)) → (∀ i, i < p → qx_mi σ 218 i = nI (q_pt S rf ly left i)) →
    (∀ s, ql lCo σ0 s → mX s S rf ly → (∀ i, i < 10 → qx_mi s 217 i = nI (t i)) → (∀ i, i < s_n S 1 → qx_mi s 218 i = nI (q_pt S rf ly left i)) → qx_K G qc_T 5 RX12 YX12_findsCore 78 [.ref 197, .int (nI left), .retAddr 0, .retAddr 0] [] s Φ) →
    qx_K G qc_T 5 RX12 YX12_findsCore 38 [.ref 197, .int (nI left), .int (nI p), .retAddr 0] [] σ Φ := by
  have h10 := g.2.1.2
  intro m
  induction m using Nat.strongRecOn with
  | _ m ih =>
    intro p σ hm hp hf hX ht hj hcont
    rcases Nat.lt_or_ge p (s_n S 1) with hlt | hge
    · have st : ∀ s s' v, nI v = nI (q_pt S rf ly left p) → ql lCo σ0 s → mX s S rf ly → (∀ i, i < 10 → qx_mi s 217 i = nI (t i)) → (∀ i, i < p → qx_mi s 218 i = nI (q_pt S rf ly left i)) → s' = qx_wi s 218 p (nI v) → qx_K G qc_T 5 RX12 YX12_findsCore 38 [.ref 197, .int (nI left), .int (nI (p + 1)), .retAddr 0] [] s' Φ := by
        intro s s' v hv y1 y2 y3 y4 e
        have f := qn_wi e
        refine ih _ (by omega) (p + 1) s' rfl (by omega) (y1.tr (f.mn rfl)) (y2.fr f rfl) (fun i hi => (f.i _ _ rfl).trans (y3 i hi)) (fun j h => ?_) hcont
        rcases Nat.lt_or_ge j p with z | z
        · exact (qn_ne e (Or.inr (by omega))).trans (y4 j z)
        · obtain rfl : j = p := by omega
          exact (qn_eq e).trans hv
      refine qy_wp_ok (c := CX12_findsCore) (cuts := [38, 78]) vX12_findsCore wX12_findsCore 2000 38 _ _ _ ?_
      refine And.intro rfl (Exists.intro 207 (And.intro rfl ?_))
      refine Exists.intro (nI 1) (And.intro rfl ?_)
      refine Exists.intro (1) (Exists.intro (nI (s_n S 1)) (And.intro rfl (And.intro ⟨2788, rfl, by decide, by decide⟩ (And.intro ((congrFun hX.1 1).trans g.2.1.1) ?_))))
      refine And.intro (fun h45 => ?_) (fun h45 => ?_)
      · skip
        have h45 := nI_leT (a := s_n S 1) (b := p) (by omega) (by omega) h45
        exact absurd h45 (by omega)
      · skip
        have h45 := nI_leF (a := s_n S 1) (b := p) (by omega) (by omega) h45
        refine And.intro rfl (Exists.intro 218 (And.intro rfl ?_))
        refine Exists.intro _ (And.intro (by decide) (qx_M_mono (m_isOf (s := left) (k := p) (by omega) (by omega)) ?_))
        rintro _ _ ⟨rfl, rfl⟩
        refine And.intro (fun h58 => ?_) (fun h58 => ?_)
        · skip
          have h58 := bI_f h58
          obtain ⟨σ1, eσ1⟩ : ∃ zs, zs = (qx_wi σ 218 p (nI p)) := ⟨_, rfl⟩
          have fσ1 := qn_wi eσ1
          refine Exists.intro (p) (Exists.intro σ1 (And.intro rfl (And.intro ⟨10, rfl, by omega, by decide⟩ (And.intro eσ1.symm ?_))))
          have hf_σ1 : ql lCo σ0 σ1 := hf.tr (fσ1.mn rfl)
          have hX_σ1 : mX σ1 S rf ly := hX.fr fσ1 rfl
          refine Exists.intro (nI (p + 1)) (And.intro (nI_add _ _) ?_)
          first | exact st σ1 σ2 _ (by unfold q_pt; rw [if_pos h58]) (hf.tr (fσ1.mn rfl)) (hX.fr fσ1 rfl) (fun i hi => (fσ1.i _ _ rfl).trans (ht i hi)) (fun i hi => (fσ1.i _ _ rfl).trans (hj i hi)) eσ2 | exact st σ σ1 _ (by unfold q_pt; rw [if_neg (by rw [h58]; decide)]) hf hX ht hj eσ1
        · skip
          have h58 := bI_t h58
          refine And.intro rfl (Exists.intro _ (And.intro (by decide) (qx_M_mono (m_pointsAt hX g hl (by omega)) ?_)))
          rintro _ σ1 ⟨rfl, fσ1⟩
          have hf_σ1 : ql lCo σ0 σ1 := hf.tr (fσ1.mn rfl)
          have hX_σ1 : mX σ1 S rf ly := hX.fr fσ1 rfl
          obtain ⟨σ2, eσ2⟩ : ∃ zs, zs = (qx_wi σ1 218 p (nI (q_pa S rf ly left p))) := ⟨_, rfl⟩
          have fσ2 := qn_wi eσ2
          refine Exists.intro (p) (Exists.intro σ2 (And.intro rfl (And.intro ⟨10, rfl, by omega, by decide⟩ (And.intro eσ2.symm ?_))))
          have hf_σ2 : ql lCo σ0 σ2 := hf_σ1.tr (fσ2.mn rfl)
          have hX_σ2 : mX σ2 S rf ly := hX_σ1.fr fσ2 rfl
          refine Exists.intro (nI (p + 1)) (And.intro (nI_add _ _) ?_)
          first | exact st σ1 σ2 _ (by unfold q_pt; rw [if_pos h58]) (hf.tr (fσ1.mn rfl)) (hX.fr fσ1 rfl) (fun i hi => (fσ1.i _ _ rfl).trans (ht i hi)) (fun i hi => (fσ1.i _ _ rfl).trans (hj i hi)) eσ2 | exact st σ σ1 _ (by unfold q_pt; rw [if_neg (by rw [h58]; decide)]) hf hX ht hj eσ1
    · obtain rfl : p = s_n S 1 := by omega
      refine qy_wp_ok (c := CX12_findsCore) (cuts := [38, 78]) vX12_findsCore wX12_findsCore 2000 38 _ _ _ ?_
      refine And.intro rfl (Exists.intro 207 (And.intro rfl ?_))
      refine Exists.intro (nI 1) (And.intro rfl ?_)
      refine Exists.intro (1) (Exists.intro (nI (s_n S 1)) (And.intro rfl (And.intro ⟨2788, rfl, by decide, by decide⟩ (And.intro ((congrFun hX.1 1).trans g.2.1.1) ?_))))
      refine And.intro (fun h45 => ?_) (fun h45 => ?_)
      · skip
        have h45 := nI_leT (a := s_n S 1) (b := s_n S 1) (by omega) (by omega) h45
        refine qx_K_le (ls := [.ref 197, .int (nI left), .retAddr 0, .retAddr 0]) ⟨Or.inr rfl, Or.inr rfl, Or.inl rfl, Or.inr rfl, trivial⟩ ?_
        exact hcont _ hf hX ht hj
      · skip
        have h45 := nI_leF (a := s_n S 1) (b := s_n S 1) (by omega) (by omega) h45
        exact absurd h45 (by omega)
theorem l_cr2 {G : qx_G} {σ0 : qx_S} {S : qS} {rf : Option qR} {ly : Option (Nat × Nat)} (g : gS S) {left : Nat} (hl : left < 2 ^ s_n S 1) {t : Nat → Nat} {Φ : qx_F} : ∀ (m p : Nat) (σ : qx_S), m = s_n S 1 - p → p ≤ s_n S 1 → ql lCo σ0 σ → mX σ S rf ly → (∀ i, i < 10 → qx_mi σ 217 i = nI (if i < p ∧ q_gone S rf ly left i = true then q_pt S rf ly left i else t i)) → (∀ i, i < s_n S 1 → qx_mi σ 218 i = nI (q_pt S rf ly left i)) →
    (∀ s, ql lCo σ0 s → mX s S rf ly → (∀ i, i < 10 → qx_mi s 217 i = nI (if i < s_n S 1 ∧ q_gone S rf ly left i = true then q_pt S rf ly left i else t i)) → qx_K G qc_T 5 RX12 YX12_findsCore 135 [.ref 197, .int (nI left), .int (nI (q_set (q_gone S rf ly left) (s_n S 1))), .retAddr 0] [] s Φ) →
    qx_K G qc_T 5 RX12 YX12_findsCore 82 [.ref 197, .int (nI left), .int (nI (q_set (q_gone S rf ly left) p)), .int (nI p)] [] σ Φ := by
  have h10 := g.2.1.2
  have h1024 : 2 ^ s_n S 1 ≤ 1024 := Nat.pow_le_pow_right (by decide) h10
  intro m
  induction m using Nat.strongRecOn with
  | _ m ih =>
    intro p σ hm hp hf hX ht hj hcont
    rcases Nat.lt_or_ge p (s_n S 1) with hlt | hge
    · have u1 : q_gone S rf ly left p = true → q_set (q_gone S rf ly left) (p + 1) = q_set (q_gone S rf ly left) p ||| 2 ^ p := fun z => if_pos z
      have u2 : q_gone S rf ly left p = false → q_set (q_gone S rf ly left) (p + 1) = q_set (q_gone S rf ly left) p := fun z => if_neg (by rw [z]; decide)
      have no : q_gone S rf ly left p = false → qx_K G qc_T 5 RX12 YX12_findsCore 82 [.ref 197, .int (nI left), .int (nI (q_set (q_gone S rf ly left) p)), .int (nI (p + 1))] [] σ Φ := by
        intro z
        rw [← u2 z]
        refine ih _ (by omega) (p + 1) σ rfl (by omega) hf hX (fun i hi => ?_) hj hcont
        rw [ht i hi]
        congr 1
        by_cases e : i = p
        · subst e
          rw [if_neg (fun w => absurd w.1 (by omega)), if_neg (fun w => absurd (z.symm.trans w.2) (by decide))]
        · by_cases e2 : i < p ∧ q_gone S rf ly left i = true
          · rw [if_pos e2, if_pos ⟨by omega, e2.2⟩]
          · rw [if_neg e2, if_neg (fun w => e2 ⟨by omega, w.2⟩)]
      refine qy_wp_ok (c := CX12_findsCore) (cuts := [82, 135]) vX12_findsCore wX12_findsCore 2000 82 _ _ _ ?_
      refine And.intro rfl (Exists.intro 207 (And.intro rfl ?_))
      refine Exists.intro (nI 1) (And.intro rfl ?_)
      refine Exists.intro (1) (Exists.intro (nI (s_n S 1)) (And.intro rfl (And.intro ⟨2788, rfl, by decide, by decide⟩ (And.intro ((congrFun hX.1 1).trans g.2.1.1) ?_))))
      refine And.intro (fun h89 => ?_) (fun h89 => ?_)
      · skip
        have h89 := nI_leT (a := s_n S 1) (b := p) (by omega) (by omega) h89
        exact absurd h89 (by omega)
      · skip
        have h89 := nI_leF (a := s_n S 1) (b := p) (by omega) (by omega) h89
        refine Exists.intro _ (And.intro (by decide) (qx_M_mono (m_isOf (s := left) (k := p) (by omega) (by omega)) ?_))
        rintro _ _ ⟨rfl, rfl⟩
        refine And.intro (fun h97 => ?_) (fun h97 => ?_)
        · skip
          have h97 := bI_f h97
          refine Exists.intro (nI (p + 1)) (And.intro (nI_add _ _) ?_)
          first | exact no (by unfold q_gone; rw [h97]; rfl) | exact no (by unfold q_gone; rw [h105, Bool.and_false]) | (have hg : q_gone S rf ly left p = true := (by unfold q_gone; rw [h97, h105]; rfl); rw [← u1 hg]; refine ih _ (by omega) (p + 1) _ rfl (by omega) hf hX (fun i hi => ?_) (fun i hi => (fσ1.i _ _ rfl).trans (hj i hi)) hcont; by_cases e : i = p; (subst e; rw [if_pos ⟨by omega, hg⟩]; exact qn_eq eσ1); rw [show qx_mi σ1 217 i = _ from (qn_ne eσ1 (Or.inr e)).trans (ht i hi)]; congr 1; by_cases e2 : i < p ∧ q_gone S rf ly left i = true; (rw [if_pos e2, if_pos ⟨by omega, e2.2⟩]); (rw [if_neg e2, if_neg (fun w => e2 ⟨by omega, w.2⟩)]))
        · skip
          have h97 := bI_t h97
          refine And.intro rfl (Exists.intro _ (And.intro (by decide) (qx_M_mono (m_comesBack ((congrFun hX.1 1).trans g.2.1.1) h10 (fun i hi => ⟨hj i hi, q_pt_lt hl hi⟩) hlt) ?_)))
          rintro _ _ ⟨rfl, rfl⟩
          refine And.intro (fun h105 => ?_) (fun h105 => ?_)
          · skip
            have h105 := bI_t h105
            refine And.intro rfl (Exists.intro 217 (And.intro rfl ?_))
            refine And.intro rfl (Exists.intro 218 (And.intro rfl ?_))
            refine Exists.intro (p) (Exists.intro (nI (q_pt S rf ly left p)) (And.intro rfl (And.intro ⟨10, rfl, by omega, by decide⟩ (And.intro (hj p hlt) ?_))))
            obtain ⟨σ1, eσ1⟩ : ∃ zs, zs = (qx_wi σ 217 p (nI (q_pt S rf ly left p))) := ⟨_, rfl⟩
            have fσ1 := qn_wi eσ1
            refine Exists.intro (p) (Exists.intro σ1 (And.intro rfl (And.intro ⟨10, rfl, by omega, by decide⟩ (And.intro eσ1.symm ?_))))
            have hf_σ1 : ql lCo σ0 σ1 := hf.tr (fσ1.mn rfl)
            have hX_σ1 : mX σ1 S rf ly := hX.fr fσ1 rfl
            refine Exists.intro (nI 1) (And.intro rfl ?_)
            refine Exists.intro (nI (2 ^ p)) (And.intro (nI_sh1 (by omega)) ?_)
            refine Exists.intro (nI ((q_set (q_gone S rf ly left) p) ||| (2 ^ p))) (And.intro (nI_or _ _) ?_)
            refine Exists.intro (nI (p + 1)) (And.intro (nI_add _ _) ?_)
            first | exact no (by unfold q_gone; rw [h97]; rfl) | exact no (by unfold q_gone; rw [h105, Bool.and_false]) | (have hg : q_gone S rf ly left p = true := (by unfold q_gone; rw [h97, h105]; rfl); rw [← u1 hg]; refine ih _ (by omega) (p + 1) _ rfl (by omega) hf_σ1 hX_σ1 (fun i hi => ?_) (fun i hi => (fσ1.i _ _ rfl).trans (hj i hi)) hcont; by_cases e : i = p; (subst e; rw [if_pos ⟨by omega, hg⟩]; exact qn_eq eσ1); rw [show qx_mi σ1 217 i = _ from (qn_ne eσ1 (Or.inr e)).trans (ht i hi)]; congr 1; by_cases e2 : i < p ∧ q_gone S rf ly left i = true; (rw [if_pos e2, if_pos ⟨by omega, e2.2⟩]); (rw [if_neg e2, if_neg (fun w => e2 ⟨by omega, w.2⟩)]))
          · skip
            have h105 := bI_f h105
            refine Exists.intro (nI (p + 1)) (And.intro (nI_add _ _) ?_)
            first | exact no (by unfold q_gone; rw [h97]; rfl) | exact no (by unfold q_gone; rw [h105, Bool.and_false]) | (have hg : q_gone S rf ly left p = true := (by unfold q_gone; rw [h97, h105]; rfl); rw [← u1 hg]; refine ih _ (by omega) (p + 1) _ rfl (by omega) hf hX (fun i hi => ?_) (fun i hi => (fσ1.i _ _ rfl).trans (hj i hi)) hcont; by_cases e : i = p; (subst e; rw [if_pos ⟨by omega, hg⟩]; exact qn_eq eσ1); rw [show qx_mi σ1 217 i = _ from (qn_ne eσ1 (Or.inr e)).trans (ht i hi)]; congr 1; by_cases e2 : i < p ∧ q_gone S rf ly left i = true; (rw [if_pos e2, if_pos ⟨by omega, e2.2⟩]); (rw [if_neg e2, if_neg (fun w => e2 ⟨by omega, w.2⟩)]))
    · obtain rfl : p = s_n S 1 := by omega
      refine qy_wp_ok (c := CX12_findsCore) (cuts := [82, 135]) vX12_findsCore wX12_findsCore 2000 82 _ _ _ ?_
      refine And.intro rfl (Exists.intro 207 (And.intro rfl ?_))
      refine Exists.intro (nI 1) (And.intro rfl ?_)
      refine Exists.intro (1) (Exists.intro (nI (s_n S 1)) (And.intro rfl (And.intro ⟨2788, rfl, by decide, by decide⟩ (And.intro ((congrFun hX.1 1).trans g.2.1.1) ?_))))
      refine And.intro (fun h89 => ?_) (fun h89 => ?_)
      · skip
        have h89 := nI_leT (a := s_n S 1) (b := s_n S 1) (by omega) (by omega) h89
        refine qx_K_le (ls := [.ref 197, .int (nI left), .int (nI (q_set (q_gone S rf ly left) (s_n S 1))), .retAddr 0]) ⟨Or.inr rfl, Or.inr rfl, Or.inr rfl, Or.inl rfl, trivial⟩ ?_
        exact hcont _ hf hX ht
      · skip
        have h89 := nI_leF (a := s_n S 1) (b := s_n S 1) (by omega) (by omega) h89
        exact absurd h89 (by omega)
theorem l_cr {G : qx_G} {σ0 : qx_S} {S : qS} {rf : Option qR} {ly : Option (Nat × Nat)} (g : gS S) : ∀ (m left : Nat) (σ : qx_S) (t : Nat → Nat), m = left → left < 2 ^ s_n S 1 → ql lCo σ0 σ → mX σ S rf ly → (∀ i, i < 10 → qx_mi σ 217 i = nI (t i)) →
    qx_K G qc_T 5 RX12 YX12_findsCore 32 [.ref 197, .int (nI left), .retAddr 0, .retAddr 0] [] σ (fun r s => r = none ∧ ql lCo σ0 s ∧ mX s S rf ly ∧ ∀ i, i < 10 → qx_mi s 217 i = nI (q_cr S rf ly left left t i)) := by
  have h10 := g.2.1.2
  have h1024 : 2 ^ s_n S 1 ≤ 1024 := Nat.pow_le_pow_right (by decide) h10
  intro m
  induction m using Nat.strongRecOn with
  | _ m ih =>
    intro left σ t hm hl hf hX ht
    rcases Nat.eq_zero_or_pos left with h0 | h0
    · subst h0
      refine qy_wp_ok (c := CX12_findsCore) (cuts := [32]) vX12_findsCore wX12_findsCore 2000 32 _ _ _ ?_
      refine And.intro (fun h33 => ?_) (fun h33 => ?_)
      · skip
        exact ⟨rfl, hf, hX, ht⟩
      · skip
        exact absurd (by decide) h33
    · have hd := q_gone_dec (rf := rf) (ly := ly) h0 hl
      have e1 : q_cr S rf ly left left t = q_cr S rf ly (left - 1) (q_wo left (q_set (q_gone S rf ly left) (s_n S 1))) (fun i => if i < s_n S 1 ∧ q_gone S rf ly left i = true then q_pt S rf ly left i else t i) := by
        have key : ∀ f, q_cr S rf ly (f + 1) left t = if left = 0 then t else q_cr S rf ly f (q_wo left (q_set (q_gone S rf ly left) (s_n S 1))) (fun i => if i < s_n S 1 ∧ q_gone S rf ly left i = true then q_pt S rf ly left i else t i) := fun f => rfl
        have k1 := key (left - 1)
        rw [Nat.sub_add_cancel h0, if_neg (by omega)] at k1
        exact k1
      rw [e1, q_cr_f S rf ly (left - 1) _ _ _ (by omega) (Nat.le_refl _) (by omega)]
      refine qy_wp_ok (c := CX12_findsCore) (cuts := [38]) vX12_findsCore wX12_findsCore 2000 32 _ _ _ ?_
      refine And.intro (fun h33 => ?_) (fun h33 => ?_)
      · skip
        have h33 := nI_eqT (a := left) (b := 0) (by omega) (by decide) h33
        exact absurd h33 (by omega)
      · skip
        have h33 := nI_neT (a := left) (b := 0) (by omega) (by decide) h33
        refine Exists.intro (nI 0) (And.intro rfl ?_)
        refine l_cr1 g (by omega) _ 0 σ rfl (by omega) hf hX ht (fun i hi => absurd hi (by omega)) (fun s y1 y2 y3 y4 => ?_)
        refine qy_wp_ok (c := CX12_findsCore) (cuts := [82]) vX12_findsCore wX12_findsCore 2000 78 _ _ _ ?_
        refine Exists.intro (nI 0) (And.intro rfl ?_)
        refine Exists.intro (nI 0) (And.intro rfl ?_)
        refine l_cr2 (t := t) g hl _ 0 s rfl (by omega) y1 y2 (fun i hi => by rw [if_neg (fun w => absurd w.1 (by omega))]; exact y3 i hi) y4 (fun s2 z1 z2 z3 => ?_)
        refine qy_wp_ok (c := CX12_findsCore) (cuts := [32]) vX12_findsCore wX12_findsCore 2000 135 _ _ _ ?_
        refine Exists.intro (-1) (And.intro (by decide) ?_)
        refine Exists.intro _ (And.intro rfl ?_)
        refine Exists.intro (nI (q_wo left (q_set (q_gone S rf ly left) (s_n S 1)))) (And.intro (nI_andn _ _ (by omega)) ?_)
        refine qx_K_le (ls := [.ref 197, .int (nI (q_wo left (q_set (q_gone S rf ly left) (s_n S 1)))), .retAddr 0, .retAddr 0]) ⟨Or.inr rfl, Or.inr rfl, Or.inl rfl, Or.inr rfl, trivial⟩ ?_
        exact ih _ (by omega) _ s2 _ rfl (by omega) z1 z2 z3
/-- whose place each takes by the core -/
abbrev q_ct (S : qS) (rf : Option qR) (ly : Option (Nat × Nat)) : Nat → Nat := q_cr S rf ly (2 ^ s_n S 1 - 1) (2 ^ s_n S 1 - 1) (fun i => i)
theorem m_findsCore {G : qx_G} {σ : qx_S} {S : qS} {rf : Option qR} {ly : Option (Nat × Nat)} (hX : mX σ S rf ly) (g : gS S) : qx_M G qc_T 5 YX12_findsCore [.ref 197] σ (fun r s => r = none ∧ ql lCo σ s ∧ mX s S rf ly ∧ ∀ i, i < 10 → qx_mi s 217 i = nI (q_ct S rf ly i)) := by
  have h10 := g.2.1.2
  have h1024 : 2 ^ s_n S 1 ≤ 1024 := Nat.pow_le_pow_right (by decide) h10
  have hpos : 1 ≤ 2 ^ s_n S 1 := Nat.one_le_two_pow
  have hf : ql lCo σ σ := qf.rf
  refine qx_M_in rfl (Nat.le_of_ble_eq_true rfl) ?_
  refine qy_wp_ok (c := CX12_findsCore) (cuts := [13]) vX12_findsCore wX12_findsCore 2000 0 _ _ _ ?_
  refine Exists.intro (nI 1) (And.intro rfl ?_)
  refine And.intro rfl (Exists.intro 207 (And.intro rfl ?_))
  refine Exists.intro (nI 1) (And.intro rfl ?_)
  refine Exists.intro (1) (Exists.intro (nI (s_n S 1)) (And.intro rfl (And.intro ⟨2788, rfl, by decide, by decide⟩ (And.intro ((congrFun hX.1 1).trans g.2.1.1) ?_))))
  refine Exists.intro (nI (2 ^ (s_n S 1))) (And.intro (nI_sh1 (by omega)) ?_)
  refine Exists.intro (nI 1) (And.intro rfl ?_)
  refine Exists.intro (nI ((2 ^ (s_n S 1)) - 1)) (And.intro (nI_sub (by omega)) ?_)
  refine Exists.intro (nI 0) (And.intro rfl ?_)
  exact l_cr0 _ 0 σ rfl (by omega) qf.rf (fun i hi => absurd hi (by omega)) (fun s y1 y2 => l_cr g _ _ s (fun i => i) rfl (by omega) y1 (hX.fr y1 rfl) y2)
theorem m_core_no {G : qx_G} {σ : qx_S} {S : qS} (hS : qx_mi σ 207 = S) {pe : Nat} (e1 : S 1 = nI pe) {x : Int32} (hb : q_is x pe = false) : qx_M G qc_T 6 YX12_core [.ref 197, .int x] σ (qr (-1) σ) := by
  refine qx_M_in rfl (Nat.le_of_ble_eq_true rfl) ?_
  refine qy_wp_ok (c := CX12_core) (cuts := []) vX12_core wX12_core 2000 0 _ _ _ ?_
  refine And.intro rfl (Exists.intro _ (And.intro (by decide) (qx_M_mono (m_isPerson hS e1 x) ?_)))
  rintro _ _ ⟨rfl, rfl⟩
  refine And.intro (fun h5 => ?_) (fun h5 => ?_)
  · skip
    have h5 := bI_t h5
    exact absurd (h5.symm.trans (hb)) (by decide)
  · skip
    have h5 := bI_f h5
    refine Exists.intro ((-1)) (And.intro (by decide) ?_)
    exact ⟨rfl, rfl⟩
theorem m_core_ok {G : qx_G} {σ : qx_S} {S : qS} {rf : Option qR} (hX : mX σ S rf none) (g : gS S) {p : Nat} (hp : p < s_n S 1) : qx_M G qc_T 6 YX12_core [.ref 197, .int (nI p)] σ (fun r s => r = some (.int (nI (q_ct S rf none p))) ∧ ql lCo σ s) := by
  have hS := hX.1
  have h10 := g.2.1.2
  have hf : ql lCo σ σ := qf.rf
  refine qx_M_in rfl (Nat.le_of_ble_eq_true rfl) ?_
  refine qy_wp_ok (c := CX12_core) (cuts := []) vX12_core wX12_core 2000 0 _ _ _ ?_
  refine And.intro rfl (Exists.intro _ (And.intro (by decide) (qx_M_mono (m_isPerson hS g.2.1.1 (nI p)) ?_)))
  rintro _ _ ⟨rfl, rfl⟩
  refine And.intro (fun h5 => ?_) (fun h5 => ?_)
  · skip
    have h5 := bI_t h5
    refine And.intro rfl (Exists.intro _ (And.intro (by decide) (qx_M_mono (m_findsCore hX g) ?_)))
    rintro _ σ1 ⟨rfl, fσ1, aσ1, cσ1⟩
    have hf_σ1 : ql lCo σ σ1 := hf.tr (fσ1.mn rfl)
    have hX_σ1 : mX σ1 S rf none := hX.fr fσ1 rfl
    refine And.intro rfl (Exists.intro 217 (And.intro rfl ?_))
    refine Exists.intro (p) (Exists.intro (nI (q_ct S rf none p)) (And.intro rfl (And.intro ⟨10, rfl, by omega, by decide⟩ (And.intro (cσ1 p (by omega)) ?_))))
    exact ⟨rfl, hf_σ1⟩
  · skip
    have h5 := bI_f h5
    exact absurd (h5.symm.trans (q_is_ok hp (by omega))) (by decide)

