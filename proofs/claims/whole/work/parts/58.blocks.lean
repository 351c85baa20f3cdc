/-! THE REFERENCE: BLOCKS, LIES -/
theorem m_comesTo {G : qx_G} {σ : qx_S} {S : qS} (hS : qx_mi σ 207 = S) (g : gS S) {p t : Nat} (hp : p < 10) (ht : qx_mi σ 217 p = nI t) (htp : t < s_n S 1) : qx_M G qc_T 1 YX12_comesTo [.ref 197, .int (nI p)] σ (qr (nI (s_at S t)) σ) := by
  have h10 := g.2.1.2
  refine qx_M_in rfl (Nat.le_of_ble_eq_true rfl) ?_
  refine qy_wp_ok (c := CX12_comesTo) (cuts := []) vX12_comesTo wX12_comesTo 2000 0 _ _ _ ?_
  refine And.intro rfl (Exists.intro 217 (And.intro rfl ?_))
  refine Exists.intro (p) (Exists.intro (nI t) (And.intro rfl (And.intro ⟨10, rfl, by omega, by decide⟩ (And.intro ht ?_))))
  refine And.intro rfl (Exists.intro _ (And.intro (by decide) (qx_M_mono (m_at (p := t) (by omega) ((congrFun hS _).trans (g.2.2 t (by omega)).1)) ?_)))
  rintro _ _ ⟨rfl, rfl⟩
  exact ⟨rfl, rfl⟩
theorem l_bl2 {G : qx_G} {σ0 : qx_S} {S : qS} {rf : Option qR} (g : gS S) {tk : Nat → Nat} (hlt : ∀ i, i < s_n S 1 → tk i < s_n S 1) {a : Nat} (ha : a < s_n S 1) {Φ : qx_F} : ∀ (m b n : Nat) (σ : qx_S), m = s_n S 1 - b → b ≤ s_n S 1 → ql lE σ0 σ → mX σ S rf none → (∀ i, i < s_n S 1 → qx_mi σ 217 i = nI (tk i)) →
    (∀ s, ql lE σ0 s → mX s S rf none → (∀ i, i < s_n S 1 → qx_mi s 217 i = nI (tk i)) → qx_K G qc_T 7 RX12 YX12_blocks 141 [.ref 197, .retAddr 0, .int (nI (q_b1 (q_bf S rf tk) a (s_n S 1 - b) b n)), .int (nI a), .retAddr 0] [] s Φ) →
    qx_K G qc_T 7 RX12 YX12_blocks 66 [.ref 197, .retAddr 0, .int (nI n), .int (nI a), .int (nI b)] [] σ Φ := by
  have h10 := g.2.1.2
  have h8 := g.1.2
  have hA : ∀ i, i < s_n S 1 → s_at S (tk i) < 8 := fun i hi => Nat.lt_of_lt_of_le (g.2.2 _ (hlt i hi)).2 h8
  intro m
  induction m using Nat.strongRecOn with
  | _ m ih =>
    intro b n σ hm hb hf hX ht hcont
    rcases Nat.lt_or_ge b (s_n S 1) with hlt2 | hge
    · have e1 : s_n S 1 - b = (s_n S 1 - (b + 1)) + 1 := by omega
      rw [e1] at hcont
      have la := hA a ha
      have lb := hA b hlt2
      have u1 : q_bf S rf tk a b = true → q_b1 (q_bf S rf tk) a (s_n S 1 - (b + 1) + 1) b n = q_b1 (q_bf S rf tk) a (s_n S 1 - (b + 1)) (b + 1) (n + 1) := fun z => by show q_b1 _ _ _ _ (if _ then _ else _) = _; rw [if_pos z]
      have u2 : q_bf S rf tk a b = false → q_b1 (q_bf S rf tk) a (s_n S 1 - (b + 1) + 1) b n = q_b1 (q_bf S rf tk) a (s_n S 1 - (b + 1)) (b + 1) (n + 0) := fun z => by show q_b1 _ _ _ _ (if _ then _ else _) = _; rw [if_neg (by rw [z]; decide)]; rfl
      refine qy_wp_ok (c := CX12_blocks) (cuts := [66, 141]) vX12_blocks wX12_blocks 2000 66 _ _ _ ?_
      refine And.intro rfl (Exists.intro 207 (And.intro rfl ?_))
      refine Exists.intro (nI 1) (And.intro rfl ?_)
      refine Exists.intro (1) (Exists.intro (nI (s_n S 1)) (And.intro rfl (And.intro ⟨2788, rfl, by decide, by decide⟩ (And.intro ((congrFun hX.1 1).trans g.2.1.1) ?_))))
      refine And.intro (fun h74 => ?_) (fun h74 => ?_)
      · skip
        have h74 := nI_leT (a := s_n S 1) (b := b) (by omega) (by omega) h74
        exact absurd h74 (by omega)
      · skip
        have h74 := nI_leF (a := s_n S 1) (b := b) (by omega) (by omega) h74
        refine And.intro rfl (Exists.intro _ (And.intro (by decide) (qx_M_mono (m_comesTo hX.1 g (by omega) (ht b (by omega)) (hlt b (by omega))) ?_)))
        rintro _ _ ⟨rfl, rfl⟩
        refine And.intro rfl (Exists.intro _ (And.intro (by decide) (qx_M_mono (m_likes (p := a) (a := s_at S a) (q := (s_at S (tk b))) hX (by omega) (by omega) (g.2.2 a (by omega)).1) ?_)))
        rintro _ σ1 ⟨rfl, fσ1⟩
        have hf_σ1 : ql lE σ0 σ1 := hf.tr fσ1
        have hX_σ1 : mX σ1 S rf none := hX.fr fσ1 rfl
        have ht_σ1 : ∀ i, i < s_n S 1 → qx_mi σ1 217 i = nI (tk i) := (fun i hi => (fσ1.i _ _ rfl).trans (ht i hi))
        refine And.intro rfl (Exists.intro _ (And.intro (by decide) (qx_M_mono (m_comesTo hX_σ1.1 g (by omega) (ht_σ1 a (by omega)) (hlt a (by omega))) ?_)))
        rintro _ _ ⟨rfl, rfl⟩
        refine And.intro rfl (Exists.intro _ (And.intro (by decide) (qx_M_mono (m_likes (p := a) (a := s_at S a) (q := (s_at S (tk a))) hX_σ1 (by omega) (by omega) (g.2.2 a (by omega)).1) ?_)))
        rintro _ σ2 ⟨rfl, fσ2⟩
        have hf_σ2 : ql lE σ0 σ2 := hf_σ1.tr fσ2
        have hX_σ2 : mX σ2 S rf none := hX_σ1.fr fσ2 rfl
        have ht_σ2 : ∀ i, i < s_n S 1 → qx_mi σ2 217 i = nI (tk i) := (fun i hi => (fσ2.i _ _ rfl).trans (ht_σ1 i hi))
        refine And.intro (fun h99 => ?_) (fun h99 => ?_)
        · skip
          refine Exists.intro (nI 0) (And.intro rfl ?_)
          refine Exists.intro (nI (n + 0)) (And.intro (nI_add _ _) ?_)
          refine Exists.intro (nI (b + 1)) (And.intro (nI_add _ _) ?_)
          first | (rw [u1 (by unfold q_bf; rw [decide_eq_true (show q_lk S rf a (s_at S a) (s_at S (tk a)) < q_lk S rf a (s_at S a) (s_at S (tk b)) from Int32.not_le.mp h99), decide_eq_true (show q_lk S rf b (s_at S b) (s_at S (tk b)) < q_lk S rf b (s_at S b) (s_at S (tk a)) from Int32.not_le.mp h125)]; rfl)] at hcont; exact ih _ (by omega) (b + 1) (n + 1) _ rfl (by omega) hf_σ2 hX_σ2 ht_σ2 hcont) | (rw [u2 (by unfold q_bf; rw [decide_eq_false (show ¬ q_lk S rf a (s_at S a) (s_at S (tk a)) < q_lk S rf a (s_at S a) (s_at S (tk b)) from Int32.not_lt.mpr h99)]; rfl)] at hcont; exact ih _ (by omega) (b + 1) (n + 0) _ rfl (by omega) hf_σ2 hX_σ2 ht_σ2 hcont) | (rw [u2 (by unfold q_bf; rw [decide_eq_false (show ¬ q_lk S rf b (s_at S b) (s_at S (tk b)) < q_lk S rf b (s_at S b) (s_at S (tk a)) from Int32.not_lt.mpr h125), Bool.and_false])] at hcont; exact ih _ (by omega) (b + 1) (n + 0) _ rfl (by omega) hf_σ2 hX_σ2 ht_σ2 hcont)
        · skip
          refine And.intro rfl (Exists.intro _ (And.intro (by decide) (qx_M_mono (m_comesTo hX_σ2.1 g (by omega) (ht_σ2 a (by omega)) (hlt a (by omega))) ?_)))
          rintro _ _ ⟨rfl, rfl⟩
          refine And.intro rfl (Exists.intro _ (And.intro (by decide) (qx_M_mono (m_likes (p := b) (a := s_at S b) (q := (s_at S (tk a))) hX_σ2 (by omega) (by omega) (g.2.2 b (by omega)).1) ?_)))
          rintro _ σ3 ⟨rfl, fσ3⟩
          have hf_σ3 : ql lE σ0 σ3 := hf_σ2.tr fσ3
          have hX_σ3 : mX σ3 S rf none := hX_σ2.fr fσ3 rfl
          have ht_σ3 : ∀ i, i < s_n S 1 → qx_mi σ3 217 i = nI (tk i) := (fun i hi => (fσ3.i _ _ rfl).trans (ht_σ2 i hi))
          refine And.intro rfl (Exists.intro _ (And.intro (by decide) (qx_M_mono (m_comesTo hX_σ3.1 g (by omega) (ht_σ3 b (by omega)) (hlt b (by omega))) ?_)))
          rintro _ _ ⟨rfl, rfl⟩
          refine And.intro rfl (Exists.intro _ (And.intro (by decide) (qx_M_mono (m_likes (p := b) (a := s_at S b) (q := (s_at S (tk b))) hX_σ3 (by omega) (by omega) (g.2.2 b (by omega)).1) ?_)))
          rintro _ σ4 ⟨rfl, fσ4⟩
          have hf_σ4 : ql lE σ0 σ4 := hf_σ3.tr fσ4
          have hX_σ4 : mX σ4 S rf none := hX_σ3.fr fσ4 rfl
          have ht_σ4 : ∀ i, i < s_n S 1 → qx_mi σ4 217 i = nI (tk i) := (fun i hi => (fσ4.i _ _ rfl).trans (ht_σ3 i hi))
          refine And.intro (fun h125 => ?_) (fun h125 => ?_)
          · skip
            refine Exists.intro (nI 0) (And.intro rfl ?_)
            refine Exists.intro (nI (n + 0)) (And.intro (nI_add _ _) ?_)
            refine Exists.intro (nI (b + 1)) (And.intro (nI_add _ _) ?_)
            first | (rw [u1 (by unfold q_bf; rw [decide_eq_true (show q_lk S rf a (s_at S a) (s_at S (tk a)) < q_lk S rf a (s_at S a) (s_at S (tk b)) from Int32.not_le.mp h99), decide_eq_true (show q_lk S rf b (s_at S b) (s_at S (tk b)) < q_lk S rf b (s_at S b) (s_at S (tk a)) from Int32.not_le.mp h125)]; rfl)] at hcont; exact ih _ (by omega) (b + 1) (n + 1) _ rfl (by omega) hf_σ4 hX_σ4 ht_σ4 hcont) | (rw [u2 (by unfold q_bf; rw [decide_eq_false (show ¬ q_lk S rf a (s_at S a) (s_at S (tk a)) < q_lk S rf a (s_at S a) (s_at S (tk b)) from Int32.not_lt.mpr h99)]; rfl)] at hcont; exact ih _ (by omega) (b + 1) (n + 0) _ rfl (by omega) hf_σ4 hX_σ4 ht_σ4 hcont) | (rw [u2 (by unfold q_bf; rw [decide_eq_false (show ¬ q_lk S rf b (s_at S b) (s_at S (tk b)) < q_lk S rf b (s_at S b) (s_at S (tk a)) from Int32.not_lt.mpr h125), Bool.and_false])] at hcont; exact ih _ (by omega) (b + 1) (n + 0) _ rfl (by omega) hf_σ4 hX_σ4 ht_σ4 hcont)
          · skip
            refine Exists.intro (nI 1) (And.intro rfl ?_)
            refine Exists.intro (nI (n + 1)) (And.intro (nI_add _ _) ?_)
            refine Exists.intro (nI (b + 1)) (And.intro (nI_add _ _) ?_)
            first | (rw [u1 (by unfold q_bf; rw [decide_eq_true (show q_lk S rf a (s_at S a) (s_at S (tk a)) < q_lk S rf a (s_at S a) (s_at S (tk b)) from Int32.not_le.mp h99), decide_eq_true (show q_lk S rf b (s_at S b) (s_at S (tk b)) < q_lk S rf b (s_at S b) (s_at S (tk a)) from Int32.not_le.mp h125)]; rfl)] at hcont; exact ih _ (by omega) (b + 1) (n + 1) _ rfl (by omega) hf_σ4 hX_σ4 ht_σ4 hcont) | (rw [u2 (by unfold q_bf; rw [decide_eq_false (show ¬ q_lk S rf a (s_at S a) (s_at S (tk a)) < q_lk S rf a (s_at S a) (s_at S (tk b)) from Int32.not_lt.mpr h99)]; rfl)] at hcont; exact ih _ (by omega) (b + 1) (n + 0) _ rfl (by omega) hf_σ4 hX_σ4 ht_σ4 hcont) | (rw [u2 (by unfold q_bf; rw [decide_eq_false (show ¬ q_lk S rf b (s_at S b) (s_at S (tk b)) < q_lk S rf b (s_at S b) (s_at S (tk a)) from Int32.not_lt.mpr h125), Bool.and_false])] at hcont; exact ih _ (by omega) (b + 1) (n + 0) _ rfl (by omega) hf_σ4 hX_σ4 ht_σ4 hcont)
    · obtain rfl : b = s_n S 1 := by omega
      rw [Nat.sub_self] at hcont
      refine qy_wp_ok (c := CX12_blocks) (cuts := [66, 141]) vX12_blocks wX12_blocks 2000 66 _ _ _ ?_
      refine And.intro rfl (Exists.intro 207 (And.intro rfl ?_))
      refine Exists.intro (nI 1) (And.intro rfl ?_)
      refine Exists.intro (1) (Exists.intro (nI (s_n S 1)) (And.intro rfl (And.intro ⟨2788, rfl, by decide, by decide⟩ (And.intro ((congrFun hX.1 1).trans g.2.1.1) ?_))))
      refine And.intro (fun h74 => ?_) (fun h74 => ?_)
      · skip
        have h74 := nI_leT (a := s_n S 1) (b := s_n S 1) (by omega) (by omega) h74
        refine qx_K_le (ls := [.ref 197, .retAddr 0, .int (nI n), .int (nI a), .retAddr 0]) ⟨Or.inr rfl, Or.inr rfl, Or.inr rfl, Or.inr rfl, Or.inl rfl, trivial⟩ ?_
        exact hcont _ hf hX ht
      · skip
        have h74 := nI_leF (a := s_n S 1) (b := s_n S 1) (by omega) (by omega) h74
        exact absurd h74 (by omega)
theorem l_bl1 {G : qx_G} {σ0 : qx_S} {S : qS} {rf : Option qR} (g : gS S) {tk : Nat → Nat} (hlt : ∀ i, i < s_n S 1 → tk i < s_n S 1) : ∀ (m a n : Nat) (σ : qx_S), m = s_n S 1 - a → a ≤ s_n S 1 → ql lE σ0 σ → mX σ S rf none → (∀ i, i < s_n S 1 → qx_mi σ 217 i = nI (tk i)) →
    qx_K G qc_T 7 RX12 YX12_blocks 51 [.ref 197, .retAddr 0, .int (nI n), .int (nI a), .retAddr 0] [] σ (fun r s => r = some (.int (nI (q_b2 (q_bf S rf tk) (s_n S 1) (s_n S 1 - a) a n))) ∧ ql lE σ0 s) := by
  have h10 := g.2.1.2
  intro m
  induction m using Nat.strongRecOn with
  | _ m ih =>
    intro a n σ hm ha hf hX ht
    rcases Nat.lt_or_ge a (s_n S 1) with hl | hge
    · have e1 : s_n S 1 - a = (s_n S 1 - (a + 1)) + 1 := by omega
      rw [e1]
      show qx_K _ _ _ _ _ _ _ _ _ (fun r s => r = some (.int (nI (q_b2 (q_bf S rf tk) (s_n S 1) (s_n S 1 - (a + 1)) (a + 1) (q_b1 (q_bf S rf tk) a (s_n S 1 - (a + 1)) (a + 1) n)))) ∧ ql lE σ0 s)
      refine qy_wp_ok (c := CX12_blocks) (cuts := [51, 66]) vX12_blocks wX12_blocks 2000 51 _ _ _ ?_
      refine And.intro rfl (Exists.intro 207 (And.intro rfl ?_))
      refine Exists.intro (nI 1) (And.intro rfl ?_)
      refine Exists.intro (1) (Exists.intro (nI (s_n S 1)) (And.intro rfl (And.intro ⟨2788, rfl, by decide, by decide⟩ (And.intro ((congrFun hX.1 1).trans g.2.1.1) ?_))))
      refine And.intro (fun h58 => ?_) (fun h58 => ?_)
      · skip
        have h58 := nI_leT (a := s_n S 1) (b := a) (by omega) (by omega) h58
        exact absurd h58 (by omega)
      · skip
        have h58 := nI_leF (a := s_n S 1) (b := a) (by omega) (by omega) h58
        refine Exists.intro (nI 1) (And.intro rfl ?_)
        refine Exists.intro (nI (a + 1)) (And.intro (nI_add _ _) ?_)
        refine l_bl2 g hlt hl _ (a + 1) n σ rfl (by omega) hf hX ht (fun s y1 y2 y3 => ?_)
        refine qy_wp_ok (c := CX12_blocks) (cuts := [51]) vX12_blocks wX12_blocks 2000 141 _ _ _ ?_
        refine Exists.intro (nI (a + 1)) (And.intro (nI_add _ _) ?_)
        exact ih _ (by omega) (a + 1) _ s rfl (by omega) y1 y2 y3
    · obtain rfl : a = s_n S 1 := by omega
      rw [Nat.sub_self]
      refine qy_wp_ok (c := CX12_blocks) (cuts := [51, 66]) vX12_blocks wX12_blocks 2000 51 _ _ _ ?_
      refine And.intro rfl (Exists.intro 207 (And.intro rfl ?_))
      refine Exists.intro (nI 1) (And.intro rfl ?_)
      refine Exists.intro (1) (Exists.intro (nI (s_n S 1)) (And.intro rfl (And.intro ⟨2788, rfl, by decide, by decide⟩ (And.intro ((congrFun hX.1 1).trans g.2.1.1) ?_))))
      refine And.intro (fun h58 => ?_) (fun h58 => ?_)
      · skip
        have h58 := nI_leT (a := s_n S 1) (b := s_n S 1) (by omega) (by omega) h58
        exact ⟨rfl, hf⟩
      · skip
        have h58 := nI_leF (a := s_n S 1) (b := s_n S 1) (by omega) (by omega) h58
        exact absurd h58 (by omega)
abbrev lBl : List (Nat × Option Nat) := [(205, none), (206, none), (197, some 18), (212, none), (213, none), (214, none), (215, none), (216, none), (197, some 34), (197, some 35), (197, some 36), (217, none), (218, none)]
theorem m_blocks_no {G : qx_G} {σ : qx_S} {S : qS} (hS : qx_mi σ 207 = S) {pl : Nat} (e0 : S 0 = nI pl) (h0 : pl ≤ 8) {x : Int32} (hb : (decide (0 < pl) && (decide (x = 0) || q_in64 x.toInt64 (lN 2) (lN 4))) = false) : qx_M G qc_T 7 YX12_blocks [.ref 197, .int x] σ (qr (-1) σ) := by
  refine qx_M_in rfl (Nat.le_of_ble_eq_true rfl) ?_
  refine qy_wp_ok (c := CX12_blocks) (cuts := [51]) vX12_blocks wX12_blocks 2000 0 _ _ _ ?_
  refine And.intro rfl (Exists.intro _ (And.intro (by decide) (qx_M_mono (m_isCountry hS e0 h0) ?_)))
  rintro _ _ ⟨rfl, rfl⟩
  refine And.intro (fun h4 => ?_) (fun h4 => ?_)
  · skip
    have h4 := bI_f h4
    refine Exists.intro ((-1)) (And.intro (by decide) ?_)
    exact ⟨rfl, rfl⟩
  · skip
    have h4 := bI_t h4
    refine And.intro (fun h8 => ?_) (fun h8 => ?_)
    · skip
      rw [h4, decide_eq_true h8] at hb; cases hb
    · skip
      refine Exists.intro x.toInt64 (And.intro rfl ?_)
      refine Exists.intro (lN 2) (And.intro (by decide) ?_)
      refine Exists.intro (lN 4) (And.intro (by decide) ?_)
      refine Exists.intro _ (And.intro (by decide) (qx_M_mono (m_in (v := x.toInt64) (l := (lN 2)) (h := (lN 4))) ?_))
      rintro _ _ ⟨rfl, rfl⟩
      refine And.intro (fun h22 => ?_) (fun h22 => ?_)
      · skip
        have h22 := bI_t h22
        rw [h4, h22, Bool.or_true] at hb; cases hb
      · skip
        have h22 := bI_f h22
        refine Exists.intro ((-1)) (And.intro (by decide) ?_)
        exact ⟨rfl, rfl⟩
theorem m_blocks_0 {G : qx_G} {σ : qx_S} {S : qS} {rf : Option qR} (hX : mX σ S rf none) (g : gS S) (hc : 0 < s_n S 0) : qx_M G qc_T 7 YX12_blocks [.ref 197, .int (nI 0)] σ (fun r s => r = some (.int (nI (q_b2 (q_bf S rf (q_ct S rf none)) (s_n S 1) (s_n S 1) 0 0))) ∧ ql lBl σ s) := by
  have hS := hX.1
  have h10 := g.2.1.2
  refine qx_M_in rfl (Nat.le_of_ble_eq_true rfl) ?_
  refine qy_wp_ok (c := CX12_blocks) (cuts := [51]) vX12_blocks wX12_blocks 2000 0 _ _ _ ?_
  refine And.intro rfl (Exists.intro _ (And.intro (by decide) (qx_M_mono (m_isCountry hS g.1.1 g.1.2) ?_)))
  rintro _ _ ⟨rfl, rfl⟩
  refine And.intro (fun h4 => ?_) (fun h4 => ?_)
  · skip
    have h4 := bI_f h4
    exact absurd (h4.symm.trans (decide_eq_true hc)) (by decide)
  · skip
    have h4 := bI_t h4
    refine And.intro (fun h8 => ?_) (fun h8 => ?_)
    · skip
      refine And.intro (fun h28 => ?_) (fun h28 => ?_)
      · skip
        exact absurd (by decide) h28
      · skip
        refine And.intro rfl (Exists.intro _ (And.intro (by decide) (qx_M_mono (m_findsCore hX g) ?_)))
        rintro _ σ1 ⟨rfl, fσ1, aσ1, cσ1⟩
        refine Exists.intro (nI 0) (And.intro rfl ?_)
        refine Exists.intro (nI 0) (And.intro rfl ?_)
        refine qx_K_le (ls := [.ref 197, .retAddr 0, .int (nI 0), .int (nI 0), .retAddr 0]) ⟨Or.inr rfl, Or.inl rfl, Or.inr rfl, Or.inr rfl, Or.inr rfl, trivial⟩ ?_
        exact qx_K_mono (l_bl1 g q_ct_lt _ 0 0 σ1 rfl (by omega) qf.rf aσ1 (fun i hi => cσ1 i (by omega))) (fun r s y => ⟨y.1, (fσ1.mn rfl).tr (y.2.mn rfl)⟩)
    · skip
      exact absurd (by decide) h8
theorem m_blocks_k {G : qx_G} {σ : qx_S} {S : qS} {rf : Option qR} (hX : mX σ S rf none) (g : gS S) (hc : 0 < s_n S 0) {k : Nat} (hk2 : 2 ≤ k) (hk4 : k ≤ 4) : qx_M G qc_T 7 YX12_blocks [.ref 197, .int (nI k)] σ (fun r s => r = some (.int (nI (q_b2 (q_bf S rf (q_tk S rf none k)) (s_n S 1) (s_n S 1) 0 0))) ∧ ql lBl σ s) := by
  have hS := hX.1
  have h10 := g.2.1.2
  refine qx_M_in rfl (Nat.le_of_ble_eq_true rfl) ?_
  refine qy_wp_ok (c := CX12_blocks) (cuts := [51]) vX12_blocks wX12_blocks 2000 0 _ _ _ ?_
  refine And.intro rfl (Exists.intro _ (And.intro (by decide) (qx_M_mono (m_isCountry hS g.1.1 g.1.2) ?_)))
  rintro _ _ ⟨rfl, rfl⟩
  refine And.intro (fun h4 => ?_) (fun h4 => ?_)
  · skip
    have h4 := bI_f h4
    exact absurd (h4.symm.trans (decide_eq_true hc)) (by decide)
  · skip
    have h4 := bI_t h4
    refine And.intro (fun h8 => ?_) (fun h8 => ?_)
    · skip
      have h8 := nI_eqT (a := k) (b := 0) (by omega) (by decide) h8
      exact absurd h8 (by omega)
    · skip
      have h8 := nI_neT (a := k) (b := 0) (by omega) (by decide) h8
      refine Exists.intro ((nI k).toInt64) (And.intro rfl ?_)
      refine Exists.intro (lN 2) (And.intro (by decide) ?_)
      refine Exists.intro (lN 4) (And.intro (by decide) ?_)
      refine Exists.intro _ (And.intro (by decide) (qx_M_mono (m_in (v := ((nI k).toInt64)) (l := (lN 2)) (h := (lN 4))) ?_))
      rintro _ _ ⟨rfl, rfl⟩
      refine And.intro (fun h22 => ?_) (fun h22 => ?_)
      · skip
        have h22 := bI_t h22
        refine And.intro (fun h28 => ?_) (fun h28 => ?_)
        · skip
          have h28 := nI_neT (a := k) (b := 0) (by omega) (by decide) h28
          refine And.intro rfl (Exists.intro _ (And.intro (by decide) (qx_M_mono (m_findsMost hX g hk2 hk4) ?_)))
          rintro _ σ1 ⟨rfl, fσ1, aσ1, bσ1⟩
          refine And.intro rfl (Exists.intro _ (And.intro (by decide) (qx_M_mono (m_followsMost bσ1.1 g aσ1) ?_)))
          rintro _ σ2 ⟨rfl, fσ2, cσ2⟩
          refine Exists.intro (nI 0) (And.intro rfl ?_)
          refine Exists.intro (nI 0) (And.intro rfl ?_)
          refine qx_K_le (ls := [.ref 197, .retAddr 0, .int (nI 0), .int (nI 0), .retAddr 0]) ⟨Or.inr rfl, Or.inl rfl, Or.inr rfl, Or.inr rfl, Or.inr rfl, trivial⟩ ?_
          exact qx_K_mono (l_bl1 g (q_tk_lt h10) _ 0 0 σ2 rfl (by omega) qf.rf (bσ1.fr fσ2 rfl) (fun i hi => cσ2 i (by omega))) (fun r s y => ⟨y.1, ((fσ1.mn rfl).tr (fσ2.mn rfl)).tr (y.2.mn rfl)⟩)
        · skip
          have h28 := nI_eqT (a := k) (b := 0) (by omega) (by decide) h28
          exact absurd h28 (by omega)
      · skip
        have h22 := bI_f h22
        exact absurd (h22.symm.trans (q_in_ok (by omega) (by omega) (by decide))) (by decide)

