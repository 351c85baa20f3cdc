/-! THE REFERENCE: laws, rings -/
theorem l_brokenBy {G : qx_G} {σ0 : qx_S} {t : Nat} {R : qR} (ht : t < 6) {w : Nat → Int64} : ∀ (m c : Nat) (σ : qx_S), m = q_nc R - c → c ≤ q_nc R → ql lE σ0 σ → mR1 σ t R → (∀ v, v < 12 → qx_ml σ 206 v = w v) →
    qx_K G qc_T 4 RX12 YX12_brokenBy 78 [.ref 197, .retAddr 0, .retAddr 0, .retAddr 0, .retAddr 0, .int (nI t), .int (nI c)] [] σ (fun r s => r = some (.int (nI (if q_brc R w (q_nc R - c) c = true then 3 else 0))) ∧ ql lE σ0 s) := by
  intro m
  induction m using Nat.strongRecOn with
  | _ m ih =>
    intro c σ hm hc hf hR hw
    have g0 := hR.1.1
    rcases Nat.lt_or_ge c (q_nc R) with hlt | hge
    · obtain ⟨k1, k2, k3, k4, k5⟩ := hR.2.2.2 c hlt
      have e1 : q_nc R - c = (q_nc R - (c + 1)) + 1 := by omega
      have hnext : ∀ s, (q_bar R c = true → q_tst R w c = false) → ql lE σ0 s → mR1 s t R → (∀ v, v < 12 → qx_ml s 206 v = w v) → qx_K G qc_T 4 RX12 YX12_brokenBy 78 [.ref 197, .retAddr 0, .retAddr 0, .retAddr 0, .retAddr 0, .int (nI t), .int (nI (c + 1))] [] s (fun r s => r = some (.int (nI (if q_brc R w (q_nc R - c) c = true then 3 else 0))) ∧ ql lE σ0 s) := by
        intro s h1 h2 h3 h4
        have e2 : q_brc R w (q_nc R - c) c = q_brc R w (q_nc R - (c + 1)) (c + 1) := by
          rw [e1]
          show (if _ then _ else _) = _
          rw [if_neg]
          rintro ⟨y1, y2⟩
          rw [h1 y1] at y2
          cases y2
        rw [e2]
        exact ih (q_nc R - (c + 1)) (by omega) (c + 1) s rfl (by omega) h2 h3 h4
      cases hb : q_bar R c with
      | false =>
        rw [hb] at k1
        refine qy_wp_ok (c := CX12_brokenBy) (cuts := [78]) vX12_brokenBy wX12_brokenBy 2000 78 _ _ _ ?_
        refine And.intro rfl (Exists.intro 202 (And.intro rfl ?_))
        refine Exists.intro (t) (Exists.intro (nI (q_nc R)) (And.intro rfl (And.intro ⟨6, rfl, by omega, by decide⟩ (And.intro hR.2.1 ?_))))
        refine And.intro (fun h87 => ?_) (fun h87 => ?_)
        · skip
          have h87 := nI_leT (a := q_nc R) (b := c) (by omega) (by omega) h87
          exact absurd h87 (by omega)
        · skip
          have h87 := nI_leF (a := q_nc R) (b := c) (by omega) (by omega) h87
          refine And.intro rfl (Exists.intro 201 (And.intro rfl ?_))
          refine Exists.intro (nI 60) (And.intro rfl ?_)
          refine Exists.intro (nI (60 * t)) (And.intro (pk_mul _ _) ?_)
          refine Exists.intro (nI 5) (And.intro rfl ?_)
          refine Exists.intro (nI (5 * c)) (And.intro (pk_mul _ _) ?_)
          refine Exists.intro (nI (60 * t + 5 * c)) (And.intro (nI_add _ _) ?_)
          refine Exists.intro (60 * t + 5 * c) (Exists.intro (nI 1) (And.intro rfl (And.intro ⟨360, rfl, by omega, by decide⟩ (And.intro k1 ?_))))
          refine And.intro (fun h105 => ?_) (fun h105 => ?_)
          · skip
            refine Exists.intro (nI (c + 1)) (And.intro (nI_add _ _) ?_)
            exact hnext _ (fun y => by rw [hb] at y; cases y) hf hR hw
          · skip
            exact absurd h105 (by decide)
      | true =>
        rw [hb] at k1
        refine qy_wp_ok (c := CX12_brokenBy) (cuts := [78]) vX12_brokenBy wX12_brokenBy 2000 78 _ _ _ ?_
        refine And.intro rfl (Exists.intro 202 (And.intro rfl ?_))
        refine Exists.intro (t) (Exists.intro (nI (q_nc R)) (And.intro rfl (And.intro ⟨6, rfl, by omega, by decide⟩ (And.intro hR.2.1 ?_))))
        refine And.intro (fun h87 => ?_) (fun h87 => ?_)
        · skip
          have h87 := nI_leT (a := q_nc R) (b := c) (by omega) (by omega) h87
          exact absurd h87 (by omega)
        · skip
          have h87 := nI_leF (a := q_nc R) (b := c) (by omega) (by omega) h87
          refine And.intro rfl (Exists.intro 201 (And.intro rfl ?_))
          refine Exists.intro (nI 60) (And.intro rfl ?_)
          refine Exists.intro (nI (60 * t)) (And.intro (pk_mul _ _) ?_)
          refine Exists.intro (nI 5) (And.intro rfl ?_)
          refine Exists.intro (nI (5 * c)) (And.intro (pk_mul _ _) ?_)
          refine Exists.intro (nI (60 * t + 5 * c)) (And.intro (nI_add _ _) ?_)
          refine Exists.intro (60 * t + 5 * c) (Exists.intro (nI 0) (And.intro rfl (And.intro ⟨360, rfl, by omega, by decide⟩ (And.intro k1 ?_))))
          refine And.intro (fun h105 => ?_) (fun h105 => ?_)
          · skip
            exact absurd (by decide) h105
          · skip
            refine Exists.intro (nI 60) (And.intro rfl ?_)
            refine Exists.intro (nI (60 * t)) (And.intro (pk_mul _ _) ?_)
            refine Exists.intro (nI 5) (And.intro rfl ?_)
            refine Exists.intro (nI (5 * c)) (And.intro (pk_mul _ _) ?_)
            refine Exists.intro (nI (60 * t + 5 * c)) (And.intro (nI_add _ _) ?_)
            refine And.intro rfl (Exists.intro _ (And.intro (by decide) (qx_M_mono (m_holds ht hR hw hlt) ?_)))
            rintro _ σ1 ⟨rfl, fσ1⟩
            have hf_σ1 : ql lE σ0 σ1 := hf.tr (fσ1.mn rfl)
            have hR_σ1 : mR1 σ1 t R := hR.fr fσ1 (fun _ => rfl) (fun _ => rfl) (fun _ => rfl)
            have hw_σ1 : ∀ v, v < 12 → qx_ml σ1 206 v = w v := (fun v hv => (fσ1.l 206 v rfl).trans (hw v hv))
            refine And.intro (fun h124 => ?_) (fun h124 => ?_)
            · skip
              have h124 := bI_f h124
              refine Exists.intro (nI (c + 1)) (And.intro (nI_add _ _) ?_)
              exact hnext _ (fun y => h124) hf_σ1 hR_σ1 hw_σ1
            · skip
              have h124 := bI_t h124
              refine Exists.intro (nI 3) (And.intro rfl ?_)
              exact ⟨by rw [e1, show q_brc R w (q_nc R - (c + 1) + 1) c = true from if_pos ⟨hb, h124⟩]; rfl, hf_σ1⟩
    · obtain rfl : c = q_nc R := by omega
      rw [Nat.sub_self]
      refine qy_wp_ok (c := CX12_brokenBy) (cuts := [78]) vX12_brokenBy wX12_brokenBy 2000 78 _ _ _ ?_
      refine And.intro rfl (Exists.intro 202 (And.intro rfl ?_))
      refine Exists.intro (t) (Exists.intro (nI (q_nc R)) (And.intro rfl (And.intro ⟨6, rfl, by omega, by decide⟩ (And.intro hR.2.1 ?_))))
      refine And.intro (fun h87 => ?_) (fun h87 => ?_)
      · skip
        have h87 := nI_leT (a := q_nc R) (b := q_nc R) (by omega) (by omega) h87
        refine Exists.intro (nI 0) (And.intro rfl ?_)
        exact ⟨rfl, hf⟩
      · skip
        have h87 := nI_leF (a := q_nc R) (b := q_nc R) (by omega) (by omega) h87
        exact absurd h87 (by omega)
theorem m_brokenBy {G : qx_G} {σ : qx_S} {S : qS} {rf : Option qR} {ly : Option (Nat × Nat)} (hX : mX σ S rf ly) {p o a b ring : Nat} (hp : p < 10) (ho : o < 10) (ha : S (10 + 5 * p) = nI a) (hb : S (10 + 5 * o) = nI b) (ha8 : a < 8) (hb8 : b < 8) : qx_M G qc_T 4 YX12_brokenBy [.ref 197, .int (nI p), .int (nI o), .int (nI ring)] σ (fun r s => r = some (.int (nI (q_bk S rf ly p a b o ring))) ∧ ql lE σ s) := by
  have hf : ql lE σ σ := qf.rf
  have e1 := hX.2.1
  have he1 := hX.2.2.1
  have u1 : b = a → q_bk S rf ly p a b o ring = 1 := fun h => if_pos h
  have u2 : ¬ b = a → S (10 + 5 * p + 3) = nI 0 → q_ll S rf ly p a b ≤ q_ll S rf ly p a a → q_bk S rf ly p a b o ring = 2 := fun h h1 h2 => (if_neg h).trans (if_pos ⟨h1, h2⟩)
  have u3 : ¬ b = a → (S (10 + 5 * p + 3) = nI 0 → ¬ q_ll S rf ly p a b ≤ q_ll S rf ly p a a) → q_bk S rf ly p a b o ring = if q_br S rf p a b o ring = true then 3 else 0 := fun h h1 => (if_neg h).trans (if_neg (fun z => h1 z.1 z.2))
  have tail : ¬ b = a → (S (10 + 5 * p + 3) = nI 0 → ¬ q_ll S rf ly p a b ≤ q_ll S rf ly p a a) → ∀ s, ql lE σ s → mX s S rf ly → qx_K G qc_T 4 RX12 YX12_brokenBy 50 [.ref 197, .int (nI p), .int (nI o), .int (nI ring), .int (nI b), .retAddr 0, .retAddr 0] [] s (fun r s => r = some (.int (nI (q_bk S rf ly p a b o ring))) ∧ ql lE σ s) := by
    intro y1 y2 s hf hX
    rw [u3 y1 y2]
    have hS := hX.1
    have h4 := hX.2.2.2.1
    cases rf with
    | none =>
      dsimp only at h4
      refine qy_wp_ok (c := CX12_brokenBy) (cuts := [78]) vX12_brokenBy wX12_brokenBy 2000 50 _ _ _ ?_
      refine And.intro rfl (Exists.intro 207 (And.intro rfl ?_))
      refine Exists.intro (nI 7) (And.intro rfl ?_)
      refine Exists.intro (7) (Exists.intro (-1) (And.intro rfl (And.intro ⟨2788, rfl, by decide, by decide⟩ (And.intro ((congrFun hS 7).trans h4) ?_))))
      refine And.intro (fun h61 => ?_) (fun h61 => ?_)
      · skip
        exact absurd h61 (by decide)
      · skip
        refine Exists.intro (nI 0) (And.intro rfl ?_)
        exact ⟨rfl, hf⟩
    | some R =>
      obtain ⟨t, ht, h7, hR⟩ := h4
      refine qy_wp_ok (c := CX12_brokenBy) (cuts := [78]) vX12_brokenBy wX12_brokenBy 2000 50 _ _ _ ?_
      refine And.intro rfl (Exists.intro 207 (And.intro rfl ?_))
      refine Exists.intro (nI 7) (And.intro rfl ?_)
      refine Exists.intro (7) (Exists.intro (nI t) (And.intro rfl (And.intro ⟨2788, rfl, by decide, by decide⟩ (And.intro ((congrFun hS 7).trans h7) ?_))))
      refine And.intro (fun h61 => ?_) (fun h61 => ?_)
      · skip
        have h61 := nI_leT (a := 0) (b := t) (by decide) (by omega) h61
        refine And.intro rfl (Exists.intro _ (And.intro (by decide) (qx_M_mono (m_words1 (p := p) (a := a) (to := b) (o := o) (ring := ring) hS e1 he1 hp ho hb8 ha) ?_)))
        rintro _ σ1 ⟨rfl, fσ1, gσ1⟩
        refine Exists.intro (nI 0) (And.intro rfl ?_)
        refine qx_K_le (ls := [.ref 197, .retAddr 0, .retAddr 0, .retAddr 0, .retAddr 0, .int (nI t), .int (nI 0)]) ⟨Or.inr rfl, Or.inl rfl, Or.inl rfl, Or.inl rfl, Or.inl rfl, Or.inr rfl, Or.inr rfl, trivial⟩ ?_
        exact qx_K_mono (l_brokenBy (σ0 := σ) ht _ 0 σ1 rfl (by omega) (hf.tr (fσ1.mn rfl)) (hR.fr fσ1 (fun _ => rfl) (fun _ => rfl) (fun _ => rfl)) gσ1) (fun r s h => h)
      · skip
        have h61 := nI_leF (a := 0) (b := t) (by decide) (by omega) h61
        exact absurd h61 (by omega)
  have hS := hX.1
  refine qx_M_in rfl (Nat.le_of_ble_eq_true rfl) ?_
  refine qy_wp_ok (c := CX12_brokenBy) (cuts := [50]) vX12_brokenBy wX12_brokenBy 2000 0 _ _ _ ?_
  refine And.intro rfl (Exists.intro _ (And.intro (by decide) (qx_M_mono (m_at (p := o) (by omega) ((congrFun hX.1 _).trans hb)) ?_)))
  rintro _ _ ⟨rfl, rfl⟩
  refine And.intro rfl (Exists.intro _ (And.intro (by decide) (qx_M_mono (m_at (p := p) (by omega) ((congrFun hX.1 _).trans ha)) ?_)))
  rintro _ _ ⟨rfl, rfl⟩
  refine And.intro (fun h14 => ?_) (fun h14 => ?_)
  · skip
    have h14 := nI_neT (a := b) (b := a) (by omega) (by omega) h14
    refine Exists.intro (nI 3) (And.intro rfl ?_)
    refine And.intro rfl (Exists.intro _ (And.intro (by decide) (qx_M_mono (m_personOf (p := p) (k := 3) (by omega) (by omega) (congrFun hX.1 (10 + 5 * p + 3))) ?_)))
    rintro _ _ ⟨rfl, rfl⟩
    refine And.intro (fun h25 => ?_) (fun h25 => ?_)
    · skip
      first | exact tail h14 (fun _ => Int32.not_le.mpr h45) _ hf hX | exact tail h14 (fun z => absurd z h25) _ hf hX
    · skip
      refine And.intro rfl (Exists.intro _ (And.intro (by decide) (qx_M_mono (m_likes (p := p) (a := a) (q := b) hX (by omega) (by omega) ha) ?_)))
      rintro _ σ1 ⟨rfl, fσ1⟩
      have hf_σ1 : ql lE σ σ1 := hf.tr fσ1
      have hX_σ1 : mX σ1 S rf ly := hX.fr fσ1 rfl
      refine And.intro rfl (Exists.intro _ (And.intro (by decide) (qx_M_mono (m_at (p := p) (by omega) ((congrFun hX_σ1.1 _).trans ha)) ?_)))
      rintro _ _ ⟨rfl, rfl⟩
      refine And.intro rfl (Exists.intro _ (And.intro (by decide) (qx_M_mono (m_likes (p := p) (a := a) (q := a) hX_σ1 (by omega) (by omega) ha) ?_)))
      rintro _ σ2 ⟨rfl, fσ2⟩
      have hf_σ2 : ql lE σ σ2 := hf_σ1.tr fσ2
      have hX_σ2 : mX σ2 S rf ly := hX_σ1.fr fσ2 rfl
      refine And.intro (fun h45 => ?_) (fun h45 => ?_)
      · skip
        first | exact tail h14 (fun _ => Int32.not_le.mpr h45) _ hf_σ2 hX_σ2 | exact tail h14 (fun z => absurd z h25) _ hf_σ2 hX_σ2
      · skip
        refine Exists.intro (nI 2) (And.intro rfl ?_)
        exact ⟨by rw [u2 h14 h25 (Int32.not_lt.mp h45)], hf_σ2⟩
  · skip
    have h14 := nI_eqT (a := b) (b := a) (by omega) (by omega) h14
    refine Exists.intro (nI 1) (And.intro rfl ?_)
    exact ⟨by rw [u1 h14], hf⟩

