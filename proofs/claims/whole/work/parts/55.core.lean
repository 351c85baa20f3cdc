/-! THE REFERENCE: CORE -/
theorem l_pa2 {G : qx_G} {σ0 : qx_S} {S : qS} {rf : Option qR} {ly : Option (Nat × Nat)} (g : gS S) {p left q best : Nat} {mo : Int32} (hl : left < 1024) {σ : qx_S} (hf : ql lE σ0 σ) (hX : mX σ S rf ly) {Φ : qx_F} (hcont : qx_K G qc_T 4 RX12 YX12_pointsAt 87 [.ref 197, .int (nI p), .int (nI left), .int (nI best), .int mo, .int (nI q), .int (bI (q_lf S left q)), .retAddr 0] [] σ Φ) (hq : q < 8) : ∀ (m o : Nat), m = s_n S 1 - o → o ≤ s_n S 1 →
    qx_K G qc_T 4 RX12 YX12_pointsAt 38 [.ref 197, .int (nI p), .int (nI left), .int (nI best), .int mo, .int (nI q), .int (bI (q_ex (fun o => left.testBit o && decide (s_at S o = q)) o 0)), .int (nI o)] [] σ Φ := by
  have h10 := g.2.1.2
  have h8 := g.1.2
  intro m
  induction m using Nat.strongRecOn with
  | _ m ih =>
    intro o hm ho
    rcases Nat.lt_or_ge o (s_n S 1) with hlt | hge
    · have hao : s_at S o < 8 := Nat.lt_of_lt_of_le (g.2.2 o hlt).2 h8
      have sn := q_ex_snoc (fun o => left.testBit o && decide (s_at S o = q)) o 0
      rw [Nat.zero_add] at sn
      have u1 : q_ex (fun o => left.testBit o && decide (s_at S o = q)) o 0 = true → nI 1 = bI (q_ex (fun o => left.testBit o && decide (s_at S o = q)) (o + 1) 0) := fun z => (bI_true (by rw [sn, z]; rfl)).symm
      have u2 : (left.testBit o && decide (s_at S o = q)) = true → nI 1 = bI (q_ex (fun o => left.testBit o && decide (s_at S o = q)) (o + 1) 0) := fun z => (bI_true (by rw [sn, z, Bool.or_true])).symm
      have u3 : q_ex (fun o => left.testBit o && decide (s_at S o = q)) o 0 = false → (left.testBit o && decide (s_at S o = q)) = false → nI 0 = bI (q_ex (fun o => left.testBit o && decide (s_at S o = q)) (o + 1) 0) := fun z z' => (bI_false (by rw [sn, z, z']; rfl)).symm
      refine qy_wp_ok (c := CX12_pointsAt) (cuts := [38, 87]) vX12_pointsAt wX12_pointsAt 2000 38 _ _ _ ?_
      refine And.intro rfl (Exists.intro 207 (And.intro rfl ?_))
      refine Exists.intro (nI 1) (And.intro rfl ?_)
      refine Exists.intro (1) (Exists.intro (nI (s_n S 1)) (And.intro rfl (And.intro ⟨2788, rfl, by decide, by decide⟩ (And.intro ((congrFun hX.1 1).trans g.2.1.1) ?_))))
      refine And.intro (fun h46 => ?_) (fun h46 => ?_)
      · skip
        have h46 := nI_leT (a := s_n S 1) (b := o) (by omega) (by omega) h46
        exact absurd h46 (by omega)
      · skip
        have h46 := nI_leF (a := s_n S 1) (b := o) (by omega) (by omega) h46
        refine And.intro (fun h51 => ?_) (fun h51 => ?_)
        · skip
          have h51 := bI_t h51
          refine Exists.intro (nI 1) (And.intro rfl ?_)
          refine Exists.intro (nI (o + 1)) (And.intro (nI_add _ _) ?_)
          first | (rw [u1 h51]; exact ih _ (by omega) (o + 1) rfl (by omega)) | (rw [u2 (by rw [h60, decide_eq_true h71]; rfl)]; exact ih _ (by omega) (o + 1) rfl (by omega)) | (rw [u3 h51 (by rw [h60]; rfl)]; exact ih _ (by omega) (o + 1) rfl (by omega)) | (rw [u3 h51 (by rw [decide_eq_false h71, Bool.and_false])]; exact ih _ (by omega) (o + 1) rfl (by omega))
        · skip
          have h51 := bI_f h51
          refine Exists.intro _ (And.intro (by decide) (qx_M_mono (m_isOf (s := left) (k := o) (by omega) (by omega)) ?_))
          rintro _ _ ⟨rfl, rfl⟩
          refine And.intro (fun h60 => ?_) (fun h60 => ?_)
          · skip
            have h60 := bI_f h60
            refine Exists.intro (nI 0) (And.intro rfl ?_)
            refine Exists.intro (nI (o + 1)) (And.intro (nI_add _ _) ?_)
            first | (rw [u1 h51]; exact ih _ (by omega) (o + 1) rfl (by omega)) | (rw [u2 (by rw [h60, decide_eq_true h71]; rfl)]; exact ih _ (by omega) (o + 1) rfl (by omega)) | (rw [u3 h51 (by rw [h60]; rfl)]; exact ih _ (by omega) (o + 1) rfl (by omega)) | (rw [u3 h51 (by rw [decide_eq_false h71, Bool.and_false])]; exact ih _ (by omega) (o + 1) rfl (by omega))
          · skip
            have h60 := bI_t h60
            refine And.intro rfl (Exists.intro _ (And.intro (by decide) (qx_M_mono (m_at (p := o) (by omega) ((congrFun hX.1 _).trans (g.2.2 o (by omega)).1)) ?_)))
            rintro _ _ ⟨rfl, rfl⟩
            refine And.intro (fun h71 => ?_) (fun h71 => ?_)
            · skip
              have h71 := nI_neT (a := s_at S o) (b := q) (by omega) (by omega) h71
              refine Exists.intro (nI 0) (And.intro rfl ?_)
              refine Exists.intro (nI (o + 1)) (And.intro (nI_add _ _) ?_)
              first | (rw [u1 h51]; exact ih _ (by omega) (o + 1) rfl (by omega)) | (rw [u2 (by rw [h60, decide_eq_true h71]; rfl)]; exact ih _ (by omega) (o + 1) rfl (by omega)) | (rw [u3 h51 (by rw [h60]; rfl)]; exact ih _ (by omega) (o + 1) rfl (by omega)) | (rw [u3 h51 (by rw [decide_eq_false h71, Bool.and_false])]; exact ih _ (by omega) (o + 1) rfl (by omega))
            · skip
              have h71 := nI_eqT (a := s_at S o) (b := q) (by omega) (by omega) h71
              refine Exists.intro (nI 1) (And.intro rfl ?_)
              refine Exists.intro (nI (o + 1)) (And.intro (nI_add _ _) ?_)
              first | (rw [u1 h51]; exact ih _ (by omega) (o + 1) rfl (by omega)) | (rw [u2 (by rw [h60, decide_eq_true h71]; rfl)]; exact ih _ (by omega) (o + 1) rfl (by omega)) | (rw [u3 h51 (by rw [h60]; rfl)]; exact ih _ (by omega) (o + 1) rfl (by omega)) | (rw [u3 h51 (by rw [decide_eq_false h71, Bool.and_false])]; exact ih _ (by omega) (o + 1) rfl (by omega))
    · obtain rfl : o = s_n S 1 := by omega
      refine qy_wp_ok (c := CX12_pointsAt) (cuts := [38, 87]) vX12_pointsAt wX12_pointsAt 2000 38 _ _ _ ?_
      refine And.intro rfl (Exists.intro 207 (And.intro rfl ?_))
      refine Exists.intro (nI 1) (And.intro rfl ?_)
      refine Exists.intro (1) (Exists.intro (nI (s_n S 1)) (And.intro rfl (And.intro ⟨2788, rfl, by decide, by decide⟩ (And.intro ((congrFun hX.1 1).trans g.2.1.1) ?_))))
      refine And.intro (fun h46 => ?_) (fun h46 => ?_)
      · skip
        have h46 := nI_leT (a := s_n S 1) (b := s_n S 1) (by omega) (by omega) h46
        refine qx_K_le (ls := [.ref 197, .int (nI p), .int (nI left), .int (nI best), .int mo, .int (nI q), .int (bI (q_ex (fun o => left.testBit o && decide (s_at S o = q)) (s_n S 1) 0)), .retAddr 0]) ⟨Or.inr rfl, Or.inr rfl, Or.inr rfl, Or.inr rfl, Or.inr rfl, Or.inr rfl, Or.inr rfl, Or.inl rfl, trivial⟩ ?_
        exact hcont
      · skip
        have h46 := nI_leF (a := s_n S 1) (b := s_n S 1) (by omega) (by omega) h46
        exact absurd h46 (by omega)
theorem l_pa3 {G : qx_G} {σ0 : qx_S} {S : qS} {rf : Option qR} {ly : Option (Nat × Nat)} (g : gS S) {p left best : Nat} (hl : left < 1024) (hp : p < s_n S 1) (hb : best < 8) {σ : qx_S} (hf : ql lE σ0 σ) (hX : mX σ S rf ly) : ∀ (m o : Nat), m = s_n S 1 - o → o ≤ s_n S 1 →
    qx_K G qc_T 4 RX12 YX12_pointsAt 139 [.ref 197, .int (nI p), .int (nI left), .int (nI best), .retAddr 0, .int (nI o), .retAddr 0, .retAddr 0] [] σ (fun r s => r = some (.int (nI (q_fst (fun o => left.testBit o && decide (s_at S o = best)) p (s_n S 1 - o) o))) ∧ ql lE σ0 s) := by
  have h10 := g.2.1.2
  have h8 := g.1.2
  intro m
  induction m using Nat.strongRecOn with
  | _ m ih =>
    intro o hm ho
    rcases Nat.lt_or_ge o (s_n S 1) with hlt | hge
    · have hao : s_at S o < 8 := Nat.lt_of_lt_of_le (g.2.2 o hlt).2 h8
      have e1 : s_n S 1 - o = (s_n S 1 - (o + 1)) + 1 := by omega
      have u1 : (left.testBit o && decide (s_at S o = best)) = true → q_fst (fun o => left.testBit o && decide (s_at S o = best)) p (s_n S 1 - o) o = o := fun z => by rw [e1]; exact if_pos z
      have u2 : (left.testBit o && decide (s_at S o = best)) = false → q_fst (fun o => left.testBit o && decide (s_at S o = best)) p (s_n S 1 - o) o = q_fst (fun o => left.testBit o && decide (s_at S o = best)) p (s_n S 1 - (o + 1)) (o + 1) := fun z => by rw [e1]; exact if_neg (fun w => absurd (z.symm.trans w) (by decide))
      refine qy_wp_ok (c := CX12_pointsAt) (cuts := [139]) vX12_pointsAt wX12_pointsAt 2000 139 _ _ _ ?_
      refine And.intro rfl (Exists.intro 207 (And.intro rfl ?_))
      refine Exists.intro (nI 1) (And.intro rfl ?_)
      refine Exists.intro (1) (Exists.intro (nI (s_n S 1)) (And.intro rfl (And.intro ⟨2788, rfl, by decide, by decide⟩ (And.intro ((congrFun hX.1 1).trans g.2.1.1) ?_))))
      refine And.intro (fun h147 => ?_) (fun h147 => ?_)
      · skip
        have h147 := nI_leT (a := s_n S 1) (b := o) (by omega) (by omega) h147
        exact absurd h147 (by omega)
      · skip
        have h147 := nI_leF (a := s_n S 1) (b := o) (by omega) (by omega) h147
        refine Exists.intro _ (And.intro (by decide) (qx_M_mono (m_isOf (s := left) (k := o) (by omega) (by omega)) ?_))
        rintro _ _ ⟨rfl, rfl⟩
        refine And.intro (fun h156 => ?_) (fun h156 => ?_)
        · skip
          have h156 := bI_f h156
          refine Exists.intro (nI (o + 1)) (And.intro (nI_add _ _) ?_)
          first | (rw [u2 (by rw [h156]; rfl)]; exact ih _ (by omega) (o + 1) rfl (by omega)) | (rw [u2 (by rw [decide_eq_false h166, Bool.and_false])]; exact ih _ (by omega) (o + 1) rfl (by omega))
        · skip
          have h156 := bI_t h156
          refine And.intro rfl (Exists.intro _ (And.intro (by decide) (qx_M_mono (m_at (p := o) (by omega) ((congrFun hX.1 _).trans (g.2.2 o (by omega)).1)) ?_)))
          rintro _ _ ⟨rfl, rfl⟩
          refine And.intro (fun h166 => ?_) (fun h166 => ?_)
          · skip
            have h166 := nI_neT (a := s_at S o) (b := best) (by omega) (by omega) h166
            refine Exists.intro (nI (o + 1)) (And.intro (nI_add _ _) ?_)
            first | (rw [u2 (by rw [h156]; rfl)]; exact ih _ (by omega) (o + 1) rfl (by omega)) | (rw [u2 (by rw [decide_eq_false h166, Bool.and_false])]; exact ih _ (by omega) (o + 1) rfl (by omega))
          · skip
            have h166 := nI_eqT (a := s_at S o) (b := best) (by omega) (by omega) h166
            exact ⟨by rw [u1 (by rw [h156, decide_eq_true h166]; rfl)], hf⟩
    · obtain rfl : o = s_n S 1 := by omega
      rw [Nat.sub_self]
      refine qy_wp_ok (c := CX12_pointsAt) (cuts := [139]) vX12_pointsAt wX12_pointsAt 2000 139 _ _ _ ?_
      refine And.intro rfl (Exists.intro 207 (And.intro rfl ?_))
      refine Exists.intro (nI 1) (And.intro rfl ?_)
      refine Exists.intro (1) (Exists.intro (nI (s_n S 1)) (And.intro rfl (And.intro ⟨2788, rfl, by decide, by decide⟩ (And.intro ((congrFun hX.1 1).trans g.2.1.1) ?_))))
      refine And.intro (fun h147 => ?_) (fun h147 => ?_)
      · skip
        have h147 := nI_leT (a := s_n S 1) (b := s_n S 1) (by omega) (by omega) h147
        exact ⟨rfl, hf⟩
      · skip
        have h147 := nI_leF (a := s_n S 1) (b := s_n S 1) (by omega) (by omega) h147
        exact absurd h147 (by omega)
theorem l_pa1 {G : qx_G} {σ0 : qx_S} {S : qS} {rf : Option qR} {ly : Option (Nat × Nat)} (g : gS S) {p left : Nat} (hl : left < 1024) (hp : p < s_n S 1) : ∀ (m q : Nat) (bb : Nat × Int32) (σ : qx_S), m = s_n S 0 - q → q ≤ s_n S 0 → bb.1 < 8 → ql lE σ0 σ → mX σ S rf ly →
    qx_K G qc_T 4 RX12 YX12_pointsAt 21 [.ref 197, .int (nI p), .int (nI left), .int (nI bb.1), .int bb.2, .int (nI q), .retAddr 0, .retAddr 0] [] σ (fun r s => r = some (.int (nI (if (q_pb (q_lf S left) (q_ll S rf ly p (s_at S p)) (s_n S 0 - q) q bb).1 = s_at S p then p else q_fst (fun o => left.testBit o && decide (s_at S o = (q_pb (q_lf S left) (q_ll S rf ly p (s_at S p)) (s_n S 0 - q) q bb).1)) p (s_n S 1) 0))) ∧ ql lE σ0 s) := by
  have h10 := g.2.1.2
  have h8 := g.1.2
  have hap : s_at S p < 8 := Nat.lt_of_lt_of_le (g.2.2 p hp).2 h8
  intro m
  induction m using Nat.strongRecOn with
  | _ m ih =>
    intro q bb σ hm hq hb hf hX
    obtain ⟨best, mo⟩ := bb
    have hb : best < 8 := hb
    rcases Nat.lt_or_ge q (s_n S 0) with hlt | hge
    · have e1 : s_n S 0 - q = (s_n S 0 - (q + 1)) + 1 := by omega
      have u1 : (q_lf S left q = true ∧ mo < q_ll S rf ly p (s_at S p) q) → q_pb (q_lf S left) (q_ll S rf ly p (s_at S p)) (s_n S 0 - q) q (best, mo) = q_pb (q_lf S left) (q_ll S rf ly p (s_at S p)) (s_n S 0 - (q + 1)) (q + 1) (q, q_ll S rf ly p (s_at S p) q) := fun z => by rw [e1]; exact if_pos z
      have u2 : ¬ (q_lf S left q = true ∧ mo < q_ll S rf ly p (s_at S p) q) → q_pb (q_lf S left) (q_ll S rf ly p (s_at S p)) (s_n S 0 - q) q (best, mo) = q_pb (q_lf S left) (q_ll S rf ly p (s_at S p)) (s_n S 0 - (q + 1)) (q + 1) (best, mo) := fun z => by rw [e1]; exact if_neg z
      have tail : qx_K G qc_T 4 RX12 YX12_pointsAt 87 [.ref 197, .int (nI p), .int (nI left), .int (nI best), .int mo, .int (nI q), .int (bI (q_lf S left q)), .retAddr 0] [] σ (fun r s => r = some (.int (nI (if (q_pb (q_lf S left) (q_ll S rf ly p (s_at S p)) (s_n S 0 - q) q (best, mo)).1 = s_at S p then p else q_fst (fun o => left.testBit o && decide (s_at S o = (q_pb (q_lf S left) (q_ll S rf ly p (s_at S p)) (s_n S 0 - q) q (best, mo)).1)) p (s_n S 1) 0))) ∧ ql lE σ0 s) := by
        refine qy_wp_ok (c := CX12_pointsAt) (cuts := [21]) vX12_pointsAt wX12_pointsAt 2000 87 _ _ _ ?_
        refine And.intro (fun h89 => ?_) (fun h89 => ?_)
        · skip
          have h89 := bI_f h89
          refine Exists.intro (nI (q + 1)) (And.intro (nI_add _ _) ?_)
          refine qx_K_le (ls := [.ref 197, .int (nI p), .int (nI left), .int (nI best), .int mo, .int (nI (q + 1)), .retAddr 0, .retAddr 0]) ⟨Or.inr rfl, Or.inr rfl, Or.inr rfl, Or.inr rfl, Or.inr rfl, Or.inr rfl, Or.inl rfl, Or.inr rfl, trivial⟩ ?_
          first | (rw [u1 ⟨h89, h101⟩]; exact ih _ (by omega) (q + 1) (q, q_ll S rf ly p (s_at S p) q) _ rfl (by omega) (by show q < 8; omega) hf hX) | (rw [u2 (fun z => absurd z.1 (by rw [h89]; decide))]; exact ih _ (by omega) (q + 1) (best, mo) _ rfl (by omega) hb hf hX) | (rw [u2 (fun z => absurd z.2 h101)]; exact ih _ (by omega) (q + 1) (best, mo) _ rfl (by omega) hb hf hX)
        · skip
          have h89 := bI_t h89
          refine And.intro rfl (Exists.intro _ (And.intro (by decide) (qx_M_mono (m_likes (p := p) (a := s_at S p) (q := q) hX (by omega) (by omega) (g.2.2 p (by omega)).1) ?_)))
          rintro _ σ1 ⟨rfl, fσ1⟩
          have hf_σ1 : ql lE σ0 σ1 := hf.tr fσ1
          have hX_σ1 : mX σ1 S rf ly := hX.fr fσ1 rfl
          refine And.intro (fun h101 => ?_) (fun h101 => ?_)
          · skip
            refine And.intro rfl (Exists.intro _ (And.intro (by decide) (qx_M_mono (m_likes (p := p) (a := s_at S p) (q := q) hX_σ1 (by omega) (by omega) (g.2.2 p (by omega)).1) ?_)))
            rintro _ σ2 ⟨rfl, fσ2⟩
            have hf_σ2 : ql lE σ0 σ2 := hf_σ1.tr fσ2
            have hX_σ2 : mX σ2 S rf ly := hX_σ1.fr fσ2 rfl
            refine Exists.intro (nI (q + 1)) (And.intro (nI_add _ _) ?_)
            refine qx_K_le (ls := [.ref 197, .int (nI p), .int (nI left), .int (nI q), .int (q_ll S rf ly p (s_at S p) q), .int (nI (q + 1)), .retAddr 0, .retAddr 0]) ⟨Or.inr rfl, Or.inr rfl, Or.inr rfl, Or.inr rfl, Or.inr rfl, Or.inr rfl, Or.inl rfl, Or.inr rfl, trivial⟩ ?_
            first | (rw [u1 ⟨h89, h101⟩]; exact ih _ (by omega) (q + 1) (q, q_ll S rf ly p (s_at S p) q) _ rfl (by omega) (by show q < 8; omega) hf_σ2 hX_σ2) | (rw [u2 (fun z => absurd z.1 (by rw [h89]; decide))]; exact ih _ (by omega) (q + 1) (best, mo) _ rfl (by omega) hb hf_σ2 hX_σ2) | (rw [u2 (fun z => absurd z.2 h101)]; exact ih _ (by omega) (q + 1) (best, mo) _ rfl (by omega) hb hf_σ2 hX_σ2)
          · skip
            refine Exists.intro (nI (q + 1)) (And.intro (nI_add _ _) ?_)
            refine qx_K_le (ls := [.ref 197, .int (nI p), .int (nI left), .int (nI best), .int mo, .int (nI (q + 1)), .retAddr 0, .retAddr 0]) ⟨Or.inr rfl, Or.inr rfl, Or.inr rfl, Or.inr rfl, Or.inr rfl, Or.inr rfl, Or.inl rfl, Or.inr rfl, trivial⟩ ?_
            first | (rw [u1 ⟨h89, h101⟩]; exact ih _ (by omega) (q + 1) (q, q_ll S rf ly p (s_at S p) q) _ rfl (by omega) (by show q < 8; omega) hf_σ1 hX_σ1) | (rw [u2 (fun z => absurd z.1 (by rw [h89]; decide))]; exact ih _ (by omega) (q + 1) (best, mo) _ rfl (by omega) hb hf_σ1 hX_σ1) | (rw [u2 (fun z => absurd z.2 h101)]; exact ih _ (by omega) (q + 1) (best, mo) _ rfl (by omega) hb hf_σ1 hX_σ1)
      refine qy_wp_ok (c := CX12_pointsAt) (cuts := [38, 125]) vX12_pointsAt wX12_pointsAt 2000 21 _ _ _ ?_
      refine And.intro rfl (Exists.intro 207 (And.intro rfl ?_))
      refine Exists.intro (nI 0) (And.intro rfl ?_)
      refine Exists.intro (0) (Exists.intro (nI (s_n S 0)) (And.intro rfl (And.intro ⟨2788, rfl, by decide, by decide⟩ (And.intro ((congrFun hX.1 0).trans g.1.1) ?_))))
      refine And.intro (fun h29 => ?_) (fun h29 => ?_)
      · skip
        have h29 := nI_leT (a := s_n S 0) (b := q) (by omega) (by omega) h29
        exact absurd h29 (by omega)
      · skip
        have h29 := nI_leF (a := s_n S 0) (b := q) (by omega) (by omega) h29
        refine Exists.intro (nI 0) (And.intro rfl ?_)
        refine Exists.intro (nI 0) (And.intro rfl ?_)
        exact l_pa2 g hl hf hX tail (by omega) _ 0 rfl (by omega)
    · obtain rfl : q = s_n S 0 := by omega
      rw [Nat.sub_self]
      show qx_K _ _ _ _ _ _ _ _ _ (fun r s => r = some (.int (nI (if best = s_at S p then p else q_fst (fun o => left.testBit o && decide (s_at S o = best)) p (s_n S 1) 0))) ∧ ql lE σ0 s)
      refine qy_wp_ok (c := CX12_pointsAt) (cuts := [38, 139]) vX12_pointsAt wX12_pointsAt 2000 21 _ _ _ ?_
      refine And.intro rfl (Exists.intro 207 (And.intro rfl ?_))
      refine Exists.intro (nI 0) (And.intro rfl ?_)
      refine Exists.intro (0) (Exists.intro (nI (s_n S 0)) (And.intro rfl (And.intro ⟨2788, rfl, by decide, by decide⟩ (And.intro ((congrFun hX.1 0).trans g.1.1) ?_))))
      refine And.intro (fun h29 => ?_) (fun h29 => ?_)
      · skip
        have h29 := nI_leT (a := s_n S 0) (b := s_n S 0) (by omega) (by omega) h29
        refine And.intro rfl (Exists.intro _ (And.intro (by decide) (qx_M_mono (m_at (p := p) (by omega) ((congrFun hX.1 _).trans (g.2.2 p (by omega)).1)) ?_)))
        rintro _ _ ⟨rfl, rfl⟩
        refine And.intro (fun h131 => ?_) (fun h131 => ?_)
        · skip
          have h131 := nI_neT (a := best) (b := s_at S p) (by omega) (by omega) h131
          refine Exists.intro (nI 0) (And.intro rfl ?_)
          refine qx_K_le (ls := [.ref 197, .int (nI p), .int (nI left), .int (nI best), .retAddr 0, .int (nI 0), .retAddr 0, .retAddr 0]) ⟨Or.inr rfl, Or.inr rfl, Or.inr rfl, Or.inr rfl, Or.inl rfl, Or.inr rfl, Or.inr rfl, Or.inr rfl, trivial⟩ ?_
          rw [if_neg h131]; exact l_pa3 g hl hp hb hf hX _ 0 rfl (by omega)
        · skip
          have h131 := nI_eqT (a := best) (b := s_at S p) (by omega) (by omega) h131
          exact ⟨by rw [if_pos h131], hf⟩
      · skip
        have h29 := nI_leF (a := s_n S 0) (b := s_n S 0) (by omega) (by omega) h29
        exact absurd h29 (by omega)
theorem m_pointsAt {G : qx_G} {σ : qx_S} {S : qS} {rf : Option qR} {ly : Option (Nat × Nat)} (hX : mX σ S rf ly) (g : gS S) {p left : Nat} (hl : left < 1024) (hp : p < s_n S 1) : qx_M G qc_T 4 YX12_pointsAt [.ref 197, .int (nI p), .int (nI left)] σ (fun r s => r = some (.int (nI (q_pa S rf ly left p))) ∧ ql lE σ s) := by
  have h10 := g.2.1.2
  have h8 := g.1.2
  have hap : s_at S p < 8 := Nat.lt_of_lt_of_le (g.2.2 p hp).2 h8
  have hf : ql lE σ σ := qf.rf
  refine qx_M_in rfl (Nat.le_of_ble_eq_true rfl) ?_
  refine qy_wp_ok (c := CX12_pointsAt) (cuts := [21]) vX12_pointsAt wX12_pointsAt 2000 0 _ _ _ ?_
  refine And.intro rfl (Exists.intro _ (And.intro (by decide) (qx_M_mono (m_at (p := p) (by omega) ((congrFun hX.1 _).trans (g.2.2 p (by omega)).1)) ?_)))
  rintro _ _ ⟨rfl, rfl⟩
  refine And.intro rfl (Exists.intro _ (And.intro (by decide) (qx_M_mono (m_at (p := p) (by omega) ((congrFun hX.1 _).trans (g.2.2 p (by omega)).1)) ?_)))
  rintro _ _ ⟨rfl, rfl⟩
  refine And.intro rfl (Exists.intro _ (And.intro (by decide) (qx_M_mono (m_likes (p := p) (a := s_at S p) (q := (s_at S p)) hX (by omega) (by omega) (g.2.2 p (by omega)).1) ?_)))
  rintro _ σ1 ⟨rfl, fσ1⟩
  have hf_σ1 : ql lE σ σ1 := hf.tr fσ1
  have hX_σ1 : mX σ1 S rf ly := hX.fr fσ1 rfl
  refine Exists.intro (nI 0) (And.intro rfl ?_)
  exact l_pa1 g hl hp _ 0 (s_at S p, q_ll S rf ly p (s_at S p) (s_at S p)) _ rfl (by omega) hap hf_σ1 hX_σ1

