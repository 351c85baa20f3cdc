/-! THE REFERENCE: MOST, offers of rings -/
/-- marks stand; the best of lesser sets stand -/
def mK (σ : qx_S) (can : Nat → Nat → Nat → Bool) (gn : Nat → Nat → Int32) (pe k : Nat) : Prop := qx_mi σ 207 1 = nI pe ∧ (∀ a b, a < pe → b < pe → a ≠ b → qx_mi σ 213 (10 * a + b) = gn a b) ∧ ∀ n a b, 2 ≤ n → n ≤ k → a < pe → b < pe → a ≠ b → qx_mi σ 212 (100 * n + 10 * a + b) = bI (can n a b)
theorem mK.fr {σ σ' : qx_S} {can : Nat → Nat → Nat → Bool} {gn : Nat → Nat → Int32} {pe k : Nat} {l : List (Nat × Option Nat)} (h : mK σ can gn pe k) (hf : ql l σ σ') (h1 : ∀ j, pL l 207 j = false) (h2 : ∀ j, pL l 212 j = false) (h3 : ∀ j, pL l 213 j = false) : mK σ' can gn pe k :=
  ⟨(hf.i _ _ (h1 _)).trans h.1, fun a b y1 y2 y3 => (hf.i _ _ (h3 _)).trans (h.2.1 a b y1 y2 y3), fun n a b y1 y2 y3 y4 y5 => (hf.i _ _ (h2 _)).trans (h.2.2 n a b y1 y2 y3 y4 y5)⟩
def mD (σ : qx_S) (D : Nat → q_T3) (N : Nat) : Prop := ∀ i, i < N → qx_mi σ 214 i = (D i).1 ∧ qx_mi σ 215 i = nI (D i).2.1 ∧ (D i).2.1 ≤ 4 * i
theorem mD.fr {σ σ' : qx_S} {D : Nat → q_T3} {N : Nat} {l : List (Nat × Option Nat)} (h : mD σ D N) (hf : ql l σ σ') (h1 : ∀ j, pL l 214 j = false) (h2 : ∀ j, pL l 215 j = false) : mD σ' D N := fun i hi => ⟨(hf.i _ _ (h1 _)).trans (h i hi).1, (hf.i _ _ (h2 _)).trans (h i hi).2.1, (h i hi).2.2⟩
theorem l_offersFour {G : qx_G} {σ0 : qx_S} {can : Nat → Nat → Nat → Bool} {gn : Nat → Nat → Int32} {pe k : Nat} (hpe : pe ≤ 10) (hk : 4 ≤ k) {D : Nat → q_T3} {set p b c : Nat} (hs : set < 1024) (hsp : set.testBit p = true) (hp : p < pe) (hb : b < pe) (hc : c < pe) (hpb : p < b) (hpc : p < c) (hbc : c ≠ b) : ∀ (m d : Nat) (σ : qx_S) (bs : q_T3), m = pe - d → p < d → d ≤ pe → ql lB σ0 σ → mK σ can gn pe k → mD σ D set → mB σ bs → bs.2.1 ≤ 4 * set ∧ bs.2.2 < 32768 →
    qx_K G qc_T 1 RX12 YX12_offersFour 5 [.ref 197, .int (nI set), .int (nI p), .int (nI b), .int (nI c), .int (nI d)] [] σ (fun r s => r = none ∧ ql lB σ0 s ∧ mB s ((q_o4 can gn set p b c (pe - d) d).foldl (q_of1 D set) bs)) := by
  intro m
  induction m using Nat.strongRecOn with
  | _ m ih =>
    intro d σ bs hm hpd hd hf hK hD hB hbb
    rcases Nat.lt_or_ge d pe with hlt | hge
    · have e1 : pe - d = (pe - (d + 1)) + 1 := by omega
      have nx : (set.testBit d && !decide (d = b) && !decide (d = c) && can 4 p b && can 4 b c && can 4 c d && can 4 d p) = false → ∀ s, ql lB σ0 s → mK s can gn pe k → mD s D set → mB s bs → qx_K G qc_T 1 RX12 YX12_offersFour 5 [.ref 197, .int (nI set), .int (nI p), .int (nI b), .int (nI c), .int (nI (d + 1))] [] s (fun r s => r = none ∧ ql lB σ0 s ∧ mB s ((q_o4 can gn set p b c (pe - d) d).foldl (q_of1 D set) bs)) := by
        intro z s y1 y2 y3 y4
        rw [e1, show q_o4 can gn set p b c (pe - (d + 1) + 1) d = q_o4 can gn set p b c (pe - (d + 1)) (d + 1) from if_neg (by rw [z]; decide)]
        exact ih _ (by omega) (d + 1) s bs rfl (by omega) (by omega) y1 y2 y3 y4 hbb
      have ho : q_ob set (2 ^ p ||| 2 ^ b ||| 2 ^ c ||| 2 ^ d, gn p b + gn b c + gn c d + gn d p, 4, 4 + 8 * b + 128 * c + 2048 * d) := by
        refine ⟨q_wo_lt hsp ?_, Nat.le_refl _, ?_⟩
        · show (2 ^ p ||| 2 ^ b ||| 2 ^ c ||| 2 ^ d).testBit p = true
          rw [Nat.or_assoc, Nat.or_assoc]
          exact q_2p
        · show 4 + 8 * b + 128 * c + 2048 * d < 32768
          omega
      have ho1 := ho.1
      refine qy_wp_ok (c := CX12_offersFour) (cuts := [5]) vX12_offersFour wX12_offersFour 2000 5 _ _ _ ?_
      refine And.intro rfl (Exists.intro 207 (And.intro rfl ?_))
      refine Exists.intro (nI 1) (And.intro rfl ?_)
      refine Exists.intro (1) (Exists.intro (nI pe) (And.intro rfl (And.intro ⟨2788, rfl, by decide, by decide⟩ (And.intro (hK.1) ?_))))
      refine And.intro (fun h13 => ?_) (fun h13 => ?_)
      · skip
        have h13 := nI_leT (a := pe) (b := d) (by omega) (by omega) h13
        exact absurd h13 (by omega)
      · skip
        have h13 := nI_leF (a := pe) (b := d) (by omega) (by omega) h13
        refine Exists.intro _ (And.intro (by decide) (qx_M_mono (m_isOf (s := set) (k := d) (by omega) (by omega)) ?_))
        rintro _ _ ⟨rfl, rfl⟩
        refine And.intro (fun h22 => ?_) (fun h22 => ?_)
        · skip
          have h22 := bI_f h22
          refine Exists.intro (nI (d + 1)) (And.intro (nI_add _ _) ?_)
          first | exact nx (by rw [h22]; rfl) _ hf hK hD hB | exact nx (by rw [h22, decide_eq_true h28]; rfl) _ hf hK hD hB | exact nx (by rw [h22, decide_eq_false h28, decide_eq_true h35]; rfl) _ hf hK hD hB | exact nx (by rw [h22, decide_eq_false h28, decide_eq_false h35, h48]; rfl) _ hf hK hD hB | exact nx (by rw [h22, decide_eq_false h28, decide_eq_false h35, h48, h59]; rfl) _ hf hK hD hB | exact nx (by rw [h22, decide_eq_false h28, decide_eq_false h35, h48, h59, h71]; rfl) _ hf hK hD hB | exact nx (by rw [h22, decide_eq_false h28, decide_eq_false h35, h48, h59, h71, h82]; rfl) _ hf hK hD hB | (rw [e1, show q_o4 can gn set p b c (pe - (d + 1) + 1) d = (2 ^ p ||| 2 ^ b ||| 2 ^ c ||| 2 ^ d, gn p b + gn b c + gn c d + gn d p, 4, 4 + 8 * b + 128 * c + 2048 * d) :: q_o4 can gn set p b c (pe - (d + 1)) (d + 1) from if_pos (by rw [h22, decide_eq_false h28, decide_eq_false h35, h48, h59, h71, h82]; rfl)]; exact ih _ (by omega) (d + 1) _ _ rfl (by omega) (by omega) hf hK hD gσ1 (q_of1_b (fun i hi => (hD i hi).2.2) hbb ho))
        · skip
          have h22 := bI_t h22
          refine And.intro (fun h28 => ?_) (fun h28 => ?_)
          · skip
            have h28 := nI_eqT (a := d) (b := b) (by omega) (by omega) h28
            refine Exists.intro (nI (d + 1)) (And.intro (nI_add _ _) ?_)
            first | exact nx (by rw [h22]; rfl) _ hf hK hD hB | exact nx (by rw [h22, decide_eq_true h28]; rfl) _ hf hK hD hB | exact nx (by rw [h22, decide_eq_false h28, decide_eq_true h35]; rfl) _ hf hK hD hB | exact nx (by rw [h22, decide_eq_false h28, decide_eq_false h35, h48]; rfl) _ hf hK hD hB | exact nx (by rw [h22, decide_eq_false h28, decide_eq_false h35, h48, h59]; rfl) _ hf hK hD hB | exact nx (by rw [h22, decide_eq_false h28, decide_eq_false h35, h48, h59, h71]; rfl) _ hf hK hD hB | exact nx (by rw [h22, decide_eq_false h28, decide_eq_false h35, h48, h59, h71, h82]; rfl) _ hf hK hD hB | (rw [e1, show q_o4 can gn set p b c (pe - (d + 1) + 1) d = (2 ^ p ||| 2 ^ b ||| 2 ^ c ||| 2 ^ d, gn p b + gn b c + gn c d + gn d p, 4, 4 + 8 * b + 128 * c + 2048 * d) :: q_o4 can gn set p b c (pe - (d + 1)) (d + 1) from if_pos (by rw [h22, decide_eq_false h28, decide_eq_false h35, h48, h59, h71, h82]; rfl)]; exact ih _ (by omega) (d + 1) _ _ rfl (by omega) (by omega) hf hK hD gσ1 (q_of1_b (fun i hi => (hD i hi).2.2) hbb ho))
          · skip
            have h28 := nI_neT (a := d) (b := b) (by omega) (by omega) h28
            refine And.intro (fun h35 => ?_) (fun h35 => ?_)
            · skip
              have h35 := nI_neT (a := d) (b := c) (by omega) (by omega) h35
              refine Exists.intro (nI 4) (And.intro rfl ?_)
              refine And.intro rfl (Exists.intro _ (And.intro (by decide) (qx_M_mono (m_takes (v := can 4 p b) (by omega) (by omega) (by omega) (hK.2.2 4 p b (by omega) (by omega) (by omega) (by omega) (by omega))) ?_)))
              rintro _ _ ⟨rfl, rfl⟩
              refine And.intro (fun h48 => ?_) (fun h48 => ?_)
              · skip
                have h48 := bI_f h48
                refine Exists.intro (nI (d + 1)) (And.intro (nI_add _ _) ?_)
                first | exact nx (by rw [h22]; rfl) _ hf hK hD hB | exact nx (by rw [h22, decide_eq_true h28]; rfl) _ hf hK hD hB | exact nx (by rw [h22, decide_eq_false h28, decide_eq_true h35]; rfl) _ hf hK hD hB | exact nx (by rw [h22, decide_eq_false h28, decide_eq_false h35, h48]; rfl) _ hf hK hD hB | exact nx (by rw [h22, decide_eq_false h28, decide_eq_false h35, h48, h59]; rfl) _ hf hK hD hB | exact nx (by rw [h22, decide_eq_false h28, decide_eq_false h35, h48, h59, h71]; rfl) _ hf hK hD hB | exact nx (by rw [h22, decide_eq_false h28, decide_eq_false h35, h48, h59, h71, h82]; rfl) _ hf hK hD hB | (rw [e1, show q_o4 can gn set p b c (pe - (d + 1) + 1) d = (2 ^ p ||| 2 ^ b ||| 2 ^ c ||| 2 ^ d, gn p b + gn b c + gn c d + gn d p, 4, 4 + 8 * b + 128 * c + 2048 * d) :: q_o4 can gn set p b c (pe - (d + 1)) (d + 1) from if_pos (by rw [h22, decide_eq_false h28, decide_eq_false h35, h48, h59, h71, h82]; rfl)]; exact ih _ (by omega) (d + 1) _ _ rfl (by omega) (by omega) hf hK hD gσ1 (q_of1_b (fun i hi => (hD i hi).2.2) hbb ho))
              · skip
                have h48 := bI_t h48
                refine Exists.intro (nI 4) (And.intro rfl ?_)
                refine And.intro rfl (Exists.intro _ (And.intro (by decide) (qx_M_mono (m_takes (v := can 4 b c) (by omega) (by omega) (by omega) (hK.2.2 4 b c (by omega) (by omega) (by omega) (by omega) (by omega))) ?_)))
                rintro _ _ ⟨rfl, rfl⟩
                refine And.intro (fun h59 => ?_) (fun h59 => ?_)
                · skip
                  have h59 := bI_f h59
                  refine Exists.intro (nI (d + 1)) (And.intro (nI_add _ _) ?_)
                  first | exact nx (by rw [h22]; rfl) _ hf hK hD hB | exact nx (by rw [h22, decide_eq_true h28]; rfl) _ hf hK hD hB | exact nx (by rw [h22, decide_eq_false h28, decide_eq_true h35]; rfl) _ hf hK hD hB | exact nx (by rw [h22, decide_eq_false h28, decide_eq_false h35, h48]; rfl) _ hf hK hD hB | exact nx (by rw [h22, decide_eq_false h28, decide_eq_false h35, h48, h59]; rfl) _ hf hK hD hB | exact nx (by rw [h22, decide_eq_false h28, decide_eq_false h35, h48, h59, h71]; rfl) _ hf hK hD hB | exact nx (by rw [h22, decide_eq_false h28, decide_eq_false h35, h48, h59, h71, h82]; rfl) _ hf hK hD hB | (rw [e1, show q_o4 can gn set p b c (pe - (d + 1) + 1) d = (2 ^ p ||| 2 ^ b ||| 2 ^ c ||| 2 ^ d, gn p b + gn b c + gn c d + gn d p, 4, 4 + 8 * b + 128 * c + 2048 * d) :: q_o4 can gn set p b c (pe - (d + 1)) (d + 1) from if_pos (by rw [h22, decide_eq_false h28, decide_eq_false h35, h48, h59, h71, h82]; rfl)]; exact ih _ (by omega) (d + 1) _ _ rfl (by omega) (by omega) hf hK hD gσ1 (q_of1_b (fun i hi => (hD i hi).2.2) hbb ho))
                · skip
                  have h59 := bI_t h59
                  refine Exists.intro (nI 4) (And.intro rfl ?_)
                  refine And.intro rfl (Exists.intro _ (And.intro (by decide) (qx_M_mono (m_takes (v := can 4 c d) (by omega) (by omega) (by omega) (hK.2.2 4 c d (by omega) (by omega) (by omega) (by omega) (by omega))) ?_)))
                  rintro _ _ ⟨rfl, rfl⟩
                  refine And.intro (fun h71 => ?_) (fun h71 => ?_)
                  · skip
                    have h71 := bI_f h71
                    refine Exists.intro (nI (d + 1)) (And.intro (nI_add _ _) ?_)
                    first | exact nx (by rw [h22]; rfl) _ hf hK hD hB | exact nx (by rw [h22, decide_eq_true h28]; rfl) _ hf hK hD hB | exact nx (by rw [h22, decide_eq_false h28, decide_eq_true h35]; rfl) _ hf hK hD hB | exact nx (by rw [h22, decide_eq_false h28, decide_eq_false h35, h48]; rfl) _ hf hK hD hB | exact nx (by rw [h22, decide_eq_false h28, decide_eq_false h35, h48, h59]; rfl) _ hf hK hD hB | exact nx (by rw [h22, decide_eq_false h28, decide_eq_false h35, h48, h59, h71]; rfl) _ hf hK hD hB | exact nx (by rw [h22, decide_eq_false h28, decide_eq_false h35, h48, h59, h71, h82]; rfl) _ hf hK hD hB | (rw [e1, show q_o4 can gn set p b c (pe - (d + 1) + 1) d = (2 ^ p ||| 2 ^ b ||| 2 ^ c ||| 2 ^ d, gn p b + gn b c + gn c d + gn d p, 4, 4 + 8 * b + 128 * c + 2048 * d) :: q_o4 can gn set p b c (pe - (d + 1)) (d + 1) from if_pos (by rw [h22, decide_eq_false h28, decide_eq_false h35, h48, h59, h71, h82]; rfl)]; exact ih _ (by omega) (d + 1) _ _ rfl (by omega) (by omega) hf hK hD gσ1 (q_of1_b (fun i hi => (hD i hi).2.2) hbb ho))
                  · skip
                    have h71 := bI_t h71
                    refine Exists.intro (nI 4) (And.intro rfl ?_)
                    refine And.intro rfl (Exists.intro _ (And.intro (by decide) (qx_M_mono (m_takes (v := can 4 d p) (by omega) (by omega) (by omega) (hK.2.2 4 d p (by omega) (by omega) (by omega) (by omega) (by omega))) ?_)))
                    rintro _ _ ⟨rfl, rfl⟩
                    refine And.intro (fun h82 => ?_) (fun h82 => ?_)
                    · skip
                      have h82 := bI_f h82
                      refine Exists.intro (nI (d + 1)) (And.intro (nI_add _ _) ?_)
                      first | exact nx (by rw [h22]; rfl) _ hf hK hD hB | exact nx (by rw [h22, decide_eq_true h28]; rfl) _ hf hK hD hB | exact nx (by rw [h22, decide_eq_false h28, decide_eq_true h35]; rfl) _ hf hK hD hB | exact nx (by rw [h22, decide_eq_false h28, decide_eq_false h35, h48]; rfl) _ hf hK hD hB | exact nx (by rw [h22, decide_eq_false h28, decide_eq_false h35, h48, h59]; rfl) _ hf hK hD hB | exact nx (by rw [h22, decide_eq_false h28, decide_eq_false h35, h48, h59, h71]; rfl) _ hf hK hD hB | exact nx (by rw [h22, decide_eq_false h28, decide_eq_false h35, h48, h59, h71, h82]; rfl) _ hf hK hD hB | (rw [e1, show q_o4 can gn set p b c (pe - (d + 1) + 1) d = (2 ^ p ||| 2 ^ b ||| 2 ^ c ||| 2 ^ d, gn p b + gn b c + gn c d + gn d p, 4, 4 + 8 * b + 128 * c + 2048 * d) :: q_o4 can gn set p b c (pe - (d + 1)) (d + 1) from if_pos (by rw [h22, decide_eq_false h28, decide_eq_false h35, h48, h59, h71, h82]; rfl)]; exact ih _ (by omega) (d + 1) _ _ rfl (by omega) (by omega) hf hK hD gσ1 (q_of1_b (fun i hi => (hD i hi).2.2) hbb ho))
                    · skip
                      have h82 := bI_t h82
                      refine Exists.intro (nI 1) (And.intro rfl ?_)
                      refine Exists.intro (nI (2 ^ p)) (And.intro (nI_sh1 (by omega)) ?_)
                      refine Exists.intro (nI 1) (And.intro rfl ?_)
                      refine Exists.intro (nI (2 ^ b)) (And.intro (nI_sh1 (by omega)) ?_)
                      refine Exists.intro (nI ((2 ^ p) ||| (2 ^ b))) (And.intro (nI_or _ _) ?_)
                      refine Exists.intro (nI 1) (And.intro rfl ?_)
                      refine Exists.intro (nI (2 ^ c)) (And.intro (nI_sh1 (by omega)) ?_)
                      refine Exists.intro (nI (((2 ^ p) ||| (2 ^ b)) ||| (2 ^ c))) (And.intro (nI_or _ _) ?_)
                      refine Exists.intro (nI 1) (And.intro rfl ?_)
                      refine Exists.intro (nI (2 ^ d)) (And.intro (nI_sh1 (by omega)) ?_)
                      refine Exists.intro (nI ((((2 ^ p) ||| (2 ^ b)) ||| (2 ^ c)) ||| (2 ^ d))) (And.intro (nI_or _ _) ?_)
                      refine And.intro rfl (Exists.intro 213 (And.intro rfl ?_))
                      refine Exists.intro (nI 10) (And.intro rfl ?_)
                      refine Exists.intro (nI (10 * p)) (And.intro (pk_mul _ _) ?_)
                      refine Exists.intro (nI (10 * p + b)) (And.intro (nI_add _ _) ?_)
                      refine Exists.intro (10 * p + b) (Exists.intro (gn p b) (And.intro rfl (And.intro ⟨100, rfl, by omega, by decide⟩ (And.intro (hK.2.1 p b (by omega) (by omega) (by omega)) ?_))))
                      refine And.intro rfl (Exists.intro 213 (And.intro rfl ?_))
                      refine Exists.intro (nI 10) (And.intro rfl ?_)
                      refine Exists.intro (nI (10 * b)) (And.intro (pk_mul _ _) ?_)
                      refine Exists.intro (nI (10 * b + c)) (And.intro (nI_add _ _) ?_)
                      refine Exists.intro (10 * b + c) (Exists.intro (gn b c) (And.intro rfl (And.intro ⟨100, rfl, by omega, by decide⟩ (And.intro (hK.2.1 b c (by omega) (by omega) (by omega)) ?_))))
                      refine Exists.intro ((gn p b) + (gn b c)) (And.intro rfl ?_)
                      refine And.intro rfl (Exists.intro 213 (And.intro rfl ?_))
                      refine Exists.intro (nI 10) (And.intro rfl ?_)
                      refine Exists.intro (nI (10 * c)) (And.intro (pk_mul _ _) ?_)
                      refine Exists.intro (nI (10 * c + d)) (And.intro (nI_add _ _) ?_)
                      refine Exists.intro (10 * c + d) (Exists.intro (gn c d) (And.intro rfl (And.intro ⟨100, rfl, by omega, by decide⟩ (And.intro (hK.2.1 c d (by omega) (by omega) (by omega)) ?_))))
                      refine Exists.intro (((gn p b) + (gn b c)) + (gn c d)) (And.intro rfl ?_)
                      refine And.intro rfl (Exists.intro 213 (And.intro rfl ?_))
                      refine Exists.intro (nI 10) (And.intro rfl ?_)
                      refine Exists.intro (nI (10 * d)) (And.intro (pk_mul _ _) ?_)
                      refine Exists.intro (nI (10 * d + p)) (And.intro (nI_add _ _) ?_)
                      refine Exists.intro (10 * d + p) (Exists.intro (gn d p) (And.intro rfl (And.intro ⟨100, rfl, by omega, by decide⟩ (And.intro (hK.2.1 d p (by omega) (by omega) (by omega)) ?_))))
                      refine Exists.intro ((((gn p b) + (gn b c)) + (gn c d)) + (gn d p)) (And.intro rfl ?_)
                      refine Exists.intro (nI 4) (And.intro rfl ?_)
                      refine Exists.intro (nI 4) (And.intro rfl ?_)
                      refine Exists.intro (nI 8) (And.intro rfl ?_)
                      refine Exists.intro (nI (8 * b)) (And.intro (pk_mul _ _) ?_)
                      refine Exists.intro (nI (4 + 8 * b)) (And.intro (nI_add _ _) ?_)
                      refine Exists.intro (nI 128) (And.intro rfl ?_)
                      refine Exists.intro (nI (128 * c)) (And.intro (pk_mul _ _) ?_)
                      refine Exists.intro (nI (4 + 8 * b + 128 * c)) (And.intro (nI_add _ _) ?_)
                      refine Exists.intro (nI 2048) (And.intro rfl ?_)
                      refine Exists.intro (nI (2048 * d)) (And.intro (pk_mul _ _) ?_)
                      refine Exists.intro (nI (4 + 8 * b + 128 * c + 2048 * d)) (And.intro (nI_add _ _) ?_)
                      refine And.intro rfl (Exists.intro _ (And.intro (by decide) (qx_M_mono (m_offers (set := set) (inn := ((((2 ^ p) ||| (2 ^ b)) ||| (2 ^ c)) ||| (2 ^ d))) (gd := ((((gn p b) + (gn b c)) + (gn c d)) + (gn d p))) (n := 4) (num := (4 + 8 * b + 128 * c + 2048 * d)) (b := bs) hs (by omega) (hD _ ho1).1 (hD _ ho1).2.1 (Nat.le_trans (hD _ ho1).2.2 (by omega)) (by omega) hB) ?_)))
                      rintro _ σ1 ⟨rfl, fσ1, gσ1⟩
                      have hf_σ1 : ql lB σ0 σ1 := hf.tr (fσ1.mn rfl)
                      have hK_σ1 : mK σ1 can gn pe k := hK.fr fσ1 (fun _ => rfl) (fun _ => rfl) (fun _ => rfl)
                      have hD_σ1 : mD σ1 D set := hD.fr fσ1 (fun _ => rfl) (fun _ => rfl)
                      refine Exists.intro (nI (d + 1)) (And.intro (nI_add _ _) ?_)
                      first | exact nx (by rw [h22]; rfl) _ hf_σ1 hK_σ1 hD_σ1 hB | exact nx (by rw [h22, decide_eq_true h28]; rfl) _ hf_σ1 hK_σ1 hD_σ1 hB | exact nx (by rw [h22, decide_eq_false h28, decide_eq_true h35]; rfl) _ hf_σ1 hK_σ1 hD_σ1 hB | exact nx (by rw [h22, decide_eq_false h28, decide_eq_false h35, h48]; rfl) _ hf_σ1 hK_σ1 hD_σ1 hB | exact nx (by rw [h22, decide_eq_false h28, decide_eq_false h35, h48, h59]; rfl) _ hf_σ1 hK_σ1 hD_σ1 hB | exact nx (by rw [h22, decide_eq_false h28, decide_eq_false h35, h48, h59, h71]; rfl) _ hf_σ1 hK_σ1 hD_σ1 hB | exact nx (by rw [h22, decide_eq_false h28, decide_eq_false h35, h48, h59, h71, h82]; rfl) _ hf_σ1 hK_σ1 hD_σ1 hB | (rw [e1, show q_o4 can gn set p b c (pe - (d + 1) + 1) d = (2 ^ p ||| 2 ^ b ||| 2 ^ c ||| 2 ^ d, gn p b + gn b c + gn c d + gn d p, 4, 4 + 8 * b + 128 * c + 2048 * d) :: q_o4 can gn set p b c (pe - (d + 1)) (d + 1) from if_pos (by rw [h22, decide_eq_false h28, decide_eq_false h35, h48, h59, h71, h82]; rfl)]; exact ih _ (by omega) (d + 1) _ _ rfl (by omega) (by omega) hf_σ1 hK_σ1 hD_σ1 gσ1 (q_of1_b (fun i hi => (hD i hi).2.2) hbb ho))
            · skip
              have h35 := nI_eqT (a := d) (b := c) (by omega) (by omega) h35
              refine Exists.intro (nI (d + 1)) (And.intro (nI_add _ _) ?_)
              first | exact nx (by rw [h22]; rfl) _ hf hK hD hB | exact nx (by rw [h22, decide_eq_true h28]; rfl) _ hf hK hD hB | exact nx (by rw [h22, decide_eq_false h28, decide_eq_true h35]; rfl) _ hf hK hD hB | exact nx (by rw [h22, decide_eq_false h28, decide_eq_false h35, h48]; rfl) _ hf hK hD hB | exact nx (by rw [h22, decide_eq_false h28, decide_eq_false h35, h48, h59]; rfl) _ hf hK hD hB | exact nx (by rw [h22, decide_eq_false h28, decide_eq_false h35, h48, h59, h71]; rfl) _ hf hK hD hB | exact nx (by rw [h22, decide_eq_false h28, decide_eq_false h35, h48, h59, h71, h82]; rfl) _ hf hK hD hB | (rw [e1, show q_o4 can gn set p b c (pe - (d + 1) + 1) d = (2 ^ p ||| 2 ^ b ||| 2 ^ c ||| 2 ^ d, gn p b + gn b c + gn c d + gn d p, 4, 4 + 8 * b + 128 * c + 2048 * d) :: q_o4 can gn set p b c (pe - (d + 1)) (d + 1) from if_pos (by rw [h22, decide_eq_false h28, decide_eq_false h35, h48, h59, h71, h82]; rfl)]; exact ih _ (by omega) (d + 1) _ _ rfl (by omega) (by omega) hf hK hD gσ1 (q_of1_b (fun i hi => (hD i hi).2.2) hbb ho))
    · obtain rfl : d = pe := by omega
      rw [Nat.sub_self]
      refine qy_wp_ok (c := CX12_offersFour) (cuts := [5]) vX12_offersFour wX12_offersFour 2000 5 _ _ _ ?_
      refine And.intro rfl (Exists.intro 207 (And.intro rfl ?_))
      refine Exists.intro (nI 1) (And.intro rfl ?_)
      refine Exists.intro (1) (Exists.intro (nI d) (And.intro rfl (And.intro ⟨2788, rfl, by decide, by decide⟩ (And.intro (hK.1) ?_))))
      refine And.intro (fun h13 => ?_) (fun h13 => ?_)
      · skip
        have h13 := nI_leT (a := d) (b := d) (by omega) (by omega) h13
        exact ⟨rfl, hf, hB⟩
      · skip
        have h13 := nI_leF (a := d) (b := d) (by omega) (by omega) h13
        exact absurd h13 (by omega)
theorem m_offersFour {G : qx_G} {σ : qx_S} {can : Nat → Nat → Nat → Bool} {gn : Nat → Nat → Int32} {pe k : Nat} (hpe : pe ≤ 10) (hk : 4 ≤ k) {D : Nat → q_T3} {set p b c : Nat} (hs : set < 1024) (hsp : set.testBit p = true) (hp : p < pe) (hb : b < pe) (hc : c < pe) (hpb : p < b) (hpc : p < c) (hbc : c ≠ b) {bs : q_T3} (hK : mK σ can gn pe k) (hD : mD σ D set) (hB : mB σ bs) (hbb : bs.2.1 ≤ 4 * set ∧ bs.2.2 < 32768) : qx_M G qc_T 1 YX12_offersFour [.ref 197, .int (nI set), .int (nI p), .int (nI b), .int (nI c)] σ (fun r s => r = none ∧ ql lB σ s ∧ mB s ((q_o4 can gn set p b c (pe - (p + 1)) (p + 1)).foldl (q_of1 D set) bs)) := by
  have hf : ql lB σ σ := qf.rf
  refine qx_M_in rfl (Nat.le_of_ble_eq_true rfl) ?_
  refine qy_wp_ok (c := CX12_offersFour) (cuts := [5]) vX12_offersFour wX12_offersFour 2000 0 _ _ _ ?_
  refine Exists.intro (nI 1) (And.intro rfl ?_)
  refine Exists.intro (nI (p + 1)) (And.intro (nI_add _ _) ?_)
  exact l_offersFour hpe hk hs hsp hp hb hc hpb hpc hbc _ (p + 1) σ bs rfl (by omega) (by omega) qf.rf hK hD hB hbb
theorem l_offersFrom3 {G : qx_G} {σ0 : qx_S} {can : Nat → Nat → Nat → Bool} {gn : Nat → Nat → Int32} {pe k : Nat} (hpe : pe ≤ 10) (hk2 : 2 ≤ k) (hk4 : k ≤ 4) {D : Nat → q_T3} {set p b : Nat} (hs : set < 1024) (hsp : set.testBit p = true) (hp : p < pe) (hb : b < pe) (hpb : p < b) {Φ : qx_F} : ∀ (m c : Nat) (σ : qx_S) (bs : q_T3), m = pe - c → p < c → c ≤ pe → ql lB σ0 σ → mK σ can gn pe k → mD σ D set → mB σ bs → bs.2.1 ≤ 4 * set ∧ bs.2.2 < 32768 →
    (∀ s, ql lB σ0 s → mK s can gn pe k → mD s D set → mB s ((if 2 < k then q_o3 can gn pe k set p b (pe - c) c else []).foldl (q_of1 D set) bs) → qx_K G qc_T 2 RX12 YX12_offersFrom 263 [.ref 197, .int (nI set), .int (nI p), .int (nI k), .int (nI b), .retAddr 0] [] s Φ) →
    qx_K G qc_T 2 RX12 YX12_offersFrom 101 [.ref 197, .int (nI set), .int (nI p), .int (nI k), .int (nI b), .int (nI c)] [] σ Φ := by
  intro m
  induction m using Nat.strongRecOn with
  | _ m ih =>
    intro c σ bs hm hpc hc hf hK hD hB hbb hcont
    by_cases hk3 : 2 < k
    · rw [if_pos hk3] at hcont
      rcases Nat.lt_or_ge c pe with hlt | hge
      · have e1 : pe - c = (pe - (c + 1)) + 1 := by omega
        rw [e1] at hcont
        have ho : q_ob set (2 ^ p ||| 2 ^ b ||| 2 ^ c, gn p b + gn b c + gn c p, 3, 3 + 8 * b + 128 * c) := by
          refine ⟨q_wo_lt hsp ?_, by show (3 : Nat) ≤ 4; omega, ?_⟩
          · show (2 ^ p ||| 2 ^ b ||| 2 ^ c).testBit p = true
            rw [Nat.or_assoc]
            exact q_2p
          · show 3 + 8 * b + 128 * c < 32768
            omega
        have ho1 := ho.1
        have nx : (set.testBit c && !decide (c = b)) = false → ∀ s, ql lB σ0 s → mK s can gn pe k → mD s D set → mB s bs → qx_K G qc_T 2 RX12 YX12_offersFrom 101 [.ref 197, .int (nI set), .int (nI p), .int (nI k), .int (nI b), .int (nI (c + 1))] [] s Φ := by
          intro z s y1 y2 y3 y4
          rw [show q_o3 can gn pe k set p b (pe - (c + 1) + 1) c = q_o3 can gn pe k set p b (pe - (c + 1)) (c + 1) from if_neg (by rw [z]; decide)] at hcont
          exact ih _ (by omega) (c + 1) s bs rfl (by omega) (by omega) y1 y2 y3 y4 hbb (by rw [if_pos hk3]; exact hcont)
        -- behind the three
        have fo : (set.testBit c && !decide (c = b)) = true → ∀ s bs1, ql lB σ0 s → mK s can gn pe k → mD s D set → mB s bs1 → bs1.2.1 ≤ 4 * set ∧ bs1.2.2 < 32768 → bs1 = (if (can 3 p b && can 3 b c && can 3 c p) = true then [(2 ^ p ||| 2 ^ b ||| 2 ^ c, gn p b + gn b c + gn c p, 3, 3 + 8 * b + 128 * c)] else []).foldl (q_of1 D set) bs → qx_K G qc_T 2 RX12 YX12_offersFrom 242 [.ref 197, .int (nI set), .int (nI p), .int (nI k), .int (nI b), .int (nI c)] [] s Φ := by
          intro z s bs1 hf hK hD hB hbb1 hbs
          have hcb : c ≠ b := by
            intro e
            rw [decide_eq_true e] at z
            simp at z
          rw [show q_o3 can gn pe k set p b (pe - (c + 1) + 1) c = ((if (can 3 p b && can 3 b c && can 3 c p) = true then [(2 ^ p ||| 2 ^ b ||| 2 ^ c, gn p b + gn b c + gn c p, 3, 3 + 8 * b + 128 * c)] else []) ++ (if 3 < k then q_o4 can gn set p b c (pe - (p + 1)) (p + 1) else [])) ++ q_o3 can gn pe k set p b (pe - (c + 1)) (c + 1) from if_pos z, List.foldl_append, List.foldl_append, ← hbs] at hcont
          by_cases hk5 : 3 < k
          · rw [if_pos hk5] at hcont
            refine qy_wp_ok (c := CX12_offersFrom) (cuts := [101]) vX12_offersFrom wX12_offersFrom 2000 242 _ _ _ ?_
            refine Exists.intro (nI 3) (And.intro rfl ?_)
            refine And.intro (fun h244 => ?_) (fun h244 => ?_)
            · skip
              have h244 := nI_leT (a := k) (b := 3) (by omega) (by decide) h244
              exact absurd h244 (by omega)
            · skip
              have h244 := nI_leF (a := k) (b := 3) (by omega) (by decide) h244
              refine And.intro rfl (Exists.intro _ (And.intro (by decide) (qx_M_mono (m_offersFour hpe (by omega) hs hsp hp hb hlt hpb hpc hcb hK hD hB hbb1) ?_)))
              rintro _ σ1 ⟨rfl, fσ1, gσ1⟩
              have hf_σ1 : ql lB σ0 σ1 := hf.tr (fσ1.mn rfl)
              have hK_σ1 : mK σ1 can gn pe k := hK.fr fσ1 (fun _ => rfl) (fun _ => rfl) (fun _ => rfl)
              have hD_σ1 : mD σ1 D set := hD.fr fσ1 (fun _ => rfl) (fun _ => rfl)
              refine Exists.intro (nI (c + 1)) (And.intro (nI_add _ _) ?_)
              exact ih _ (by omega) (c + 1) _ _ rfl (by omega) (by omega) hf_σ1 hK_σ1 hD_σ1 gσ1 (q_fold_b (fun i hi => (hD i hi).2.2) _ _ (q_o4_b hsp (by omega) (by omega) _ _ (by omega)) hbb1) (by rw [if_pos hk3]; exact hcont)
          · rw [if_neg hk5] at hcont
            refine qy_wp_ok (c := CX12_offersFrom) (cuts := [101]) vX12_offersFrom wX12_offersFrom 2000 242 _ _ _ ?_
            refine Exists.intro (nI 3) (And.intro rfl ?_)
            refine And.intro (fun h244 => ?_) (fun h244 => ?_)
            · skip
              have h244 := nI_leT (a := k) (b := 3) (by omega) (by decide) h244
              refine Exists.intro (nI (c + 1)) (And.intro (nI_add _ _) ?_)
              exact ih _ (by omega) (c + 1) _ _ rfl (by omega) (by omega) hf hK hD hB hbb1 (by rw [if_pos hk3]; exact hcont)
            · skip
              have h244 := nI_leF (a := k) (b := 3) (by omega) (by decide) h244
              exact absurd h244 (by omega)
        refine qy_wp_ok (c := CX12_offersFrom) (cuts := [101, 242, 263]) vX12_offersFrom wX12_offersFrom 2000 101 _ _ _ ?_
        refine And.intro rfl (Exists.intro 207 (And.intro rfl ?_))
        refine Exists.intro (nI 1) (And.intro rfl ?_)
        refine Exists.intro (1) (Exists.intro (nI pe) (And.intro rfl (And.intro ⟨2788, rfl, by decide, by decide⟩ (And.intro (hK.1) ?_))))
        refine And.intro (fun h109 => ?_) (fun h109 => ?_)
        · skip
          have h109 := nI_leT (a := pe) (b := c) (by omega) (by omega) h109
          exact absurd h109 (by omega)
        · skip
          have h109 := nI_leF (a := pe) (b := c) (by omega) (by omega) h109
          refine Exists.intro (nI 2) (And.intro rfl ?_)
          refine And.intro (fun h114 => ?_) (fun h114 => ?_)
          · skip
            have h114 := nI_leT (a := k) (b := 2) (by omega) (by decide) h114
            exact absurd h114 (by omega)
          · skip
            have h114 := nI_leF (a := k) (b := 2) (by omega) (by decide) h114
            refine Exists.intro _ (And.intro (by decide) (qx_M_mono (m_isOf (s := set) (k := c) (by omega) (by omega)) ?_))
            rintro _ _ ⟨rfl, rfl⟩
            refine And.intro (fun h123 => ?_) (fun h123 => ?_)
            · skip
              have h123 := bI_f h123
              refine Exists.intro (nI (c + 1)) (And.intro (nI_add _ _) ?_)
              first | exact nx (by rw [h123]; rfl) _ hf hK hD hB | exact nx (by rw [h123, decide_eq_true h130]; rfl) _ hf hK hD hB
            · skip
              have h123 := bI_t h123
              refine And.intro (fun h130 => ?_) (fun h130 => ?_)
              · skip
                have h130 := nI_neT (a := c) (b := b) (by omega) (by omega) h130
                refine Exists.intro (nI 3) (And.intro rfl ?_)
                refine And.intro rfl (Exists.intro _ (And.intro (by decide) (qx_M_mono (m_takes (v := can 3 p b) (by omega) (by omega) (by omega) (hK.2.2 3 p b (by omega) (by omega) (by omega) (by omega) (by omega))) ?_)))
                rintro _ _ ⟨rfl, rfl⟩
                refine And.intro (fun h144 => ?_) (fun h144 => ?_)
                · skip
                  have h144 := bI_f h144
                  have hz : (set.testBit c && !decide (c = b)) = true := by rw [h123, decide_eq_false h130]; rfl
                  first | exact fo hz _ bs hf hK hD hB hbb (by rw [if_neg (by rw [h144]; exact Bool.false_ne_true)]; rfl) | exact fo hz _ bs hf hK hD hB hbb (by rw [if_neg (by rw [h144, h156]; exact Bool.false_ne_true)]; rfl) | exact fo hz _ bs hf hK hD hB hbb (by rw [if_neg (by rw [h144, h156, h167]; exact Bool.false_ne_true)]; rfl) | exact fo hz _ _ hf hK hD gσ1 (q_of1_b (fun i hi => (hD i hi).2.2) hbb ho) (by rw [if_pos (by rw [h144, h156, h167]; rfl)]; rfl)
                · skip
                  have h144 := bI_t h144
                  refine Exists.intro (nI 3) (And.intro rfl ?_)
                  refine And.intro rfl (Exists.intro _ (And.intro (by decide) (qx_M_mono (m_takes (v := can 3 b c) (by omega) (by omega) (by omega) (hK.2.2 3 b c (by omega) (by omega) (by omega) (by omega) (by omega))) ?_)))
                  rintro _ _ ⟨rfl, rfl⟩
                  refine And.intro (fun h156 => ?_) (fun h156 => ?_)
                  · skip
                    have h156 := bI_f h156
                    have hz : (set.testBit c && !decide (c = b)) = true := by rw [h123, decide_eq_false h130]; rfl
                    first | exact fo hz _ bs hf hK hD hB hbb (by rw [if_neg (by rw [h144]; exact Bool.false_ne_true)]; rfl) | exact fo hz _ bs hf hK hD hB hbb (by rw [if_neg (by rw [h144, h156]; exact Bool.false_ne_true)]; rfl) | exact fo hz _ bs hf hK hD hB hbb (by rw [if_neg (by rw [h144, h156, h167]; exact Bool.false_ne_true)]; rfl) | exact fo hz _ _ hf hK hD gσ1 (q_of1_b (fun i hi => (hD i hi).2.2) hbb ho) (by rw [if_pos (by rw [h144, h156, h167]; rfl)]; rfl)
                  · skip
                    have h156 := bI_t h156
                    refine Exists.intro (nI 3) (And.intro rfl ?_)
                    refine And.intro rfl (Exists.intro _ (And.intro (by decide) (qx_M_mono (m_takes (v := can 3 c p) (by omega) (by omega) (by omega) (hK.2.2 3 c p (by omega) (by omega) (by omega) (by omega) (by omega))) ?_)))
                    rintro _ _ ⟨rfl, rfl⟩
                    refine And.intro (fun h167 => ?_) (fun h167 => ?_)
                    · skip
                      have h167 := bI_f h167
                      have hz : (set.testBit c && !decide (c = b)) = true := by rw [h123, decide_eq_false h130]; rfl
                      first | exact fo hz _ bs hf hK hD hB hbb (by rw [if_neg (by rw [h144]; exact Bool.false_ne_true)]; rfl) | exact fo hz _ bs hf hK hD hB hbb (by rw [if_neg (by rw [h144, h156]; exact Bool.false_ne_true)]; rfl) | exact fo hz _ bs hf hK hD hB hbb (by rw [if_neg (by rw [h144, h156, h167]; exact Bool.false_ne_true)]; rfl) | exact fo hz _ _ hf hK hD gσ1 (q_of1_b (fun i hi => (hD i hi).2.2) hbb ho) (by rw [if_pos (by rw [h144, h156, h167]; rfl)]; rfl)
                    · skip
                      have h167 := bI_t h167
                      refine Exists.intro (nI 1) (And.intro rfl ?_)
                      refine Exists.intro (nI (2 ^ p)) (And.intro (nI_sh1 (by omega)) ?_)
                      refine Exists.intro (nI 1) (And.intro rfl ?_)
                      refine Exists.intro (nI (2 ^ b)) (And.intro (nI_sh1 (by omega)) ?_)
                      refine Exists.intro (nI ((2 ^ p) ||| (2 ^ b))) (And.intro (nI_or _ _) ?_)
                      refine Exists.intro (nI 1) (And.intro rfl ?_)
                      refine Exists.intro (nI (2 ^ c)) (And.intro (nI_sh1 (by omega)) ?_)
                      refine Exists.intro (nI (((2 ^ p) ||| (2 ^ b)) ||| (2 ^ c))) (And.intro (nI_or _ _) ?_)
                      refine And.intro rfl (Exists.intro 213 (And.intro rfl ?_))
                      refine Exists.intro (nI 10) (And.intro rfl ?_)
                      refine Exists.intro (nI (10 * p)) (And.intro (pk_mul _ _) ?_)
                      refine Exists.intro (nI (10 * p + b)) (And.intro (nI_add _ _) ?_)
                      refine Exists.intro (10 * p + b) (Exists.intro (gn p b) (And.intro rfl (And.intro ⟨100, rfl, by omega, by decide⟩ (And.intro (hK.2.1 p b (by omega) (by omega) (by omega)) ?_))))
                      refine And.intro rfl (Exists.intro 213 (And.intro rfl ?_))
                      refine Exists.intro (nI 10) (And.intro rfl ?_)
                      refine Exists.intro (nI (10 * b)) (And.intro (pk_mul _ _) ?_)
                      refine Exists.intro (nI (10 * b + c)) (And.intro (nI_add _ _) ?_)
                      refine Exists.intro (10 * b + c) (Exists.intro (gn b c) (And.intro rfl (And.intro ⟨100, rfl, by omega, by decide⟩ (And.intro (hK.2.1 b c (by omega) (by omega) (by omega)) ?_))))
                      refine Exists.intro ((gn p b) + (gn b c)) (And.intro rfl ?_)
                      refine And.intro rfl (Exists.intro 213 (And.intro rfl ?_))
                      refine Exists.intro (nI 10) (And.intro rfl ?_)
                      refine Exists.intro (nI (10 * c)) (And.intro (pk_mul _ _) ?_)
                      refine Exists.intro (nI (10 * c + p)) (And.intro (nI_add _ _) ?_)
                      refine Exists.intro (10 * c + p) (Exists.intro (gn c p) (And.intro rfl (And.intro ⟨100, rfl, by omega, by decide⟩ (And.intro (hK.2.1 c p (by omega) (by omega) (by omega)) ?_))))
                      refine Exists.intro (((gn p b) + (gn b c)) + (gn c p)) (And.intro rfl ?_)
                      refine Exists.intro (nI 3) (And.intro rfl ?_)
                      refine Exists.intro (nI 3) (And.intro rfl ?_)
                      refine Exists.intro (nI 8) (And.intro rfl ?_)
                      refine Exists.intro (nI (8 * b)) (And.intro (pk_mul _ _) ?_)
                      refine Exists.intro (nI (3 + 8 * b)) (And.intro (nI_add _ _) ?_)
                      refine Exists.intro (nI 128) (And.intro rfl ?_)
                      refine Exists.intro (nI (128 * c)) (And.intro (pk_mul _ _) ?_)
                      refine Exists.intro (nI (3 + 8 * b + 128 * c)) (And.intro (nI_add _ _) ?_)
                      refine And.intro rfl (Exists.intro _ (And.intro (by decide) (qx_M_mono (m_offers (set := set) (inn := (((2 ^ p) ||| (2 ^ b)) ||| (2 ^ c))) (gd := (((gn p b) + (gn b c)) + (gn c p))) (n := 3) (num := (3 + 8 * b + 128 * c)) (b := bs) hs (by omega) (hD _ ho1).1 (hD _ ho1).2.1 (Nat.le_trans (hD _ ho1).2.2 (by omega)) (by omega) hB) ?_)))
                      rintro _ σ1 ⟨rfl, fσ1, gσ1⟩
                      have hf_σ1 : ql lB σ0 σ1 := hf.tr (fσ1.mn rfl)
                      have hK_σ1 : mK σ1 can gn pe k := hK.fr fσ1 (fun _ => rfl) (fun _ => rfl) (fun _ => rfl)
                      have hD_σ1 : mD σ1 D set := hD.fr fσ1 (fun _ => rfl) (fun _ => rfl)
                      have hz : (set.testBit c && !decide (c = b)) = true := by rw [h123, decide_eq_false h130]; rfl
                      first | exact fo hz _ bs hf_σ1 hK_σ1 hD_σ1 hB hbb (by rw [if_neg (by rw [h144]; exact Bool.false_ne_true)]; rfl) | exact fo hz _ bs hf_σ1 hK_σ1 hD_σ1 hB hbb (by rw [if_neg (by rw [h144, h156]; exact Bool.false_ne_true)]; rfl) | exact fo hz _ bs hf_σ1 hK_σ1 hD_σ1 hB hbb (by rw [if_neg (by rw [h144, h156, h167]; exact Bool.false_ne_true)]; rfl) | exact fo hz _ _ hf_σ1 hK_σ1 hD_σ1 gσ1 (q_of1_b (fun i hi => (hD i hi).2.2) hbb ho) (by rw [if_pos (by rw [h144, h156, h167]; rfl)]; rfl)
              · skip
                have h130 := nI_eqT (a := c) (b := b) (by omega) (by omega) h130
                refine Exists.intro (nI (c + 1)) (And.intro (nI_add _ _) ?_)
                first | exact nx (by rw [h123]; rfl) _ hf hK hD hB | exact nx (by rw [h123, decide_eq_true h130]; rfl) _ hf hK hD hB
      · obtain rfl : c = pe := by omega
        rw [Nat.sub_self] at hcont
        refine qy_wp_ok (c := CX12_offersFrom) (cuts := [101, 242, 263]) vX12_offersFrom wX12_offersFrom 2000 101 _ _ _ ?_
        refine And.intro rfl (Exists.intro 207 (And.intro rfl ?_))
        refine Exists.intro (nI 1) (And.intro rfl ?_)
        refine Exists.intro (1) (Exists.intro (nI c) (And.intro rfl (And.intro ⟨2788, rfl, by decide, by decide⟩ (And.intro (hK.1) ?_))))
        refine And.intro (fun h109 => ?_) (fun h109 => ?_)
        · skip
          have h109 := nI_leT (a := c) (b := c) (by omega) (by omega) h109
          refine qx_K_le (ls := [.ref 197, .int (nI set), .int (nI p), .int (nI k), .int (nI b), .retAddr 0]) ⟨Or.inr rfl, Or.inr rfl, Or.inr rfl, Or.inr rfl, Or.inr rfl, Or.inl rfl, trivial⟩ ?_
          exact hcont _ hf hK hD hB
        · skip
          have h109 := nI_leF (a := c) (b := c) (by omega) (by omega) h109
          exact absurd h109 (by omega)
    · rw [if_neg hk3] at hcont
      refine qy_wp_ok (c := CX12_offersFrom) (cuts := [101, 242, 263]) vX12_offersFrom wX12_offersFrom 2000 101 _ _ _ ?_
      refine And.intro rfl (Exists.intro 207 (And.intro rfl ?_))
      refine Exists.intro (nI 1) (And.intro rfl ?_)
      refine Exists.intro (1) (Exists.intro (nI pe) (And.intro rfl (And.intro ⟨2788, rfl, by decide, by decide⟩ (And.intro (hK.1) ?_))))
      refine And.intro (fun h109 => ?_) (fun h109 => ?_)
      · skip
        have h109 := nI_leT (a := pe) (b := c) (by omega) (by omega) h109
        refine qx_K_le (ls := [.ref 197, .int (nI set), .int (nI p), .int (nI k), .int (nI b), .retAddr 0]) ⟨Or.inr rfl, Or.inr rfl, Or.inr rfl, Or.inr rfl, Or.inr rfl, Or.inl rfl, trivial⟩ ?_
        exact hcont _ hf hK hD hB
      · skip
        have h109 := nI_leF (a := pe) (b := c) (by omega) (by omega) h109
        refine Exists.intro (nI 2) (And.intro rfl ?_)
        refine And.intro (fun h114 => ?_) (fun h114 => ?_)
        · skip
          have h114 := nI_leT (a := k) (b := 2) (by omega) (by decide) h114
          refine qx_K_le (ls := [.ref 197, .int (nI set), .int (nI p), .int (nI k), .int (nI b), .retAddr 0]) ⟨Or.inr rfl, Or.inr rfl, Or.inr rfl, Or.inr rfl, Or.inr rfl, Or.inl rfl, trivial⟩ ?_
          exact hcont _ hf hK hD hB
        · skip
          have h114 := nI_leF (a := k) (b := 2) (by omega) (by decide) h114
          exact absurd h114 (by omega)
theorem l_offersFrom2 {G : qx_G} {σ0 : qx_S} {can : Nat → Nat → Nat → Bool} {gn : Nat → Nat → Int32} {pe k : Nat} (hpe : pe ≤ 10) (hk2 : 2 ≤ k) (hk4 : k ≤ 4) {D : Nat → q_T3} {set p : Nat} (hs : set < 1024) (hsp : set.testBit p = true) (hp : p < pe) : ∀ (m b : Nat) (σ : qx_S) (bs : q_T3), m = pe - b → p < b → b ≤ pe → ql lB σ0 σ → mK σ can gn pe k → mD σ D set → mB σ bs → bs.2.1 ≤ 4 * set ∧ bs.2.2 < 32768 →
    qx_K G qc_T 2 RX12 YX12_offersFrom 5 [.ref 197, .int (nI set), .int (nI p), .int (nI k), .int (nI b), .retAddr 0] [] σ (fun r s => r = none ∧ ql lB σ0 s ∧ mB s ((q_o2 can gn pe k set p (pe - b) b).foldl (q_of1 D set) bs)) := by
  intro m
  induction m using Nat.strongRecOn with
  | _ m ih =>
    intro b σ bs hm hpb hb hf hK hD hB hbb
    rcases Nat.lt_or_ge b pe with hlt | hge
    · have e1 : pe - b = (pe - (b + 1)) + 1 := by omega
      have ho : q_ob set (2 ^ p ||| 2 ^ b, gn p b + gn b p, 2, 2 + 8 * b) := ⟨q_wo_lt hsp q_2p, by show (2 : Nat) ≤ 4; omega, by show 2 + 8 * b < 32768; omega⟩
      have ho1 := ho.1
      rw [e1]
      have nx : set.testBit b = false → ∀ s, ql lB σ0 s → mK s can gn pe k → mD s D set → mB s bs → qx_K G qc_T 2 RX12 YX12_offersFrom 5 [.ref 197, .int (nI set), .int (nI p), .int (nI k), .int (nI (b + 1)), .retAddr 0] [] s (fun r s => r = none ∧ ql lB σ0 s ∧ mB s ((q_o2 can gn pe k set p (pe - (b + 1) + 1) b).foldl (q_of1 D set) bs)) := by
        intro z s y1 y2 y3 y4
        rw [show q_o2 can gn pe k set p (pe - (b + 1) + 1) b = q_o2 can gn pe k set p (pe - (b + 1)) (b + 1) from if_neg (by rw [z]; decide)]
        exact ih _ (by omega) (b + 1) s bs rfl (by omega) (by omega) y1 y2 y3 y4 hbb
      have fo : set.testBit b = true → ∀ s bs1, ql lB σ0 s → mK s can gn pe k → mD s D set → mB s bs1 → bs1.2.1 ≤ 4 * set ∧ bs1.2.2 < 32768 → bs1 = (if (can 2 p b && can 2 b p) = true then [(2 ^ p ||| 2 ^ b, gn p b + gn b p, 2, 2 + 8 * b)] else []).foldl (q_of1 D set) bs → qx_K G qc_T 2 RX12 YX12_offersFrom 96 [.ref 197, .int (nI set), .int (nI p), .int (nI k), .int (nI b), .retAddr 0] [] s (fun r s => r = none ∧ ql lB σ0 s ∧ mB s ((q_o2 can gn pe k set p (pe - (b + 1) + 1) b).foldl (q_of1 D set) bs)) := by
        intro z s bs1 hf hK hD hB hbb1 hbs
        rw [show q_o2 can gn pe k set p (pe - (b + 1) + 1) b = ((if (can 2 p b && can 2 b p) = true then [(2 ^ p ||| 2 ^ b, gn p b + gn b p, 2, 2 + 8 * b)] else []) ++ (if 2 < k then q_o3 can gn pe k set p b (pe - (p + 1)) (p + 1) else [])) ++ q_o2 can gn pe k set p (pe - (b + 1)) (b + 1) from if_pos z, List.foldl_append, List.foldl_append, ← hbs]
        refine qy_wp_ok (c := CX12_offersFrom) (cuts := [101]) vX12_offersFrom wX12_offersFrom 2000 96 _ _ _ ?_
        refine Exists.intro (nI 1) (And.intro rfl ?_)
        refine Exists.intro (nI (p + 1)) (And.intro (nI_add _ _) ?_)
        refine l_offersFrom3 hpe hk2 hk4 hs hsp hp hlt hpb _ (p + 1) s bs1 rfl (by omega) (by omega) hf hK hD hB hbb1 (fun s2 y1 y2 y3 y4 => ?_)
        refine qy_wp_ok (c := CX12_offersFrom) (cuts := [5]) vX12_offersFrom wX12_offersFrom 2000 263 _ _ _ ?_
        refine Exists.intro (nI (b + 1)) (And.intro (nI_add _ _) ?_)
        refine ih _ (by omega) (b + 1) s2 _ rfl (by omega) (by omega) y1 y2 y3 y4 (q_fold_b (fun i hi => (hD i hi).2.2) _ _ ?_ hbb1)
        split
        · exact q_o3_b hpe hp hsp (by omega) _ _ (by omega)
        · exact fun o h => absurd h List.not_mem_nil
      refine qy_wp_ok (c := CX12_offersFrom) (cuts := [5, 96]) vX12_offersFrom wX12_offersFrom 2000 5 _ _ _ ?_
      refine And.intro rfl (Exists.intro 207 (And.intro rfl ?_))
      refine Exists.intro (nI 1) (And.intro rfl ?_)
      refine Exists.intro (1) (Exists.intro (nI pe) (And.intro rfl (And.intro ⟨2788, rfl, by decide, by decide⟩ (And.intro (hK.1) ?_))))
      refine And.intro (fun h13 => ?_) (fun h13 => ?_)
      · skip
        have h13 := nI_leT (a := pe) (b := b) (by omega) (by omega) h13
        exact absurd h13 (by omega)
      · skip
        have h13 := nI_leF (a := pe) (b := b) (by omega) (by omega) h13
        refine Exists.intro _ (And.intro (by decide) (qx_M_mono (m_isOf (s := set) (k := b) (by omega) (by omega)) ?_))
        rintro _ _ ⟨rfl, rfl⟩
        refine And.intro (fun h22 => ?_) (fun h22 => ?_)
        · skip
          have h22 := bI_t h22
          refine Exists.intro (nI 2) (And.intro rfl ?_)
          refine And.intro rfl (Exists.intro _ (And.intro (by decide) (qx_M_mono (m_takes (v := can 2 p b) (by omega) (by omega) (by omega) (hK.2.2 2 p b (by omega) (by omega) (by omega) (by omega) (by omega))) ?_)))
          rintro _ _ ⟨rfl, rfl⟩
          refine And.intro (fun h36 => ?_) (fun h36 => ?_)
          · skip
            have h36 := bI_f h36
            first | exact fo h22 _ bs hf hK hD hB hbb (by rw [if_neg (by rw [h36]; exact Bool.false_ne_true)]; rfl) | exact fo h22 _ bs hf hK hD hB hbb (by rw [if_neg (by rw [h36, h47]; exact Bool.false_ne_true)]; rfl) | exact fo h22 _ _ hf hK hD gσ1 (q_of1_b (fun i hi => (hD i hi).2.2) hbb ho) (by rw [if_pos (by rw [h36, h47]; rfl)]; rfl)
          · skip
            have h36 := bI_t h36
            refine Exists.intro (nI 2) (And.intro rfl ?_)
            refine And.intro rfl (Exists.intro _ (And.intro (by decide) (qx_M_mono (m_takes (v := can 2 b p) (by omega) (by omega) (by omega) (hK.2.2 2 b p (by omega) (by omega) (by omega) (by omega) (by omega))) ?_)))
            rintro _ _ ⟨rfl, rfl⟩
            refine And.intro (fun h47 => ?_) (fun h47 => ?_)
            · skip
              have h47 := bI_f h47
              first | exact fo h22 _ bs hf hK hD hB hbb (by rw [if_neg (by rw [h36]; exact Bool.false_ne_true)]; rfl) | exact fo h22 _ bs hf hK hD hB hbb (by rw [if_neg (by rw [h36, h47]; exact Bool.false_ne_true)]; rfl) | exact fo h22 _ _ hf hK hD gσ1 (q_of1_b (fun i hi => (hD i hi).2.2) hbb ho) (by rw [if_pos (by rw [h36, h47]; rfl)]; rfl)
            · skip
              have h47 := bI_t h47
              refine Exists.intro (nI 1) (And.intro rfl ?_)
              refine Exists.intro (nI (2 ^ p)) (And.intro (nI_sh1 (by omega)) ?_)
              refine Exists.intro (nI 1) (And.intro rfl ?_)
              refine Exists.intro (nI (2 ^ b)) (And.intro (nI_sh1 (by omega)) ?_)
              refine Exists.intro (nI ((2 ^ p) ||| (2 ^ b))) (And.intro (nI_or _ _) ?_)
              refine And.intro rfl (Exists.intro 213 (And.intro rfl ?_))
              refine Exists.intro (nI 10) (And.intro rfl ?_)
              refine Exists.intro (nI (10 * p)) (And.intro (pk_mul _ _) ?_)
              refine Exists.intro (nI (10 * p + b)) (And.intro (nI_add _ _) ?_)
              refine Exists.intro (10 * p + b) (Exists.intro (gn p b) (And.intro rfl (And.intro ⟨100, rfl, by omega, by decide⟩ (And.intro (hK.2.1 p b (by omega) (by omega) (by omega)) ?_))))
              refine And.intro rfl (Exists.intro 213 (And.intro rfl ?_))
              refine Exists.intro (nI 10) (And.intro rfl ?_)
              refine Exists.intro (nI (10 * b)) (And.intro (pk_mul _ _) ?_)
              refine Exists.intro (nI (10 * b + p)) (And.intro (nI_add _ _) ?_)
              refine Exists.intro (10 * b + p) (Exists.intro (gn b p) (And.intro rfl (And.intro ⟨100, rfl, by omega, by decide⟩ (And.intro (hK.2.1 b p (by omega) (by omega) (by omega)) ?_))))
              refine Exists.intro ((gn p b) + (gn b p)) (And.intro rfl ?_)
              refine Exists.intro (nI 2) (And.intro rfl ?_)
              refine Exists.intro (nI 2) (And.intro rfl ?_)
              refine Exists.intro (nI 8) (And.intro rfl ?_)
              refine Exists.intro (nI (8 * b)) (And.intro (pk_mul _ _) ?_)
              refine Exists.intro (nI (2 + 8 * b)) (And.intro (nI_add _ _) ?_)
              refine And.intro rfl (Exists.intro _ (And.intro (by decide) (qx_M_mono (m_offers (set := set) (inn := ((2 ^ p) ||| (2 ^ b))) (gd := ((gn p b) + (gn b p))) (n := 2) (num := (2 + 8 * b)) (b := bs) hs (by omega) (hD _ ho1).1 (hD _ ho1).2.1 (Nat.le_trans (hD _ ho1).2.2 (by omega)) (by omega) hB) ?_)))
              rintro _ σ1 ⟨rfl, fσ1, gσ1⟩
              have hf_σ1 : ql lB σ0 σ1 := hf.tr (fσ1.mn rfl)
              have hK_σ1 : mK σ1 can gn pe k := hK.fr fσ1 (fun _ => rfl) (fun _ => rfl) (fun _ => rfl)
              have hD_σ1 : mD σ1 D set := hD.fr fσ1 (fun _ => rfl) (fun _ => rfl)
              first | exact fo h22 _ bs hf_σ1 hK_σ1 hD_σ1 hB hbb (by rw [if_neg (by rw [h36]; exact Bool.false_ne_true)]; rfl) | exact fo h22 _ bs hf_σ1 hK_σ1 hD_σ1 hB hbb (by rw [if_neg (by rw [h36, h47]; exact Bool.false_ne_true)]; rfl) | exact fo h22 _ _ hf_σ1 hK_σ1 hD_σ1 gσ1 (q_of1_b (fun i hi => (hD i hi).2.2) hbb ho) (by rw [if_pos (by rw [h36, h47]; rfl)]; rfl)
        · skip
          have h22 := bI_f h22
          refine Exists.intro (nI (b + 1)) (And.intro (nI_add _ _) ?_)
          exact nx h22 _ hf hK hD hB
    · obtain rfl : b = pe := by omega
      rw [Nat.sub_self]
      refine qy_wp_ok (c := CX12_offersFrom) (cuts := [5, 96]) vX12_offersFrom wX12_offersFrom 2000 5 _ _ _ ?_
      refine And.intro rfl (Exists.intro 207 (And.intro rfl ?_))
      refine Exists.intro (nI 1) (And.intro rfl ?_)
      refine Exists.intro (1) (Exists.intro (nI b) (And.intro rfl (And.intro ⟨2788, rfl, by decide, by decide⟩ (And.intro (hK.1) ?_))))
      refine And.intro (fun h13 => ?_) (fun h13 => ?_)
      · skip
        have h13 := nI_leT (a := b) (b := b) (by omega) (by omega) h13
        exact ⟨rfl, hf, hB⟩
      · skip
        have h13 := nI_leF (a := b) (b := b) (by omega) (by omega) h13
        exact absurd h13 (by omega)
theorem m_offersFrom {G : qx_G} {σ : qx_S} {can : Nat → Nat → Nat → Bool} {gn : Nat → Nat → Int32} {pe k : Nat} (hpe : pe ≤ 10) (hk2 : 2 ≤ k) (hk4 : k ≤ 4) {D : Nat → q_T3} {set p : Nat} (hs : set < 1024) (hsp : set.testBit p = true) (hp : p < pe) {bs : q_T3} (hK : mK σ can gn pe k) (hD : mD σ D set) (hB : mB σ bs) (hbb : bs.2.1 ≤ 4 * set ∧ bs.2.2 < 32768) : qx_M G qc_T 2 YX12_offersFrom [.ref 197, .int (nI set), .int (nI p), .int (nI k)] σ (fun r s => r = none ∧ ql lB σ s ∧ mB s ((q_o2 can gn pe k set p (pe - (p + 1)) (p + 1)).foldl (q_of1 D set) bs)) := by
  have hf : ql lB σ σ := qf.rf
  refine qx_M_in rfl (Nat.le_of_ble_eq_true rfl) ?_
  refine qy_wp_ok (c := CX12_offersFrom) (cuts := [5]) vX12_offersFrom wX12_offersFrom 2000 0 _ _ _ ?_
  refine Exists.intro (nI 1) (And.intro rfl ?_)
  refine Exists.intro (nI (p + 1)) (And.intro (nI_add _ _) ?_)
  exact l_offersFrom2 hpe hk2 hk4 hs hsp hp _ (p + 1) σ bs rfl (by omega) (by omega) qf.rf hK hD hB hbb

