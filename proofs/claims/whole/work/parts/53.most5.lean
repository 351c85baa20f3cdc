/-! THE REFERENCE: MOST followed -/
theorem l_fw0 {G : qx_G} {σ0 : qx_S} {s0 : Nat} {Φ : qx_F} : ∀ (m p : Nat) (σ : qx_S), m = 10 - p → p ≤ 10 → ql [(217, none)] σ0 σ → (∀ i, i < p → qx_mi σ 217 i = nI i) →
    (∀ s, ql [(217, none)] σ0 s → (∀ i, i < 10 → qx_mi s 217 i = nI i) → qx_K G qc_T 2 RX12 YX12_followsMost 32 [.ref 197, .int (nI s0), .retAddr 0, .retAddr 0, .retAddr 0, .retAddr 0, .retAddr 0, .retAddr 0] [] s Φ) →
    qx_K G qc_T 2 RX12 YX12_followsMost 13 [.ref 197, .int (nI s0), .int (nI p), .retAddr 0, .retAddr 0, .retAddr 0, .retAddr 0, .retAddr 0] [] σ Φ := by
  intro m
  induction m using Nat.strongRecOn with
  | _ m ih =>
    intro p σ hm hp hf hj hcont
    refine qy_wp_ok (c := CX12_followsMost) (cuts := [13, 32]) vX12_followsMost wX12_followsMost 2000 13 _ _ _ ?_
    refine Exists.intro (nI 10) (And.intro rfl ?_)
    refine And.intro (fun h16 => ?_) (fun h16 => ?_)
    · skip
      have h16 := nI_leT (a := 10) (b := p) (by decide) (by omega) h16
      refine qx_K_le (ls := [.ref 197, .int (nI s0), .retAddr 0, .retAddr 0, .retAddr 0, .retAddr 0, .retAddr 0, .retAddr 0]) ⟨Or.inr rfl, Or.inr rfl, Or.inl rfl, Or.inr rfl, Or.inr rfl, Or.inr rfl, Or.inr rfl, Or.inr rfl, trivial⟩ ?_
      exact hcont _ hf (fun i hi => hj i (by omega))
    · skip
      have h16 := nI_leF (a := 10) (b := p) (by decide) (by omega) h16
      refine And.intro rfl (Exists.intro 217 (And.intro rfl ?_))
      obtain ⟨σ1, eσ1⟩ : ∃ zs, zs = (qx_wi σ 217 p (nI p)) := ⟨_, rfl⟩
      have fσ1 := qn_wi eσ1
      refine Exists.intro (p) (Exists.intro σ1 (And.intro rfl (And.intro ⟨10, rfl, by omega, by decide⟩ (And.intro eσ1.symm ?_))))
      have hf_σ1 : ql [(217, none)] σ0 σ1 := hf.tr fσ1
      refine Exists.intro (nI (p + 1)) (And.intro (nI_add _ _) ?_)
      refine ih _ (by omega) (p + 1) _ rfl (by omega) hf_σ1 (fun j h => ?_) hcont
      rcases Nat.lt_or_ge j p with z | z
      · exact (qn_ne eσ1 (Or.inr (by omega))).trans (hj j z)
      · obtain rfl : j = p := by omega
        exact qn_eq eσ1
theorem nI_and7 {c : Nat} : nI c &&& nI 7 = nI (c % 8) := (nI_and c 7).trans (congrArg nI (Nat.and_two_pow_sub_one_eq_mod c 3))
theorem nI_and15 {c : Nat} : nI c &&& nI 15 = nI (c % 16) := (nI_and c 15).trans (congrArg nI (Nat.and_two_pow_sub_one_eq_mod c 4))
theorem up_nI {f : Nat → Int32} {t : Nat → Nat} {p b n : Nat} (h : ∀ i, i < n → f i = nI (t i)) : ∀ i, i < n → va_up f p (nI b) i = nI (va_up t p b i) := by
  intro i hi
  unfold va_up
  split
  · rfl
  · exact h i hi
theorem qn_up {s σ : qx_S} {a k b n : Nat} (e : s = qx_wi σ a k (nI b)) {t : Nat → Nat} (h : ∀ i, i < n → qx_mi σ a i = nI (t i)) : ∀ i, i < n → qx_mi s a i = nI (va_up t k b i) := fun i hi => (congrFun (qn_row e) i).trans (up_nI h i hi)
theorem l_fw {G : qx_G} {σ0 : qx_S} {ch : Nat → Nat} (hch : ∀ s, 0 < s → s < 1024 → ch s < 32768 ∧ q_nv (ch s)) {N : Nat} (hN : N ≤ 1024) : ∀ (m s : Nat) (σ : qx_S) (t : Nat → Nat), m = s → s < N → ql [(217, none)] σ0 σ → (∀ i, 0 < i → i < N → qx_mi σ 216 i = nI (ch i)) → (∀ i, i < 10 → qx_mi σ 217 i = nI (t i)) →
    qx_K G qc_T 2 RX12 YX12_followsMost 32 [.ref 197, .int (nI s), .retAddr 0, .retAddr 0, .retAddr 0, .retAddr 0, .retAddr 0, .retAddr 0] [] σ (fun r s' => r = none ∧ ql [(217, none)] σ0 s' ∧ ∀ i, i < 10 → qx_mi s' 217 i = nI (q_fwc ch s s t i)) := by
  intro m
  induction m using Nat.strongRecOn with
  | _ m ih =>
    intro s σ t hm hs hf h216 hj
    rcases Nat.eq_zero_or_pos s with h0 | h0
    · subst h0
      refine qy_wp_ok (c := CX12_followsMost) (cuts := [32]) vX12_followsMost wX12_followsMost 2000 32 _ _ _ ?_
      refine And.intro (fun h33 => ?_) (fun h33 => ?_)
      · skip
        exact ⟨rfl, hf, hj⟩
      · skip
        exact absurd (by decide) h33
    · obtain ⟨y1, y2, y3⟩ := q_lo_ok (s := s) h0 (by omega)
      have hw : q_wo s (2 ^ q_lo s) < s := q_wo_lt y1 Nat.testBit_two_pow_self
      obtain ⟨hc, v1, v2, v3, v4⟩ := hch s h0 (by omega)
      have e1 : q_fwc ch s s t = if ch s % 8 = 0 then q_fwc ch (s - 1) (q_wo s (2 ^ q_lo s)) t else q_fwc ch (s - 1) (q_wo (q_wo s (2 ^ q_lo s)) (q_fwl (ch s))) (q_fws (ch s) (q_lo s) t) := by
        have key : ∀ f, q_fwc ch (f + 1) s t = if s = 0 then t else if ch s % 8 = 0 then q_fwc ch f (q_wo s (2 ^ q_lo s)) t else q_fwc ch f (q_wo (q_wo s (2 ^ q_lo s)) (q_fwl (ch s))) (q_fws (ch s) (q_lo s) t) := fun f => rfl
        have k1 := key (s - 1)
        rw [Nat.sub_add_cancel h0, if_neg (by omega)] at k1
        exact k1
      have hw2 := q_wo_le (q_wo s (2 ^ q_lo s)) (q_fwl (ch s))
      have st : ∀ sm t' s', sm < s → q_fwc ch s s t = q_fwc ch (s - 1) sm t' → ql [(217, none)] σ0 s' → (∀ i, 0 < i → i < N → qx_mi s' 216 i = nI (ch i)) → (∀ i, i < 10 → qx_mi s' 217 i = nI (t' i)) → qx_K G qc_T 2 RX12 YX12_followsMost 32 [.ref 197, .int (nI sm), .retAddr 0, .retAddr 0, .retAddr 0, .retAddr 0, .retAddr 0, .retAddr 0] [] s' (fun r s' => r = none ∧ ql [(217, none)] σ0 s' ∧ ∀ i, i < 10 → qx_mi s' 217 i = nI (q_fwc ch s s t i)) := by
        intro sm t' s' z1 z2 z3 z4 z5
        rw [z2, q_fwc_f ch (s - 1) sm sm t' (by omega) (Nat.le_refl _) (by omega)]
        exact ih sm (by omega) sm s' t' rfl (by omega) z3 z4 z5
      have l7 : ch s % 8 < 8 := Nat.mod_lt _ (by decide)
      by_cases n0 : ch s % 8 = 0
      · rw [if_pos n0] at e1
        refine qy_wp_ok (c := CX12_followsMost) (cuts := [32]) vX12_followsMost wX12_followsMost 2000 32 _ _ _ ?_
        refine And.intro (fun h33 => ?_) (fun h33 => ?_)
        · skip
          have h33 := nI_eqT (a := s) (b := 0) (by omega) (by decide) h33
          exact absurd h33 (by omega)
        · skip
          have h33 := nI_neT (a := s) (b := 0) (by omega) (by decide) h33
          refine And.intro rfl (Exists.intro _ (And.intro (by decide) (qx_M_mono (m_leastOf (s := s) (by omega) (by omega)) ?_)))
          rintro _ _ ⟨rfl, rfl⟩
          refine And.intro rfl (Exists.intro 216 (And.intro rfl ?_))
          refine Exists.intro (s) (Exists.intro (nI (ch s)) (And.intro rfl (And.intro ⟨1024, rfl, by omega, by decide⟩ (And.intro (h216 s h0 hs) ?_))))
          refine Exists.intro (nI 7) (And.intro rfl ?_)
          refine Exists.intro (nI (ch s % 8)) (And.intro nI_and7 ?_)
          refine Exists.intro (nI 3) (And.intro rfl ?_)
          refine Exists.intro (nI (ch s / 8)) (And.intro ((nI_shr (by omega) (by decide)).trans rfl) ?_)
          refine Exists.intro (nI 15) (And.intro rfl ?_)
          refine Exists.intro (nI (ch s / 8 % 16)) (And.intro nI_and15 ?_)
          refine Exists.intro (nI 7) (And.intro rfl ?_)
          refine Exists.intro (nI (ch s / 128)) (And.intro ((nI_shr (by omega) (by decide)).trans rfl) ?_)
          refine Exists.intro (nI 15) (And.intro rfl ?_)
          refine Exists.intro (nI (ch s / 128 % 16)) (And.intro nI_and15 ?_)
          refine Exists.intro (nI 11) (And.intro rfl ?_)
          refine Exists.intro (nI (ch s / 2048)) (And.intro ((nI_shr (by omega) (by decide)).trans rfl) ?_)
          refine Exists.intro (nI 15) (And.intro rfl ?_)
          refine Exists.intro (nI (ch s / 2048 % 16)) (And.intro nI_and15 ?_)
          refine Exists.intro (nI 1) (And.intro rfl ?_)
          refine Exists.intro (nI (2 ^ (q_lo s))) (And.intro (nI_sh1 (by omega)) ?_)
          refine Exists.intro ((-1)) (And.intro (by decide) ?_)
          refine Exists.intro ((nI (2 ^ (q_lo s))) ^^^ (-1)) (And.intro rfl ?_)
          refine Exists.intro (nI (q_wo s (2 ^ q_lo s))) (And.intro (nI_andn s (2 ^ q_lo s) (by omega)) ?_)
          refine And.intro (fun h91 => ?_) (fun h91 => ?_)
          · skip
            have h91 := nI_neT (a := ch s % 8) (b := 0) (by omega) (by decide) h91
            exact absurd n0 h91
          · skip
            have h91 := nI_eqT (a := ch s % 8) (b := 0) (by omega) (by decide) h91
            refine qx_K_le (ls := [.ref 197, .int (nI (q_wo s (2 ^ q_lo s))), .retAddr 0, .retAddr 0, .retAddr 0, .retAddr 0, .retAddr 0, .retAddr 0]) ⟨Or.inr rfl, Or.inr rfl, Or.inl rfl, Or.inl rfl, Or.inl rfl, Or.inl rfl, Or.inl rfl, Or.inl rfl, trivial⟩ ?_
            exact st _ t _ hw e1 hf h216 hj
      · rw [if_neg n0] at e1
        have n3 : ch s % 8 = 2 ∨ ch s % 8 = 3 ∨ ch s % 8 = 4 := by omega
        rcases n3 with nn | nn | nn
        · skip
          have el : q_fwl (ch s) = 2 ^ (ch s / 8 % 16) ||| 0 ||| 0 := by unfold q_fwl; rw [nn]; rfl
          refine qy_wp_ok (c := CX12_followsMost) (cuts := [32]) vX12_followsMost wX12_followsMost 2000 32 _ _ _ ?_
          refine And.intro (fun h33 => ?_) (fun h33 => ?_)
          · skip
            have h33 := nI_eqT (a := s) (b := 0) (by omega) (by decide) h33
            exact absurd h33 (by omega)
          · skip
            have h33 := nI_neT (a := s) (b := 0) (by omega) (by decide) h33
            refine And.intro rfl (Exists.intro _ (And.intro (by decide) (qx_M_mono (m_leastOf (s := s) (by omega) (by omega)) ?_)))
            rintro _ _ ⟨rfl, rfl⟩
            refine And.intro rfl (Exists.intro 216 (And.intro rfl ?_))
            refine Exists.intro (s) (Exists.intro (nI (ch s)) (And.intro rfl (And.intro ⟨1024, rfl, by omega, by decide⟩ (And.intro (h216 s h0 hs) ?_))))
            refine Exists.intro (nI 7) (And.intro rfl ?_)
            refine Exists.intro (nI 2) (And.intro (nI_and7.trans (by rw [nn])) ?_)
            refine Exists.intro (nI 3) (And.intro rfl ?_)
            refine Exists.intro (nI (ch s / 8)) (And.intro ((nI_shr (by omega) (by decide)).trans rfl) ?_)
            refine Exists.intro (nI 15) (And.intro rfl ?_)
            refine Exists.intro (nI (ch s / 8 % 16)) (And.intro nI_and15 ?_)
            refine Exists.intro (nI 7) (And.intro rfl ?_)
            refine Exists.intro (nI (ch s / 128)) (And.intro ((nI_shr (by omega) (by decide)).trans rfl) ?_)
            refine Exists.intro (nI 15) (And.intro rfl ?_)
            refine Exists.intro (nI (ch s / 128 % 16)) (And.intro nI_and15 ?_)
            refine Exists.intro (nI 11) (And.intro rfl ?_)
            refine Exists.intro (nI (ch s / 2048)) (And.intro ((nI_shr (by omega) (by decide)).trans rfl) ?_)
            refine Exists.intro (nI 15) (And.intro rfl ?_)
            refine Exists.intro (nI (ch s / 2048 % 16)) (And.intro nI_and15 ?_)
            refine Exists.intro (nI 1) (And.intro rfl ?_)
            refine Exists.intro (nI (2 ^ (q_lo s))) (And.intro (nI_sh1 (by omega)) ?_)
            refine Exists.intro ((-1)) (And.intro (by decide) ?_)
            refine Exists.intro ((nI (2 ^ (q_lo s))) ^^^ (-1)) (And.intro rfl ?_)
            refine Exists.intro (nI (q_wo s (2 ^ q_lo s))) (And.intro (nI_andn s (2 ^ q_lo s) (by omega)) ?_)
            refine And.intro (fun h91 => ?_) (fun h91 => ?_)
            · skip
              refine And.intro rfl (Exists.intro 217 (And.intro rfl ?_))
              obtain ⟨σ1, eσ1⟩ : ∃ zs, zs = (qx_wi σ 217 (q_lo s) (nI (ch s / 8 % 16))) := ⟨_, rfl⟩
              have fσ1 := qn_wi eσ1
              refine Exists.intro (q_lo s) (Exists.intro σ1 (And.intro rfl (And.intro ⟨10, rfl, by omega, by decide⟩ (And.intro eσ1.symm ?_))))
              have hf_σ1 : ql [(217, none)] σ0 σ1 := hf.tr fσ1
              have h216_σ1 : ∀ i, 0 < i → i < N → qx_mi σ1 216 i = nI (ch i) := (fun i z1 z2 => (fσ1.i _ _ rfl).trans (h216 i z1 z2))
              have hj_σ1 : ∀ i, i < 10 → qx_mi σ1 217 i = nI (va_up t (q_lo s) (ch s / 8 % 16) i) := qn_up eσ1 hj
              refine And.intro rfl (Exists.intro 217 (And.intro rfl ?_))
              refine Exists.intro (nI 2) (And.intro rfl ?_)
              refine And.intro (fun h114 => ?_) (fun h114 => ?_)
              · skip
                exact absurd (by decide) h114
              · skip
                obtain ⟨σ2, eσ2⟩ : ∃ zs, zs = (qx_wi σ1 217 (ch s / 8 % 16) (nI (q_lo s))) := ⟨_, rfl⟩
                have fσ2 := qn_wi eσ2
                refine Exists.intro (ch s / 8 % 16) (Exists.intro σ2 (And.intro rfl (And.intro ⟨10, rfl, by omega, by decide⟩ (And.intro eσ2.symm ?_))))
                have hf_σ2 : ql [(217, none)] σ0 σ2 := hf_σ1.tr fσ2
                have h216_σ2 : ∀ i, 0 < i → i < N → qx_mi σ2 216 i = nI (ch i) := (fun i z1 z2 => (fσ2.i _ _ rfl).trans (h216_σ1 i z1 z2))
                have hj_σ2 : ∀ i, i < 10 → qx_mi σ2 217 i = nI (va_up (va_up t (q_lo s) (ch s / 8 % 16)) (ch s / 8 % 16) (q_lo s) i) := qn_up eσ2 hj_σ1
                refine Exists.intro (nI 2) (And.intro rfl ?_)
                refine And.intro (fun h127 => ?_) (fun h127 => ?_)
                · skip
                  refine Exists.intro (nI 3) (And.intro rfl ?_)
                  refine And.intro (fun h152 => ?_) (fun h152 => ?_)
                  · skip
                    refine Exists.intro (nI 1) (And.intro rfl ?_)
                    refine Exists.intro (nI (2 ^ (ch s / 8 % 16))) (And.intro (nI_sh1 (by omega)) ?_)
                    refine Exists.intro (nI 2) (And.intro rfl ?_)
                    refine And.intro (fun h171 => ?_) (fun h171 => ?_)
                    · skip
                      refine Exists.intro (nI 0) (And.intro rfl ?_)
                      refine Exists.intro (nI ((2 ^ (ch s / 8 % 16)) ||| 0)) (And.intro (nI_or _ _) ?_)
                      refine Exists.intro (nI 3) (And.intro rfl ?_)
                      refine And.intro (fun h186 => ?_) (fun h186 => ?_)
                      · skip
                        refine Exists.intro (nI 0) (And.intro rfl ?_)
                        refine Exists.intro (nI (((2 ^ (ch s / 8 % 16)) ||| 0) ||| 0)) (And.intro (nI_or _ _) ?_)
                        refine Exists.intro ((-1)) (And.intro (by decide) ?_)
                        refine Exists.intro ((nI (((2 ^ (ch s / 8 % 16)) ||| 0) ||| 0)) ^^^ (-1)) (And.intro rfl ?_)
                        refine Exists.intro (nI (q_wo (q_wo s (2 ^ q_lo s)) (q_fwl (ch s)))) (And.intro (by rw [el]; exact nI_andn _ _ (by omega)) ?_)
                        refine qx_K_le (ls := [.ref 197, .int (nI (q_wo (q_wo s (2 ^ q_lo s)) (q_fwl (ch s)))), .retAddr 0, .retAddr 0, .retAddr 0, .retAddr 0, .retAddr 0, .retAddr 0]) ⟨Or.inr rfl, Or.inr rfl, Or.inl rfl, Or.inl rfl, Or.inl rfl, Or.inl rfl, Or.inl rfl, Or.inl rfl, trivial⟩ ?_
                        exact st _ _ _ (by omega) e1 hf_σ2 h216_σ2 (fun i hi => (hj_σ2 i hi).trans (by unfold q_fws; rw [nn]; rfl))
                      · skip
                        exact absurd (by decide) h186
                    · skip
                      exact absurd (by decide) h171
                  · skip
                    exact absurd (by decide) h152
                · skip
                  exact absurd (by decide) h127
            · skip
              exact absurd h91 (by decide)
        · skip
          have el : q_fwl (ch s) = 2 ^ (ch s / 8 % 16) ||| 2 ^ (ch s / 128 % 16) ||| 0 := by unfold q_fwl; rw [nn]; rfl
          refine qy_wp_ok (c := CX12_followsMost) (cuts := [32]) vX12_followsMost wX12_followsMost 2000 32 _ _ _ ?_
          refine And.intro (fun h33 => ?_) (fun h33 => ?_)
          · skip
            have h33 := nI_eqT (a := s) (b := 0) (by omega) (by decide) h33
            exact absurd h33 (by omega)
          · skip
            have h33 := nI_neT (a := s) (b := 0) (by omega) (by decide) h33
            refine And.intro rfl (Exists.intro _ (And.intro (by decide) (qx_M_mono (m_leastOf (s := s) (by omega) (by omega)) ?_)))
            rintro _ _ ⟨rfl, rfl⟩
            refine And.intro rfl (Exists.intro 216 (And.intro rfl ?_))
            refine Exists.intro (s) (Exists.intro (nI (ch s)) (And.intro rfl (And.intro ⟨1024, rfl, by omega, by decide⟩ (And.intro (h216 s h0 hs) ?_))))
            refine Exists.intro (nI 7) (And.intro rfl ?_)
            refine Exists.intro (nI 3) (And.intro (nI_and7.trans (by rw [nn])) ?_)
            refine Exists.intro (nI 3) (And.intro rfl ?_)
            refine Exists.intro (nI (ch s / 8)) (And.intro ((nI_shr (by omega) (by decide)).trans rfl) ?_)
            refine Exists.intro (nI 15) (And.intro rfl ?_)
            refine Exists.intro (nI (ch s / 8 % 16)) (And.intro nI_and15 ?_)
            refine Exists.intro (nI 7) (And.intro rfl ?_)
            refine Exists.intro (nI (ch s / 128)) (And.intro ((nI_shr (by omega) (by decide)).trans rfl) ?_)
            refine Exists.intro (nI 15) (And.intro rfl ?_)
            refine Exists.intro (nI (ch s / 128 % 16)) (And.intro nI_and15 ?_)
            refine Exists.intro (nI 11) (And.intro rfl ?_)
            refine Exists.intro (nI (ch s / 2048)) (And.intro ((nI_shr (by omega) (by decide)).trans rfl) ?_)
            refine Exists.intro (nI 15) (And.intro rfl ?_)
            refine Exists.intro (nI (ch s / 2048 % 16)) (And.intro nI_and15 ?_)
            refine Exists.intro (nI 1) (And.intro rfl ?_)
            refine Exists.intro (nI (2 ^ (q_lo s))) (And.intro (nI_sh1 (by omega)) ?_)
            refine Exists.intro ((-1)) (And.intro (by decide) ?_)
            refine Exists.intro ((nI (2 ^ (q_lo s))) ^^^ (-1)) (And.intro rfl ?_)
            refine Exists.intro (nI (q_wo s (2 ^ q_lo s))) (And.intro (nI_andn s (2 ^ q_lo s) (by omega)) ?_)
            refine And.intro (fun h91 => ?_) (fun h91 => ?_)
            · skip
              refine And.intro rfl (Exists.intro 217 (And.intro rfl ?_))
              obtain ⟨σ1, eσ1⟩ : ∃ zs, zs = (qx_wi σ 217 (q_lo s) (nI (ch s / 8 % 16))) := ⟨_, rfl⟩
              have fσ1 := qn_wi eσ1
              refine Exists.intro (q_lo s) (Exists.intro σ1 (And.intro rfl (And.intro ⟨10, rfl, by omega, by decide⟩ (And.intro eσ1.symm ?_))))
              have hf_σ1 : ql [(217, none)] σ0 σ1 := hf.tr fσ1
              have h216_σ1 : ∀ i, 0 < i → i < N → qx_mi σ1 216 i = nI (ch i) := (fun i z1 z2 => (fσ1.i _ _ rfl).trans (h216 i z1 z2))
              have hj_σ1 : ∀ i, i < 10 → qx_mi σ1 217 i = nI (va_up t (q_lo s) (ch s / 8 % 16) i) := qn_up eσ1 hj
              refine And.intro rfl (Exists.intro 217 (And.intro rfl ?_))
              refine Exists.intro (nI 2) (And.intro rfl ?_)
              refine And.intro (fun h114 => ?_) (fun h114 => ?_)
              · skip
                obtain ⟨σ2, eσ2⟩ : ∃ zs, zs = (qx_wi σ1 217 (ch s / 8 % 16) (nI (ch s / 128 % 16))) := ⟨_, rfl⟩
                have fσ2 := qn_wi eσ2
                refine Exists.intro (ch s / 8 % 16) (Exists.intro σ2 (And.intro rfl (And.intro ⟨10, rfl, by omega, by decide⟩ (And.intro eσ2.symm ?_))))
                have hf_σ2 : ql [(217, none)] σ0 σ2 := hf_σ1.tr fσ2
                have h216_σ2 : ∀ i, 0 < i → i < N → qx_mi σ2 216 i = nI (ch i) := (fun i z1 z2 => (fσ2.i _ _ rfl).trans (h216_σ1 i z1 z2))
                have hj_σ2 : ∀ i, i < 10 → qx_mi σ2 217 i = nI (va_up (va_up t (q_lo s) (ch s / 8 % 16)) (ch s / 8 % 16) (ch s / 128 % 16) i) := qn_up eσ2 hj_σ1
                refine Exists.intro (nI 2) (And.intro rfl ?_)
                refine And.intro (fun h127 => ?_) (fun h127 => ?_)
                · skip
                  exact absurd h127 (by decide)
                · skip
                  refine And.intro rfl (Exists.intro 217 (And.intro rfl ?_))
                  refine Exists.intro (nI 3) (And.intro rfl ?_)
                  refine And.intro (fun h139 => ?_) (fun h139 => ?_)
                  · skip
                    exact absurd (by decide) h139
                  · skip
                    obtain ⟨σ3, eσ3⟩ : ∃ zs, zs = (qx_wi σ2 217 (ch s / 128 % 16) (nI (q_lo s))) := ⟨_, rfl⟩
                    have fσ3 := qn_wi eσ3
                    refine Exists.intro (ch s / 128 % 16) (Exists.intro σ3 (And.intro rfl (And.intro ⟨10, rfl, by omega, by decide⟩ (And.intro eσ3.symm ?_))))
                    have hf_σ3 : ql [(217, none)] σ0 σ3 := hf_σ2.tr fσ3
                    have h216_σ3 : ∀ i, 0 < i → i < N → qx_mi σ3 216 i = nI (ch i) := (fun i z1 z2 => (fσ3.i _ _ rfl).trans (h216_σ2 i z1 z2))
                    have hj_σ3 : ∀ i, i < 10 → qx_mi σ3 217 i = nI (va_up (va_up (va_up t (q_lo s) (ch s / 8 % 16)) (ch s / 8 % 16) (ch s / 128 % 16)) (ch s / 128 % 16) (q_lo s) i) := qn_up eσ3 hj_σ2
                    refine Exists.intro (nI 3) (And.intro rfl ?_)
                    refine And.intro (fun h152 => ?_) (fun h152 => ?_)
                    · skip
                      refine Exists.intro (nI 1) (And.intro rfl ?_)
                      refine Exists.intro (nI (2 ^ (ch s / 8 % 16))) (And.intro (nI_sh1 (by omega)) ?_)
                      refine Exists.intro (nI 2) (And.intro rfl ?_)
                      refine And.intro (fun h171 => ?_) (fun h171 => ?_)
                      · skip
                        exact absurd h171 (by decide)
                      · skip
                        refine Exists.intro (nI 1) (And.intro rfl ?_)
                        refine Exists.intro (nI (2 ^ (ch s / 128 % 16))) (And.intro (nI_sh1 (by omega)) ?_)
                        refine Exists.intro (nI ((2 ^ (ch s / 8 % 16)) ||| (2 ^ (ch s / 128 % 16)))) (And.intro (nI_or _ _) ?_)
                        refine Exists.intro (nI 3) (And.intro rfl ?_)
                        refine And.intro (fun h186 => ?_) (fun h186 => ?_)
                        · skip
                          refine Exists.intro (nI 0) (And.intro rfl ?_)
                          refine Exists.intro (nI (((2 ^ (ch s / 8 % 16)) ||| (2 ^ (ch s / 128 % 16))) ||| 0)) (And.intro (nI_or _ _) ?_)
                          refine Exists.intro ((-1)) (And.intro (by decide) ?_)
                          refine Exists.intro ((nI (((2 ^ (ch s / 8 % 16)) ||| (2 ^ (ch s / 128 % 16))) ||| 0)) ^^^ (-1)) (And.intro rfl ?_)
                          refine Exists.intro (nI (q_wo (q_wo s (2 ^ q_lo s)) (q_fwl (ch s)))) (And.intro (by rw [el]; exact nI_andn _ _ (by omega)) ?_)
                          refine qx_K_le (ls := [.ref 197, .int (nI (q_wo (q_wo s (2 ^ q_lo s)) (q_fwl (ch s)))), .retAddr 0, .retAddr 0, .retAddr 0, .retAddr 0, .retAddr 0, .retAddr 0]) ⟨Or.inr rfl, Or.inr rfl, Or.inl rfl, Or.inl rfl, Or.inl rfl, Or.inl rfl, Or.inl rfl, Or.inl rfl, trivial⟩ ?_
                          exact st _ _ _ (by omega) e1 hf_σ3 h216_σ3 (fun i hi => (hj_σ3 i hi).trans (by unfold q_fws; rw [nn]; rfl))
                        · skip
                          exact absurd (by decide) h186
                    · skip
                      exact absurd (by decide) h152
              · skip
                exact absurd h114 (by decide)
            · skip
              exact absurd h91 (by decide)
        · skip
          have el : q_fwl (ch s) = 2 ^ (ch s / 8 % 16) ||| 2 ^ (ch s / 128 % 16) ||| 2 ^ (ch s / 2048 % 16) := by unfold q_fwl; rw [nn]; rfl
          refine qy_wp_ok (c := CX12_followsMost) (cuts := [32]) vX12_followsMost wX12_followsMost 2000 32 _ _ _ ?_
          refine And.intro (fun h33 => ?_) (fun h33 => ?_)
          · skip
            have h33 := nI_eqT (a := s) (b := 0) (by omega) (by decide) h33
            exact absurd h33 (by omega)
          · skip
            have h33 := nI_neT (a := s) (b := 0) (by omega) (by decide) h33
            refine And.intro rfl (Exists.intro _ (And.intro (by decide) (qx_M_mono (m_leastOf (s := s) (by omega) (by omega)) ?_)))
            rintro _ _ ⟨rfl, rfl⟩
            refine And.intro rfl (Exists.intro 216 (And.intro rfl ?_))
            refine Exists.intro (s) (Exists.intro (nI (ch s)) (And.intro rfl (And.intro ⟨1024, rfl, by omega, by decide⟩ (And.intro (h216 s h0 hs) ?_))))
            refine Exists.intro (nI 7) (And.intro rfl ?_)
            refine Exists.intro (nI 4) (And.intro (nI_and7.trans (by rw [nn])) ?_)
            refine Exists.intro (nI 3) (And.intro rfl ?_)
            refine Exists.intro (nI (ch s / 8)) (And.intro ((nI_shr (by omega) (by decide)).trans rfl) ?_)
            refine Exists.intro (nI 15) (And.intro rfl ?_)
            refine Exists.intro (nI (ch s / 8 % 16)) (And.intro nI_and15 ?_)
            refine Exists.intro (nI 7) (And.intro rfl ?_)
            refine Exists.intro (nI (ch s / 128)) (And.intro ((nI_shr (by omega) (by decide)).trans rfl) ?_)
            refine Exists.intro (nI 15) (And.intro rfl ?_)
            refine Exists.intro (nI (ch s / 128 % 16)) (And.intro nI_and15 ?_)
            refine Exists.intro (nI 11) (And.intro rfl ?_)
            refine Exists.intro (nI (ch s / 2048)) (And.intro ((nI_shr (by omega) (by decide)).trans rfl) ?_)
            refine Exists.intro (nI 15) (And.intro rfl ?_)
            refine Exists.intro (nI (ch s / 2048 % 16)) (And.intro nI_and15 ?_)
            refine Exists.intro (nI 1) (And.intro rfl ?_)
            refine Exists.intro (nI (2 ^ (q_lo s))) (And.intro (nI_sh1 (by omega)) ?_)
            refine Exists.intro ((-1)) (And.intro (by decide) ?_)
            refine Exists.intro ((nI (2 ^ (q_lo s))) ^^^ (-1)) (And.intro rfl ?_)
            refine Exists.intro (nI (q_wo s (2 ^ q_lo s))) (And.intro (nI_andn s (2 ^ q_lo s) (by omega)) ?_)
            refine And.intro (fun h91 => ?_) (fun h91 => ?_)
            · skip
              refine And.intro rfl (Exists.intro 217 (And.intro rfl ?_))
              obtain ⟨σ1, eσ1⟩ : ∃ zs, zs = (qx_wi σ 217 (q_lo s) (nI (ch s / 8 % 16))) := ⟨_, rfl⟩
              have fσ1 := qn_wi eσ1
              refine Exists.intro (q_lo s) (Exists.intro σ1 (And.intro rfl (And.intro ⟨10, rfl, by omega, by decide⟩ (And.intro eσ1.symm ?_))))
              have hf_σ1 : ql [(217, none)] σ0 σ1 := hf.tr fσ1
              have h216_σ1 : ∀ i, 0 < i → i < N → qx_mi σ1 216 i = nI (ch i) := (fun i z1 z2 => (fσ1.i _ _ rfl).trans (h216 i z1 z2))
              have hj_σ1 : ∀ i, i < 10 → qx_mi σ1 217 i = nI (va_up t (q_lo s) (ch s / 8 % 16) i) := qn_up eσ1 hj
              refine And.intro rfl (Exists.intro 217 (And.intro rfl ?_))
              refine Exists.intro (nI 2) (And.intro rfl ?_)
              refine And.intro (fun h114 => ?_) (fun h114 => ?_)
              · skip
                obtain ⟨σ2, eσ2⟩ : ∃ zs, zs = (qx_wi σ1 217 (ch s / 8 % 16) (nI (ch s / 128 % 16))) := ⟨_, rfl⟩
                have fσ2 := qn_wi eσ2
                refine Exists.intro (ch s / 8 % 16) (Exists.intro σ2 (And.intro rfl (And.intro ⟨10, rfl, by omega, by decide⟩ (And.intro eσ2.symm ?_))))
                have hf_σ2 : ql [(217, none)] σ0 σ2 := hf_σ1.tr fσ2
                have h216_σ2 : ∀ i, 0 < i → i < N → qx_mi σ2 216 i = nI (ch i) := (fun i z1 z2 => (fσ2.i _ _ rfl).trans (h216_σ1 i z1 z2))
                have hj_σ2 : ∀ i, i < 10 → qx_mi σ2 217 i = nI (va_up (va_up t (q_lo s) (ch s / 8 % 16)) (ch s / 8 % 16) (ch s / 128 % 16) i) := qn_up eσ2 hj_σ1
                refine Exists.intro (nI 2) (And.intro rfl ?_)
                refine And.intro (fun h127 => ?_) (fun h127 => ?_)
                · skip
                  exact absurd h127 (by decide)
                · skip
                  refine And.intro rfl (Exists.intro 217 (And.intro rfl ?_))
                  refine Exists.intro (nI 3) (And.intro rfl ?_)
                  refine And.intro (fun h139 => ?_) (fun h139 => ?_)
                  · skip
                    obtain ⟨σ3, eσ3⟩ : ∃ zs, zs = (qx_wi σ2 217 (ch s / 128 % 16) (nI (ch s / 2048 % 16))) := ⟨_, rfl⟩
                    have fσ3 := qn_wi eσ3
                    refine Exists.intro (ch s / 128 % 16) (Exists.intro σ3 (And.intro rfl (And.intro ⟨10, rfl, by omega, by decide⟩ (And.intro eσ3.symm ?_))))
                    have hf_σ3 : ql [(217, none)] σ0 σ3 := hf_σ2.tr fσ3
                    have h216_σ3 : ∀ i, 0 < i → i < N → qx_mi σ3 216 i = nI (ch i) := (fun i z1 z2 => (fσ3.i _ _ rfl).trans (h216_σ2 i z1 z2))
                    have hj_σ3 : ∀ i, i < 10 → qx_mi σ3 217 i = nI (va_up (va_up (va_up t (q_lo s) (ch s / 8 % 16)) (ch s / 8 % 16) (ch s / 128 % 16)) (ch s / 128 % 16) (ch s / 2048 % 16) i) := qn_up eσ3 hj_σ2
                    refine Exists.intro (nI 3) (And.intro rfl ?_)
                    refine And.intro (fun h152 => ?_) (fun h152 => ?_)
                    · skip
                      exact absurd h152 (by decide)
                    · skip
                      refine And.intro rfl (Exists.intro 217 (And.intro rfl ?_))
                      obtain ⟨σ4, eσ4⟩ : ∃ zs, zs = (qx_wi σ3 217 (ch s / 2048 % 16) (nI (q_lo s))) := ⟨_, rfl⟩
                      have fσ4 := qn_wi eσ4
                      refine Exists.intro (ch s / 2048 % 16) (Exists.intro σ4 (And.intro rfl (And.intro ⟨10, rfl, by omega, by decide⟩ (And.intro eσ4.symm ?_))))
                      have hf_σ4 : ql [(217, none)] σ0 σ4 := hf_σ3.tr fσ4
                      have h216_σ4 : ∀ i, 0 < i → i < N → qx_mi σ4 216 i = nI (ch i) := (fun i z1 z2 => (fσ4.i _ _ rfl).trans (h216_σ3 i z1 z2))
                      have hj_σ4 : ∀ i, i < 10 → qx_mi σ4 217 i = nI (va_up (va_up (va_up (va_up t (q_lo s) (ch s / 8 % 16)) (ch s / 8 % 16) (ch s / 128 % 16)) (ch s / 128 % 16) (ch s / 2048 % 16)) (ch s / 2048 % 16) (q_lo s) i) := qn_up eσ4 hj_σ3
                      refine Exists.intro (nI 1) (And.intro rfl ?_)
                      refine Exists.intro (nI (2 ^ (ch s / 8 % 16))) (And.intro (nI_sh1 (by omega)) ?_)
                      refine Exists.intro (nI 2) (And.intro rfl ?_)
                      refine And.intro (fun h171 => ?_) (fun h171 => ?_)
                      · skip
                        exact absurd h171 (by decide)
                      · skip
                        refine Exists.intro (nI 1) (And.intro rfl ?_)
                        refine Exists.intro (nI (2 ^ (ch s / 128 % 16))) (And.intro (nI_sh1 (by omega)) ?_)
                        refine Exists.intro (nI ((2 ^ (ch s / 8 % 16)) ||| (2 ^ (ch s / 128 % 16)))) (And.intro (nI_or _ _) ?_)
                        refine Exists.intro (nI 3) (And.intro rfl ?_)
                        refine And.intro (fun h186 => ?_) (fun h186 => ?_)
                        · skip
                          exact absurd h186 (by decide)
                        · skip
                          refine Exists.intro (nI 1) (And.intro rfl ?_)
                          refine Exists.intro (nI (2 ^ (ch s / 2048 % 16))) (And.intro (nI_sh1 (by omega)) ?_)
                          refine Exists.intro (nI (((2 ^ (ch s / 8 % 16)) ||| (2 ^ (ch s / 128 % 16))) ||| (2 ^ (ch s / 2048 % 16)))) (And.intro (nI_or _ _) ?_)
                          refine Exists.intro ((-1)) (And.intro (by decide) ?_)
                          refine Exists.intro ((nI (((2 ^ (ch s / 8 % 16)) ||| (2 ^ (ch s / 128 % 16))) ||| (2 ^ (ch s / 2048 % 16)))) ^^^ (-1)) (And.intro rfl ?_)
                          refine Exists.intro (nI (q_wo (q_wo s (2 ^ q_lo s)) (q_fwl (ch s)))) (And.intro (by rw [el]; exact nI_andn _ _ (by omega)) ?_)
                          refine qx_K_le (ls := [.ref 197, .int (nI (q_wo (q_wo s (2 ^ q_lo s)) (q_fwl (ch s)))), .retAddr 0, .retAddr 0, .retAddr 0, .retAddr 0, .retAddr 0, .retAddr 0]) ⟨Or.inr rfl, Or.inr rfl, Or.inl rfl, Or.inl rfl, Or.inl rfl, Or.inl rfl, Or.inl rfl, Or.inl rfl, trivial⟩ ?_
                          exact st _ _ _ (by omega) e1 hf_σ4 h216_σ4 (fun i hi => (hj_σ4 i hi).trans (by unfold q_fws; rw [nn]; rfl))
                  · skip
                    exact absurd h139 (by decide)
              · skip
                exact absurd h114 (by decide)
            · skip
              exact absurd h91 (by decide)
theorem m_followsMost {G : qx_G} {σ : qx_S} {S : qS} (hS : qx_mi σ 207 = S) (g : gS S) {can : Nat → Nat → Nat → Bool} {gn : Nat → Nat → Int32} {k : Nat} (hT : mT σ (q_Dt can gn (s_n S 1) k (2 ^ s_n S 1 - 1)) (2 ^ s_n S 1)) : qx_M G qc_T 2 YX12_followsMost [.ref 197] σ (fun r s => r = none ∧ ql [(217, none)] σ s ∧ ∀ i, i < 10 → qx_mi s 217 i = nI (q_fwc (fun s => (q_Dt can gn (s_n S 1) k (2 ^ s_n S 1 - 1) s).2.2) (2 ^ s_n S 1 - 1) (2 ^ s_n S 1 - 1) (fun i => i) i)) := by
  have h10 := g.2.1.2
  have h1024 : 2 ^ s_n S 1 ≤ 1024 := Nat.pow_le_pow_right (by decide) h10
  have hpos : 1 ≤ 2 ^ s_n S 1 := Nat.one_le_two_pow
  refine qx_M_in rfl (Nat.le_of_ble_eq_true rfl) ?_
  refine qy_wp_ok (c := CX12_followsMost) (cuts := [13, 32]) vX12_followsMost wX12_followsMost 2000 0 _ _ _ ?_
  refine Exists.intro (nI 1) (And.intro rfl ?_)
  refine And.intro rfl (Exists.intro 207 (And.intro rfl ?_))
  refine Exists.intro (nI 1) (And.intro rfl ?_)
  refine Exists.intro (1) (Exists.intro (nI (s_n S 1)) (And.intro rfl (And.intro ⟨2788, rfl, by decide, by decide⟩ (And.intro ((congrFun hS 1).trans g.2.1.1) ?_))))
  refine Exists.intro (nI (2 ^ (s_n S 1))) (And.intro (nI_sh1 (by omega)) ?_)
  refine Exists.intro (nI 1) (And.intro rfl ?_)
  refine Exists.intro (nI ((2 ^ (s_n S 1)) - 1)) (And.intro (nI_sub (by omega)) ?_)
  refine Exists.intro (nI 0) (And.intro rfl ?_)
  refine l_fw0 _ 0 σ rfl (by omega) qf.rf (fun i hi => absurd hi (by omega)) (fun s y1 y2 => ?_)
  exact l_fw (ch := fun s => (q_Dt can gn (s_n S 1) k (2 ^ s_n S 1 - 1) s).2.2) (fun s _ _ => ⟨(q_Dt_b h10 _ (by omega) s).2, q_Dt_nv h10 _ (by omega) s⟩) h1024 _ _ s (fun i => i) rfl (by omega) y1 (fun i z1 z2 => (y1.i _ _ rfl).trans ((hT i z2).2.2 z1)) y2
/-- whose place each takes -/
abbrev q_tk (S : qS) (rf : Option qR) (ly : Option (Nat × Nat)) (k : Nat) : Nat → Nat := q_fwc (fun s => (q_D S rf ly k s).2.2) (2 ^ s_n S 1 - 1) (2 ^ s_n S 1 - 1) (fun i => i)
theorem m_most_no {G : qx_G} {σ : qx_S} {S : qS} (hS : qx_mi σ 207 = S) {pl : Nat} (e0 : S 0 = nI pl) (h0 : pl ≤ 8) {k w : Int32} (hb : (decide (0 < pl) && q_in64 k.toInt64 (lN 2) (lN 4) && q_in64 w.toInt64 (lN 0) (lN 1)) = false) : qx_M G qc_T 7 YX12_most [.ref 197, .int k, .int w] σ (qr (-1) σ) := by
  refine qx_M_in rfl (Nat.le_of_ble_eq_true rfl) ?_
  refine qy_wp_ok (c := CX12_most) (cuts := []) vX12_most wX12_most 2000 0 _ _ _ ?_
  refine And.intro rfl (Exists.intro _ (And.intro (by decide) (qx_M_mono (m_isCountry hS e0 h0) ?_)))
  rintro _ _ ⟨rfl, rfl⟩
  refine And.intro (fun h4 => ?_) (fun h4 => ?_)
  · skip
    have h4 := bI_f h4
    refine Exists.intro ((-1)) (And.intro (by decide) ?_)
    exact ⟨rfl, rfl⟩
  · skip
    have h4 := bI_t h4
    refine Exists.intro k.toInt64 (And.intro rfl ?_)
    refine Exists.intro (lN 2) (And.intro (by decide) ?_)
    refine Exists.intro (lN 4) (And.intro (by decide) ?_)
    refine Exists.intro _ (And.intro (by decide) (qx_M_mono (m_in (v := k.toInt64) (l := (lN 2)) (h := (lN 4))) ?_))
    rintro _ _ ⟨rfl, rfl⟩
    refine And.intro (fun h18 => ?_) (fun h18 => ?_)
    · skip
      have h18 := bI_f h18
      refine Exists.intro ((-1)) (And.intro (by decide) ?_)
      exact ⟨rfl, rfl⟩
    · skip
      have h18 := bI_t h18
      refine Exists.intro w.toInt64 (And.intro rfl ?_)
      refine Exists.intro (lN 0) (And.intro rfl ?_)
      refine Exists.intro (lN 1) (And.intro rfl ?_)
      refine Exists.intro _ (And.intro (by decide) (qx_M_mono (m_in (v := w.toInt64) (l := (lN 0)) (h := (lN 1))) ?_))
      rintro _ _ ⟨rfl, rfl⟩
      refine And.intro (fun h28 => ?_) (fun h28 => ?_)
      · skip
        have h28 := bI_t h28
        rw [h4, h18, h28] at hb; cases hb
      · skip
        have h28 := bI_f h28
        refine Exists.intro ((-1)) (And.intro (by decide) ?_)
        exact ⟨rfl, rfl⟩
theorem m_most_ok {G : qx_G} {σ : qx_S} {S : qS} {rf : Option qR} (hX : mX σ S rf none) (g : gS S) (hc : 0 < s_n S 0) {k w : Nat} (hk2 : 2 ≤ k) (hk4 : k ≤ 4) (hw : w ≤ 1) : qx_M G qc_T 7 YX12_most [.ref 197, .int (nI k), .int (nI w)] σ (fun r s => r = some (.int (if w = 0 then (q_D S rf none k (2 ^ s_n S 1 - 1)).1 else nI (q_D S rf none k (2 ^ s_n S 1 - 1)).2.1)) ∧ ql lFm σ s) := by
  have hS := hX.1
  have e0 := g.1.1
  have h0 := g.1.2
  have h10 := g.2.1.2
  have h1024 : 2 ^ s_n S 1 ≤ 1024 := Nat.pow_le_pow_right (by decide) h10
  have hpos : 1 ≤ 2 ^ s_n S 1 := Nat.one_le_two_pow
  refine qx_M_in rfl (Nat.le_of_ble_eq_true rfl) ?_
  refine qy_wp_ok (c := CX12_most) (cuts := []) vX12_most wX12_most 2000 0 _ _ _ ?_
  refine And.intro rfl (Exists.intro _ (And.intro (by decide) (qx_M_mono (m_isCountry hS e0 h0) ?_)))
  rintro _ _ ⟨rfl, rfl⟩
  refine And.intro (fun h4 => ?_) (fun h4 => ?_)
  · skip
    have h4 := bI_f h4
    exact absurd (h4.symm.trans (decide_eq_true hc)) (by decide)
  · skip
    have h4 := bI_t h4
    refine Exists.intro ((nI k).toInt64) (And.intro rfl ?_)
    refine Exists.intro (lN 2) (And.intro (by decide) ?_)
    refine Exists.intro (lN 4) (And.intro (by decide) ?_)
    refine Exists.intro _ (And.intro (by decide) (qx_M_mono (m_in (v := ((nI k).toInt64)) (l := (lN 2)) (h := (lN 4))) ?_))
    rintro _ _ ⟨rfl, rfl⟩
    refine And.intro (fun h18 => ?_) (fun h18 => ?_)
    · skip
      have h18 := bI_f h18
      exact absurd (h18.symm.trans (q_in_ok (by omega) (by omega) (by decide))) (by decide)
    · skip
      have h18 := bI_t h18
      refine Exists.intro ((nI w).toInt64) (And.intro rfl ?_)
      refine Exists.intro (lN 0) (And.intro rfl ?_)
      refine Exists.intro (lN 1) (And.intro rfl ?_)
      refine Exists.intro _ (And.intro (by decide) (qx_M_mono (m_in (v := ((nI w).toInt64)) (l := (lN 0)) (h := (lN 1))) ?_))
      rintro _ _ ⟨rfl, rfl⟩
      refine And.intro (fun h28 => ?_) (fun h28 => ?_)
      · skip
        have h28 := bI_t h28
        refine And.intro rfl (Exists.intro _ (And.intro (by decide) (qx_M_mono (m_findsMost hX g hk2 hk4) ?_)))
        rintro _ σ1 ⟨rfl, fσ1, aσ1, bσ1⟩
        refine Exists.intro (nI 1) (And.intro rfl ?_)
        refine And.intro rfl (Exists.intro 207 (And.intro rfl ?_))
        refine Exists.intro (nI 1) (And.intro rfl ?_)
        refine Exists.intro (1) (Exists.intro (nI (s_n S 1)) (And.intro rfl (And.intro ⟨2788, rfl, by decide, by decide⟩ (And.intro ((congrFun bσ1.1 1).trans g.2.1.1) ?_))))
        refine Exists.intro (nI (2 ^ (s_n S 1))) (And.intro (nI_sh1 (by omega)) ?_)
        refine Exists.intro (nI 1) (And.intro rfl ?_)
        refine Exists.intro (nI ((2 ^ (s_n S 1)) - 1)) (And.intro (nI_sub (by omega)) ?_)
        refine And.intro (fun h50 => ?_) (fun h50 => ?_)
        · skip
          have h50 := nI_neT (a := w) (b := 0) (by omega) (by decide) h50
          refine And.intro rfl (Exists.intro 215 (And.intro rfl ?_))
          refine Exists.intro ((2 ^ (s_n S 1)) - 1) (Exists.intro (nI (q_D S rf none k (2 ^ s_n S 1 - 1)).2.1) (And.intro rfl (And.intro ⟨1024, rfl, by omega, by decide⟩ (And.intro ((aσ1 _ (by omega)).2.1) ?_))))
          first | exact ⟨by rw [if_pos h50], fσ1⟩ | exact ⟨by rw [if_neg h50], fσ1⟩
        · skip
          have h50 := nI_eqT (a := w) (b := 0) (by omega) (by decide) h50
          refine And.intro rfl (Exists.intro 214 (And.intro rfl ?_))
          refine Exists.intro ((2 ^ (s_n S 1)) - 1) (Exists.intro ((q_D S rf none k (2 ^ s_n S 1 - 1)).1) (And.intro rfl (And.intro ⟨1024, rfl, by omega, by decide⟩ (And.intro ((aσ1 _ (by omega)).1) ?_))))
          first | exact ⟨by rw [if_pos h50], fσ1⟩ | exact ⟨by rw [if_neg h50], fσ1⟩
      · skip
        have h28 := bI_f h28
        exact absurd (h28.symm.trans (q_in_ok (by omega) (by omega) (by decide))) (by decide)
theorem m_mostOf_no {G : qx_G} {σ : qx_S} {S : qS} (hS : qx_mi σ 207 = S) {pe : Nat} (e1 : S 1 = nI pe) {k x : Int32} (hb : (q_is x pe && q_in64 k.toInt64 (lN 2) (lN 4)) = false) : qx_M G qc_T 7 YX12_mostOf [.ref 197, .int k, .int x] σ (qr (-1) σ) := by
  refine qx_M_in rfl (Nat.le_of_ble_eq_true rfl) ?_
  refine qy_wp_ok (c := CX12_mostOf) (cuts := []) vX12_mostOf wX12_mostOf 2000 0 _ _ _ ?_
  refine And.intro rfl (Exists.intro _ (And.intro (by decide) (qx_M_mono (m_isPerson hS e1 x) ?_)))
  rintro _ _ ⟨rfl, rfl⟩
  refine And.intro (fun h5 => ?_) (fun h5 => ?_)
  · skip
    have h5 := bI_f h5
    refine Exists.intro ((-1)) (And.intro (by decide) ?_)
    exact ⟨rfl, rfl⟩
  · skip
    have h5 := bI_t h5
    refine Exists.intro k.toInt64 (And.intro rfl ?_)
    refine Exists.intro (lN 2) (And.intro (by decide) ?_)
    refine Exists.intro (lN 4) (And.intro (by decide) ?_)
    refine Exists.intro _ (And.intro (by decide) (qx_M_mono (m_in (v := k.toInt64) (l := (lN 2)) (h := (lN 4))) ?_))
    rintro _ _ ⟨rfl, rfl⟩
    refine And.intro (fun h19 => ?_) (fun h19 => ?_)
    · skip
      have h19 := bI_t h19
      rw [h5, h19] at hb; cases hb
    · skip
      have h19 := bI_f h19
      refine Exists.intro ((-1)) (And.intro (by decide) ?_)
      exact ⟨rfl, rfl⟩
theorem m_mostOf_ok {G : qx_G} {σ : qx_S} {S : qS} {rf : Option qR} (hX : mX σ S rf none) (g : gS S) {k p : Nat} (hk2 : 2 ≤ k) (hk4 : k ≤ 4) (hp : p < s_n S 1) : qx_M G qc_T 7 YX12_mostOf [.ref 197, .int (nI k), .int (nI p)] σ (fun r s => r = some (.int (nI (q_tk S rf none k p))) ∧ ql ((217, none) :: lFm) σ s) := by
  have hS := hX.1
  have h10 := g.2.1.2
  refine qx_M_in rfl (Nat.le_of_ble_eq_true rfl) ?_
  refine qy_wp_ok (c := CX12_mostOf) (cuts := []) vX12_mostOf wX12_mostOf 2000 0 _ _ _ ?_
  refine And.intro rfl (Exists.intro _ (And.intro (by decide) (qx_M_mono (m_isPerson hS g.2.1.1 (nI p)) ?_)))
  rintro _ _ ⟨rfl, rfl⟩
  refine And.intro (fun h5 => ?_) (fun h5 => ?_)
  · skip
    have h5 := bI_f h5
    exact absurd (h5.symm.trans (q_is_ok hp (by omega))) (by decide)
  · skip
    have h5 := bI_t h5
    refine Exists.intro ((nI k).toInt64) (And.intro rfl ?_)
    refine Exists.intro (lN 2) (And.intro (by decide) ?_)
    refine Exists.intro (lN 4) (And.intro (by decide) ?_)
    refine Exists.intro _ (And.intro (by decide) (qx_M_mono (m_in (v := ((nI k).toInt64)) (l := (lN 2)) (h := (lN 4))) ?_))
    rintro _ _ ⟨rfl, rfl⟩
    refine And.intro (fun h19 => ?_) (fun h19 => ?_)
    · skip
      have h19 := bI_t h19
      refine And.intro rfl (Exists.intro _ (And.intro (by decide) (qx_M_mono (m_findsMost hX g hk2 hk4) ?_)))
      rintro _ σ1 ⟨rfl, fσ1, aσ1, bσ1⟩
      refine And.intro rfl (Exists.intro _ (And.intro (by decide) (qx_M_mono (m_followsMost bσ1.1 g aσ1) ?_)))
      rintro _ σ2 ⟨rfl, fσ2, cσ2⟩
      refine And.intro rfl (Exists.intro 217 (And.intro rfl ?_))
      refine Exists.intro (p) (Exists.intro (nI (q_tk S rf none k p)) (And.intro rfl (And.intro ⟨10, rfl, by omega, by decide⟩ (And.intro (cσ2 p (by omega)) ?_))))
      exact ⟨rfl, (fσ1.mn rfl).tr (fσ2.mn rfl)⟩
    · skip
      have h19 := bI_f h19
      exact absurd (h19.symm.trans (q_in_ok (by omega) (by omega) (by decide))) (by decide)

