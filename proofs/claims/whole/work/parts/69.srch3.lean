/-! THE REFERENCE: begins -/
def q_B0 (n : Nat) : q_B := q_ap (0, fun _ => (0, 0, 0, 0, 0, 0)) (n, 0, 0, 0, 0, 1)
theorem mS.first {σ s s' : qx_S} {n j : Nat} (hn : n < 1073741824) (hsl : ∀ j, j < 4096 → qx_mi σ 224 j = nI 0) (E : hE q_h1 (fun _ => 0) (fun _ => 0) n j) (w : q_cw σ s 0 n (-1) 0 0 j) (e : s' = qx_wi s 223 0 (nI 1)) : mS s' (q_B0 n) := by
  obtain ⟨-, w1, w2, w3, w4, w5, w6, w7⟩ := w
  have f := qn_wi e
  refine ⟨show 1 ≤ 2001 by decide, (f.i 197 45 rfl).trans w1, fun i hi => ?_, va_up (fun _ => 0) j (0 + 1), ?_, fun k hk => ?_⟩
  · have hi' : i < 1 := hi
    obtain rfl : i = 0 := by omega
    refine ⟨(f.i 219 0 rfl).trans ((congrFun w2 0).trans (va_up_self _ _ _)), hn, (f.i 220 0 rfl).trans ((congrFun w3 0).trans (va_up_self _ _ _)), (f.i 221 0 rfl).trans ((congrFun w4 0).trans (va_up_self _ _ _)), (f.i 222 0 rfl).trans ((congrFun w5 0).trans (va_up_self _ _ _)), Nat.le_refl _, qn_eq e⟩
  · have k := (hI.zero q_h1 (fun _ => 0)).add E rfl
    rw [show q_co (q_B0 n) = va_up (fun _ => 0) 0 n from q_co_ap _ _]
    exact k
  · refine (f.i 224 k rfl).trans ((congrFun w7 k).trans ?_)
    by_cases z : k = j
    · rw [z, va_up_self, va_up_self]
    · rw [va_up_ne _ _ z, va_up_ne _ _ z]
      exact hsl k hk
theorem l_begins {G : qx_G} {σ0 : qx_S} {Φ : qx_F} (hcont : ∀ s, ql [(224, none)] σ0 s → (∀ j, j < 4096 → qx_mi s 224 j = nI 0) → qx_K G qc_T 2 RX12 YX12_begins 22 [.ref 197, .retAddr 0] [] s Φ) : ∀ (m k : Nat) (σ : qx_S), m = 4096 - k → k ≤ 4096 → ql [(224, none)] σ0 σ → (∀ j, j < k → qx_mi σ 224 j = nI 0) →
    qx_K G qc_T 2 RX12 YX12_begins 2 [.ref 197, .int (nI k)] [] σ Φ := by
  intro m
  induction m using Nat.strongRecOn with
  | _ m ih =>
    intro k σ hm hk hf hz
    rcases Nat.lt_or_ge k 4096 with hlt | hge
    · skip
      refine qy_wp_ok (c := CX12_begins) (cuts := [2, 22]) vX12_begins wX12_begins 2000 2 _ _ _ ?_
      refine Exists.intro (nI 4096) (And.intro rfl ?_)
      refine And.intro (fun h6 => ?_) (fun h6 => ?_)
      · skip
        have h6 := nI_leT (a := 4096) (b := k) (by decide) (by omega) h6
        exact absurd h6 (by omega)
      · skip
        have h6 := nI_leF (a := 4096) (b := k) (by decide) (by omega) h6
        refine And.intro rfl (Exists.intro 224 (And.intro rfl ?_))
        refine Exists.intro (nI 0) (And.intro rfl ?_)
        obtain ⟨σ1, eσ1⟩ : ∃ zs, zs = (qx_wi σ 224 k (nI 0)) := ⟨_, rfl⟩
        have fσ1 := qn_wi eσ1
        refine Exists.intro (k) (Exists.intro σ1 (And.intro rfl (And.intro ⟨4096, rfl, by omega, by decide⟩ (And.intro eσ1.symm ?_))))
        have hf_σ1 : ql [(224, none)] σ0 σ1 := hf.tr fσ1
        refine Exists.intro (nI (k + 1)) (And.intro (nI_add _ _) ?_)
        refine ih _ (by omega) (k + 1) _ rfl (by omega) hf_σ1 (fun j hj => ?_)
        rcases Nat.lt_or_ge j k with z | z
        · exact (qn_ne eσ1 (Or.inr (by omega))).trans (hz j z)
        · obtain rfl : j = k := by omega
          exact qn_eq eσ1
    · obtain rfl : k = 4096 := by omega
      refine qy_wp_ok (c := CX12_begins) (cuts := [2, 22]) vX12_begins wX12_begins 2000 2 _ _ _ ?_
      refine Exists.intro (nI 4096) (And.intro rfl ?_)
      refine And.intro (fun h6 => ?_) (fun h6 => ?_)
      · skip
        refine qx_K_le (ls := [.ref 197, .retAddr 0]) ⟨Or.inr rfl, Or.inl rfl, trivial⟩ ?_
        exact hcont _ hf hz
      · skip
        exact absurd (by decide) h6
theorem m_begins {G : qx_G} {σ : qx_S} {S : qS} (hS : qx_mi σ 207 = S) (g : gS S) : qx_M G qc_T 2 YX12_begins [.ref 197] σ (fun r s => r = none ∧ ql lS σ s ∧ mS s (q_B0 (q_en (s_at S) (s_n S 1)))) := by
  have key : ∀ s, ql [(224, none)] σ s → (∀ j, j < 4096 → qx_mi s 224 j = nI 0) → qx_K G qc_T 2 RX12 YX12_begins 22 [.ref 197, .retAddr 0] [] s (fun r s => r = none ∧ ql lS σ s ∧ mS s (q_B0 (q_en (s_at S) (s_n S 1)))) := by
    intro s hf hsl
    have hS : qx_mi s 207 = S := (hf.row 207 (fun _ => rfl)).trans hS
    have hf := hf.mn (m := lS) (by decide)
    have hn : q_en (s_at S) (s_n S 1) < 1073741824 := q_en_lt (fun i hi => Nat.lt_of_lt_of_le (g.2.2 i hi).2 g.1.2) g.2.1.2
    refine qy_wp_ok (c := CX12_begins) (cuts := []) vX12_begins wX12_begins 2000 22 _ _ _ ?_
    refine Exists.intro (nI 0) (And.intro rfl ?_)
    obtain ⟨σ1, eσ1⟩ : ∃ zs, zs = (qx_wi s 197 45 (nI 0)) := ⟨_, rfl⟩
    have fσ1 := qn_wif eσ1
    refine And.intro rfl (Exists.intro 45 (Exists.intro σ1 (And.intro rfl (And.intro eσ1.symm ?_))))
    have hsl_σ1 : ∀ j, j < 4096 → qx_mi σ1 224 j = nI 0 := fun j hj => (fσ1.i 224 j rfl).trans (hsl j hj)
    have hS_σ1 : qx_mi σ1 207 = S := (fσ1.row 207 (fun _ => rfl)).trans hS
    have hf_σ1 : ql lS σ σ1 := hf.tr (fσ1.mn (by decide))
    refine And.intro rfl (Exists.intro _ (And.intro (by decide) (qx_M_mono (m_whereAll hS_σ1 g) ?_)))
    rintro _ _ ⟨rfl, rfl⟩
    refine Exists.intro ((-1)) (And.intro (by decide) ?_)
    refine Exists.intro (nI 0) (And.intro rfl ?_)
    refine And.intro rfl (Exists.intro _ (And.intro (by decide) (qx_M_mono (m_comes0 (qn_eq eσ1) hsl_σ1 hn) ?_)))
    rintro _ σ2 ⟨rfl, j, hj, eE, fσ2, wσ2⟩
    have hS_σ2 : qx_mi σ2 207 = S := (fσ2.row 207 (fun _ => rfl)).trans hS_σ1
    have hf_σ2 : ql lS σ σ2 := hf_σ1.tr (fσ2.mn (by decide))
    refine And.intro rfl (Exists.intro 223 (And.intro rfl ?_))
    refine Exists.intro (nI 0) (And.intro rfl ?_)
    refine Exists.intro (nI 1) (And.intro rfl ?_)
    obtain ⟨σ3, eσ3⟩ : ∃ zs, zs = (qx_wi σ2 223 0 (nI 1)) := ⟨_, rfl⟩
    have fσ3 := qn_wi eσ3
    refine Exists.intro (0) (Exists.intro σ3 (And.intro rfl (And.intro ⟨2001, rfl, by decide, by decide⟩ (And.intro eσ3.symm ?_))))
    have hS_σ3 : qx_mi σ3 207 = S := (fσ3.row 207 (fun _ => rfl)).trans hS_σ2
    have hf_σ3 : ql lS σ σ3 := hf_σ2.tr (fσ3.mn (by decide))
    exact ⟨rfl, hf_σ3, mS.first hn hsl_σ1 eE ⟨fσ2, wσ2⟩ eσ3⟩
  refine qx_M_in rfl (Nat.le_of_ble_eq_true rfl) ?_
  refine qy_wp_ok (c := CX12_begins) (cuts := [2]) vX12_begins wX12_begins 2000 0 _ _ _ ?_
  refine Exists.intro (nI 0) (And.intro rfl ?_)
  exact l_begins key _ 0 σ rfl (by omega) qf.rf (fun j hj => absurd hj (by omega))

