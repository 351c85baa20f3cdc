/-! THE REFERENCE: the book of situations -/
theorem m_slotOf1 {G : qx_G} {σ : qx_S} {code sl : Nat → Nat} {size n : Nat} (hs : size ≤ 2001) (H : hI q_h1 code size sl) (hsl : ∀ j, j < 4096 → qx_mi σ 224 j = nI (sl j)) (hcd : ∀ i, i < size → qx_mi σ 219 i = nI (code i) ∧ code i < 1073741824) (hn : n < 1073741824) : qx_M G qc_T 0 YX12_slotOf [.ref 197, .int (nI n)] σ (fun r s => ∃ j, j < 4096 ∧ r = some (.int (nI j)) ∧ hE q_h1 code sl n j ∧ ql [] σ s) :=
  qx_M_mono (m_slotOf hs H hsl hcd hn) (fun _ _ ⟨j, a, b, c, d⟩ => ⟨j, a, b, c, d ▸ qf.rf⟩)
theorem q_r1 {l : List (Nat × Option Nat)} {σ s : qx_S} {a : Nat} {X : Nat → Int32} (f : ql l σ s) (hp : ∀ j, pL l a j = false) (e : qx_mi σ a = X) : qx_mi s a = X := (f.row a hp).trans e
abbrev lS : List (Nat × Option Nat) := [(197, some 45), (219, none), (220, none), (221, none), (222, none), (223, none), (224, none)]
/-- one situation more is written down -/
def q_cw (σ s : qx_S) (size n : Nat) (fv : Int32) (c lv j : Nat) : Prop := ql lS σ s ∧ qx_mi s 197 45 = nI (size + 1) ∧ qx_mi s 219 = va_up (qx_mi σ 219) size (nI n) ∧ qx_mi s 220 = va_up (qx_mi σ 220) size fv ∧ qx_mi s 221 = va_up (qx_mi σ 221) size (nI c) ∧ qx_mi s 222 = va_up (qx_mi σ 222) size (nI lv) ∧ qx_mi s 223 = va_up (qx_mi σ 223) size (nI 0) ∧ qx_mi s 224 = va_up (qx_mi σ 224) j (nI (size + 1))
theorem m_comes {G : qx_G} {σ : qx_S} {code sl : Nat → Nat} {size n f lv c : Nat} (hs : size ≤ 2000) (H : hI q_h1 code size sl) (hz : qx_mi σ 197 45 = nI size) (hsl : ∀ j, j < 4096 → qx_mi σ 224 j = nI (sl j)) (hcd : ∀ i, i < size → qx_mi σ 219 i = nI (code i) ∧ code i < 1073741824) (hn : n < 1073741824) (hf : f < size) (hlv : qx_mi σ 222 f = nI lv) (hl : lv ≤ 2000) (hc : c < 256) : qx_M G qc_T 1 YX12_comes [.ref 197, .int (nI n), .int (nI f), .int (nI c)] σ (fun r s => r = none ∧ ∃ j, j < 4096 ∧ hE q_h1 code sl n j ∧ q_cw σ s size n (nI f) c (lv + 1) j) := by
  refine qx_M_in rfl (Nat.le_of_ble_eq_true rfl) ?_
  refine qy_wp_ok (c := CX12_comes) (cuts := []) vX12_comes wX12_comes 2000 0 _ _ _ ?_
  refine And.intro rfl (Exists.intro 219 (And.intro rfl ?_))
  refine And.intro rfl (Exists.intro 45 (Exists.intro (nI size) (And.intro rfl (And.intro hz ?_))))
  obtain ⟨σ1, eσ1⟩ : ∃ zs, zs = (qx_wi σ 219 size (nI n)) := ⟨_, rfl⟩
  have fσ1 := qn_wi eσ1
  refine Exists.intro (size) (Exists.intro σ1 (And.intro rfl (And.intro ⟨2001, rfl, by omega, by decide⟩ (And.intro eσ1.symm ?_))))
  have hsl_σ1 : ∀ j, j < 4096 → qx_mi σ1 224 j = nI (sl j) := fun j hj => (fσ1.i 224 j rfl).trans (hsl j hj)
  have hcd_σ1 : ∀ i, i < size → qx_mi σ1 219 i = nI (code i) ∧ code i < 1073741824 := fun i hi => ⟨(qn_ne eσ1 (Or.inr (by omega))).trans (hcd i hi).1, (hcd i hi).2⟩
  refine And.intro rfl (Exists.intro 220 (And.intro rfl ?_))
  refine And.intro rfl (Exists.intro 45 (Exists.intro (nI size) (And.intro rfl (And.intro ((fσ1.i _ _ rfl).trans (hz)) ?_))))
  obtain ⟨σ2, eσ2⟩ : ∃ zs, zs = (qx_wi σ1 220 size (nI f)) := ⟨_, rfl⟩
  have fσ2 := qn_wi eσ2
  refine Exists.intro (size) (Exists.intro σ2 (And.intro rfl (And.intro ⟨2001, rfl, by omega, by decide⟩ (And.intro eσ2.symm ?_))))
  have hsl_σ2 : ∀ j, j < 4096 → qx_mi σ2 224 j = nI (sl j) := fun j hj => (fσ2.i 224 j rfl).trans (hsl_σ1 j hj)
  have hcd_σ2 : ∀ i, i < size → qx_mi σ2 219 i = nI (code i) ∧ code i < 1073741824 := fun i hi => ⟨(fσ2.i 219 i rfl).trans (hcd_σ1 i hi).1, (hcd_σ1 i hi).2⟩
  refine And.intro rfl (Exists.intro 221 (And.intro rfl ?_))
  refine And.intro rfl (Exists.intro 45 (Exists.intro (nI size) (And.intro rfl (And.intro ((fσ2.i _ _ rfl).trans ((fσ1.i _ _ rfl).trans (hz))) ?_))))
  obtain ⟨σ3, eσ3⟩ : ∃ zs, zs = (qx_wi σ2 221 size (nI c)) := ⟨_, rfl⟩
  have fσ3 := qn_wi eσ3
  refine Exists.intro (size) (Exists.intro σ3 (And.intro rfl (And.intro ⟨2001, rfl, by omega, by decide⟩ (And.intro eσ3.symm ?_))))
  have hsl_σ3 : ∀ j, j < 4096 → qx_mi σ3 224 j = nI (sl j) := fun j hj => (fσ3.i 224 j rfl).trans (hsl_σ2 j hj)
  have hcd_σ3 : ∀ i, i < size → qx_mi σ3 219 i = nI (code i) ∧ code i < 1073741824 := fun i hi => ⟨(fσ3.i 219 i rfl).trans (hcd_σ2 i hi).1, (hcd_σ2 i hi).2⟩
  refine And.intro rfl (Exists.intro 222 (And.intro rfl ?_))
  refine And.intro rfl (Exists.intro 45 (Exists.intro (nI size) (And.intro rfl (And.intro ((fσ3.i _ _ rfl).trans ((fσ2.i _ _ rfl).trans ((fσ1.i _ _ rfl).trans (hz)))) ?_))))
  refine And.intro (fun h39 => ?_) (fun h39 => ?_)
  · skip
    have h39 := nI_leT (a := 0) (b := f) (by decide) (by omega) h39
    refine And.intro rfl (Exists.intro 222 (And.intro rfl ?_))
    refine Exists.intro (f) (Exists.intro (nI lv) (And.intro rfl (And.intro ⟨2001, rfl, by omega, by decide⟩ (And.intro ((fσ3.i _ _ rfl).trans ((fσ2.i _ _ rfl).trans ((fσ1.i _ _ rfl).trans (hlv)))) ?_))))
    refine Exists.intro (nI 1) (And.intro rfl ?_)
    refine Exists.intro (nI (lv + 1)) (And.intro (nI_add _ _) ?_)
    obtain ⟨σ4, eσ4⟩ : ∃ zs, zs = (qx_wi σ3 222 size (nI (lv + 1))) := ⟨_, rfl⟩
    have fσ4 := qn_wi eσ4
    refine Exists.intro (size) (Exists.intro σ4 (And.intro rfl (And.intro ⟨2001, rfl, by omega, by decide⟩ (And.intro eσ4.symm ?_))))
    have hsl_σ4 : ∀ j, j < 4096 → qx_mi σ4 224 j = nI (sl j) := fun j hj => (fσ4.i 224 j rfl).trans (hsl_σ3 j hj)
    have hcd_σ4 : ∀ i, i < size → qx_mi σ4 219 i = nI (code i) ∧ code i < 1073741824 := fun i hi => ⟨(fσ4.i 219 i rfl).trans (hcd_σ3 i hi).1, (hcd_σ3 i hi).2⟩
    refine And.intro rfl (Exists.intro 223 (And.intro rfl ?_))
    refine And.intro rfl (Exists.intro 45 (Exists.intro (nI size) (And.intro rfl (And.intro ((fσ4.i _ _ rfl).trans ((fσ3.i _ _ rfl).trans ((fσ2.i _ _ rfl).trans ((fσ1.i _ _ rfl).trans (hz))))) ?_))))
    refine Exists.intro (nI 0) (And.intro rfl ?_)
    obtain ⟨σ5, eσ5⟩ : ∃ zs, zs = (qx_wi σ4 223 size (nI 0)) := ⟨_, rfl⟩
    have fσ5 := qn_wi eσ5
    refine Exists.intro (size) (Exists.intro σ5 (And.intro rfl (And.intro ⟨2001, rfl, by omega, by decide⟩ (And.intro eσ5.symm ?_))))
    have hsl_σ5 : ∀ j, j < 4096 → qx_mi σ5 224 j = nI (sl j) := fun j hj => (fσ5.i 224 j rfl).trans (hsl_σ4 j hj)
    have hcd_σ5 : ∀ i, i < size → qx_mi σ5 219 i = nI (code i) ∧ code i < 1073741824 := fun i hi => ⟨(fσ5.i 219 i rfl).trans (hcd_σ4 i hi).1, (hcd_σ4 i hi).2⟩
    refine And.intro rfl (Exists.intro 224 (And.intro rfl ?_))
    refine And.intro rfl (Exists.intro _ (And.intro (by decide) (qx_M_mono (m_slotOf1 (by omega) H hsl_σ5 hcd_σ5 hn) ?_)))
    rintro _ σ6 ⟨j, hj, rfl, eE, fσ6⟩
    have hsl_σ6 : ∀ j, j < 4096 → qx_mi σ6 224 j = nI (sl j) := fun j hj => (fσ6.i 224 j rfl).trans (hsl_σ5 j hj)
    have hcd_σ6 : ∀ i, i < size → qx_mi σ6 219 i = nI (code i) ∧ code i < 1073741824 := fun i hi => ⟨(fσ6.i 219 i rfl).trans (hcd_σ5 i hi).1, (hcd_σ5 i hi).2⟩
    refine And.intro rfl (Exists.intro 45 (Exists.intro (nI size) (And.intro rfl (And.intro ((fσ6.i _ _ rfl).trans ((fσ5.i _ _ rfl).trans ((fσ4.i _ _ rfl).trans ((fσ3.i _ _ rfl).trans ((fσ2.i _ _ rfl).trans ((fσ1.i _ _ rfl).trans (hz))))))) ?_))))
    refine Exists.intro (nI 1) (And.intro rfl ?_)
    refine Exists.intro (nI (size + 1)) (And.intro (nI_add _ _) ?_)
    obtain ⟨σ7, eσ7⟩ : ∃ zs, zs = (qx_wi σ6 224 j (nI (size + 1))) := ⟨_, rfl⟩
    have fσ7 := qn_wi eσ7
    refine Exists.intro (j) (Exists.intro σ7 (And.intro rfl (And.intro ⟨4096, rfl, by omega, by decide⟩ (And.intro eσ7.symm ?_))))
    have hcd_σ7 : ∀ i, i < size → qx_mi σ7 219 i = nI (code i) ∧ code i < 1073741824 := fun i hi => ⟨(fσ7.i 219 i rfl).trans (hcd_σ6 i hi).1, (hcd_σ6 i hi).2⟩
    refine And.intro rfl (Exists.intro 45 (Exists.intro (nI size) (And.intro rfl (And.intro ((fσ7.i _ _ rfl).trans ((fσ6.i _ _ rfl).trans ((fσ5.i _ _ rfl).trans ((fσ4.i _ _ rfl).trans ((fσ3.i _ _ rfl).trans ((fσ2.i _ _ rfl).trans ((fσ1.i _ _ rfl).trans (hz)))))))) ?_))))
    refine Exists.intro (nI 1) (And.intro rfl ?_)
    refine Exists.intro (nI (size + 1)) (And.intro (nI_add _ _) ?_)
    obtain ⟨σ8, eσ8⟩ : ∃ zs, zs = (qx_wi σ7 197 45 (nI (size + 1))) := ⟨_, rfl⟩
    have fσ8 := qn_wif eσ8
    refine And.intro rfl (Exists.intro 45 (Exists.intro σ8 (And.intro rfl (And.intro eσ8.symm ?_))))
    have hcd_σ8 : ∀ i, i < size → qx_mi σ8 219 i = nI (code i) ∧ code i < 1073741824 := fun i hi => ⟨(fσ8.i 219 i rfl).trans (hcd_σ7 i hi).1, (hcd_σ7 i hi).2⟩
    refine ⟨rfl, j, hj, eE, ?_, qn_eq eσ8, ?_, ?_, ?_, ?_, ?_, ?_⟩
    · exact (fσ1.mn (m := lS) (by decide)).tr ((fσ2.mn (by decide)).tr ((fσ3.mn (by decide)).tr ((fσ4.mn (by decide)).tr ((fσ5.mn (by decide)).tr ((fσ6.mn (by decide)).tr ((fσ7.mn (by decide)).tr (fσ8.mn (by decide))))))))
    · exact q_r1 fσ8 (fun _ => rfl) (q_r1 fσ7 (fun _ => rfl) (q_r1 fσ6 (fun _ => rfl) (q_r1 fσ5 (fun _ => rfl) (q_r1 fσ4 (fun _ => rfl) (q_r1 fσ3 (fun _ => rfl) (q_r1 fσ2 (fun _ => rfl) (qn_rowS eσ1 rfl)))))))
    · exact q_r1 fσ8 (fun _ => rfl) (q_r1 fσ7 (fun _ => rfl) (q_r1 fσ6 (fun _ => rfl) (q_r1 fσ5 (fun _ => rfl) (q_r1 fσ4 (fun _ => rfl) (q_r1 fσ3 (fun _ => rfl) (qn_rowS eσ2 (q_r1 fσ1 (fun _ => rfl) rfl)))))))
    · exact q_r1 fσ8 (fun _ => rfl) (q_r1 fσ7 (fun _ => rfl) (q_r1 fσ6 (fun _ => rfl) (q_r1 fσ5 (fun _ => rfl) (q_r1 fσ4 (fun _ => rfl) (qn_rowS eσ3 (q_r1 fσ2 (fun _ => rfl) (q_r1 fσ1 (fun _ => rfl) rfl)))))))
    · exact q_r1 fσ8 (fun _ => rfl) (q_r1 fσ7 (fun _ => rfl) (q_r1 fσ6 (fun _ => rfl) (q_r1 fσ5 (fun _ => rfl) (qn_rowS eσ4 (q_r1 fσ3 (fun _ => rfl) (q_r1 fσ2 (fun _ => rfl) (q_r1 fσ1 (fun _ => rfl) rfl)))))))
    · exact q_r1 fσ8 (fun _ => rfl) (q_r1 fσ7 (fun _ => rfl) (q_r1 fσ6 (fun _ => rfl) (qn_rowS eσ5 (q_r1 fσ4 (fun _ => rfl) (q_r1 fσ3 (fun _ => rfl) (q_r1 fσ2 (fun _ => rfl) (q_r1 fσ1 (fun _ => rfl) rfl)))))))
    · exact q_r1 fσ8 (fun _ => rfl) (qn_rowS eσ7 (q_r1 fσ6 (fun _ => rfl) (q_r1 fσ5 (fun _ => rfl) (q_r1 fσ4 (fun _ => rfl) (q_r1 fσ3 (fun _ => rfl) (q_r1 fσ2 (fun _ => rfl) (q_r1 fσ1 (fun _ => rfl) rfl)))))))
  · skip
    have h39 := nI_leF (a := 0) (b := f) (by decide) (by omega) h39
    exact absurd h39 (by omega)
theorem m_comes0 {G : qx_G} {σ : qx_S} {n : Nat} (hz : qx_mi σ 197 45 = nI 0) (hsl : ∀ j, j < 4096 → qx_mi σ 224 j = nI 0) (hn : n < 1073741824) : qx_M G qc_T 1 YX12_comes [.ref 197, .int (nI n), .int (-1), .int (nI 0)] σ (fun r s => r = none ∧ ∃ j, j < 4096 ∧ hE q_h1 (fun _ => 0) (fun _ => 0) n j ∧ q_cw σ s 0 n (-1) 0 0 j) := by
  have hcd : ∀ i, i < 0 → qx_mi σ 219 i = nI ((fun _ => 0) i) ∧ (fun _ => 0) i < 1073741824 := fun i hi => absurd hi (by omega)
  refine qx_M_in rfl (Nat.le_of_ble_eq_true rfl) ?_
  refine qy_wp_ok (c := CX12_comes) (cuts := []) vX12_comes wX12_comes 2000 0 _ _ _ ?_
  refine And.intro rfl (Exists.intro 219 (And.intro rfl ?_))
  refine And.intro rfl (Exists.intro 45 (Exists.intro (nI 0) (And.intro rfl (And.intro hz ?_))))
  obtain ⟨σ1, eσ1⟩ : ∃ zs, zs = (qx_wi σ 219 0 (nI n)) := ⟨_, rfl⟩
  have fσ1 := qn_wi eσ1
  refine Exists.intro (0) (Exists.intro σ1 (And.intro rfl (And.intro ⟨2001, rfl, by decide, by decide⟩ (And.intro eσ1.symm ?_))))
  have hsl_σ1 : ∀ j, j < 4096 → qx_mi σ1 224 j = nI 0 := fun j hj => (fσ1.i 224 j rfl).trans (hsl j hj)
  refine And.intro rfl (Exists.intro 220 (And.intro rfl ?_))
  refine And.intro rfl (Exists.intro 45 (Exists.intro (nI 0) (And.intro rfl (And.intro ((fσ1.i _ _ rfl).trans (hz)) ?_))))
  obtain ⟨σ2, eσ2⟩ : ∃ zs, zs = (qx_wi σ1 220 0 (-1)) := ⟨_, rfl⟩
  have fσ2 := qn_wi eσ2
  refine Exists.intro (0) (Exists.intro σ2 (And.intro rfl (And.intro ⟨2001, rfl, by decide, by decide⟩ (And.intro eσ2.symm ?_))))
  have hsl_σ2 : ∀ j, j < 4096 → qx_mi σ2 224 j = nI 0 := fun j hj => (fσ2.i 224 j rfl).trans (hsl_σ1 j hj)
  refine And.intro rfl (Exists.intro 221 (And.intro rfl ?_))
  refine And.intro rfl (Exists.intro 45 (Exists.intro (nI 0) (And.intro rfl (And.intro ((fσ2.i _ _ rfl).trans ((fσ1.i _ _ rfl).trans (hz))) ?_))))
  obtain ⟨σ3, eσ3⟩ : ∃ zs, zs = (qx_wi σ2 221 0 (nI 0)) := ⟨_, rfl⟩
  have fσ3 := qn_wi eσ3
  refine Exists.intro (0) (Exists.intro σ3 (And.intro rfl (And.intro ⟨2001, rfl, by decide, by decide⟩ (And.intro eσ3.symm ?_))))
  have hsl_σ3 : ∀ j, j < 4096 → qx_mi σ3 224 j = nI 0 := fun j hj => (fσ3.i 224 j rfl).trans (hsl_σ2 j hj)
  refine And.intro rfl (Exists.intro 222 (And.intro rfl ?_))
  refine And.intro rfl (Exists.intro 45 (Exists.intro (nI 0) (And.intro rfl (And.intro ((fσ3.i _ _ rfl).trans ((fσ2.i _ _ rfl).trans ((fσ1.i _ _ rfl).trans (hz)))) ?_))))
  refine And.intro (fun h39 => ?_) (fun h39 => ?_)
  · skip
    exact absurd h39 (by decide)
  · skip
    refine Exists.intro (nI 0) (And.intro rfl ?_)
    obtain ⟨σ4, eσ4⟩ : ∃ zs, zs = (qx_wi σ3 222 0 (nI 0)) := ⟨_, rfl⟩
    have fσ4 := qn_wi eσ4
    refine Exists.intro (0) (Exists.intro σ4 (And.intro rfl (And.intro ⟨2001, rfl, by decide, by decide⟩ (And.intro eσ4.symm ?_))))
    have hsl_σ4 : ∀ j, j < 4096 → qx_mi σ4 224 j = nI 0 := fun j hj => (fσ4.i 224 j rfl).trans (hsl_σ3 j hj)
    refine And.intro rfl (Exists.intro 223 (And.intro rfl ?_))
    refine And.intro rfl (Exists.intro 45 (Exists.intro (nI 0) (And.intro rfl (And.intro ((fσ4.i _ _ rfl).trans ((fσ3.i _ _ rfl).trans ((fσ2.i _ _ rfl).trans ((fσ1.i _ _ rfl).trans (hz))))) ?_))))
    refine Exists.intro (nI 0) (And.intro rfl ?_)
    obtain ⟨σ5, eσ5⟩ : ∃ zs, zs = (qx_wi σ4 223 0 (nI 0)) := ⟨_, rfl⟩
    have fσ5 := qn_wi eσ5
    refine Exists.intro (0) (Exists.intro σ5 (And.intro rfl (And.intro ⟨2001, rfl, by decide, by decide⟩ (And.intro eσ5.symm ?_))))
    have hsl_σ5 : ∀ j, j < 4096 → qx_mi σ5 224 j = nI 0 := fun j hj => (fσ5.i 224 j rfl).trans (hsl_σ4 j hj)
    refine And.intro rfl (Exists.intro 224 (And.intro rfl ?_))
    refine And.intro rfl (Exists.intro _ (And.intro (by decide) (qx_M_mono (m_slotOf1 (code := fun _ => 0) (sl := fun _ => 0) (size := 0) (by omega) (hI.zero _ _) hsl_σ5 (fun i hi => absurd hi (by omega)) hn) ?_)))
    rintro _ σ6 ⟨j, hj, rfl, eE, fσ6⟩
    have hsl_σ6 : ∀ j, j < 4096 → qx_mi σ6 224 j = nI 0 := fun j hj => (fσ6.i 224 j rfl).trans (hsl_σ5 j hj)
    refine And.intro rfl (Exists.intro 45 (Exists.intro (nI 0) (And.intro rfl (And.intro ((fσ6.i _ _ rfl).trans ((fσ5.i _ _ rfl).trans ((fσ4.i _ _ rfl).trans ((fσ3.i _ _ rfl).trans ((fσ2.i _ _ rfl).trans ((fσ1.i _ _ rfl).trans (hz))))))) ?_))))
    refine Exists.intro (nI 1) (And.intro rfl ?_)
    refine Exists.intro (nI 1) (And.intro rfl ?_)
    obtain ⟨σ7, eσ7⟩ : ∃ zs, zs = (qx_wi σ6 224 j (nI 1)) := ⟨_, rfl⟩
    have fσ7 := qn_wi eσ7
    refine Exists.intro (j) (Exists.intro σ7 (And.intro rfl (And.intro ⟨4096, rfl, by omega, by decide⟩ (And.intro eσ7.symm ?_))))
    refine And.intro rfl (Exists.intro 45 (Exists.intro (nI 0) (And.intro rfl (And.intro ((fσ7.i _ _ rfl).trans ((fσ6.i _ _ rfl).trans ((fσ5.i _ _ rfl).trans ((fσ4.i _ _ rfl).trans ((fσ3.i _ _ rfl).trans ((fσ2.i _ _ rfl).trans ((fσ1.i _ _ rfl).trans (hz)))))))) ?_))))
    refine Exists.intro (nI 1) (And.intro rfl ?_)
    refine Exists.intro (nI 1) (And.intro rfl ?_)
    obtain ⟨σ8, eσ8⟩ : ∃ zs, zs = (qx_wi σ7 197 45 (nI 1)) := ⟨_, rfl⟩
    have fσ8 := qn_wif eσ8
    refine And.intro rfl (Exists.intro 45 (Exists.intro σ8 (And.intro rfl (And.intro eσ8.symm ?_))))
    refine ⟨rfl, j, hj, eE, ?_, qn_eq eσ8, ?_, ?_, ?_, ?_, ?_, ?_⟩
    · exact (fσ1.mn (m := lS) (by decide)).tr ((fσ2.mn (by decide)).tr ((fσ3.mn (by decide)).tr ((fσ4.mn (by decide)).tr ((fσ5.mn (by decide)).tr ((fσ6.mn (by decide)).tr ((fσ7.mn (by decide)).tr (fσ8.mn (by decide))))))))
    · exact q_r1 fσ8 (fun _ => rfl) (q_r1 fσ7 (fun _ => rfl) (q_r1 fσ6 (fun _ => rfl) (q_r1 fσ5 (fun _ => rfl) (q_r1 fσ4 (fun _ => rfl) (q_r1 fσ3 (fun _ => rfl) (q_r1 fσ2 (fun _ => rfl) (qn_rowS eσ1 rfl)))))))
    · exact q_r1 fσ8 (fun _ => rfl) (q_r1 fσ7 (fun _ => rfl) (q_r1 fσ6 (fun _ => rfl) (q_r1 fσ5 (fun _ => rfl) (q_r1 fσ4 (fun _ => rfl) (q_r1 fσ3 (fun _ => rfl) (qn_rowS eσ2 (q_r1 fσ1 (fun _ => rfl) rfl)))))))
    · exact q_r1 fσ8 (fun _ => rfl) (q_r1 fσ7 (fun _ => rfl) (q_r1 fσ6 (fun _ => rfl) (q_r1 fσ5 (fun _ => rfl) (q_r1 fσ4 (fun _ => rfl) (qn_rowS eσ3 (q_r1 fσ2 (fun _ => rfl) (q_r1 fσ1 (fun _ => rfl) rfl)))))))
    · exact q_r1 fσ8 (fun _ => rfl) (q_r1 fσ7 (fun _ => rfl) (q_r1 fσ6 (fun _ => rfl) (q_r1 fσ5 (fun _ => rfl) (qn_rowS eσ4 (q_r1 fσ3 (fun _ => rfl) (q_r1 fσ2 (fun _ => rfl) (q_r1 fσ1 (fun _ => rfl) rfl)))))))
    · exact q_r1 fσ8 (fun _ => rfl) (q_r1 fσ7 (fun _ => rfl) (q_r1 fσ6 (fun _ => rfl) (qn_rowS eσ5 (q_r1 fσ4 (fun _ => rfl) (q_r1 fσ3 (fun _ => rfl) (q_r1 fσ2 (fun _ => rfl) (q_r1 fσ1 (fun _ => rfl) rfl)))))))
    · exact q_r1 fσ8 (fun _ => rfl) (qn_rowS eσ7 (q_r1 fσ6 (fun _ => rfl) (q_r1 fσ5 (fun _ => rfl) (q_r1 fσ4 (fun _ => rfl) (q_r1 fσ3 (fun _ => rfl) (q_r1 fσ2 (fun _ => rfl) (q_r1 fσ1 (fun _ => rfl) rfl)))))))
/-- the book in memory -/
def mS (σ : qx_S) (B : q_B) : Prop := B.1 ≤ 2001 ∧ qx_mi σ 197 45 = nI B.1 ∧ (∀ i, i < B.1 → qx_mi σ 219 i = nI (q_co B i) ∧ q_co B i < 1073741824 ∧ qx_mi σ 220 i = (if i = 0 then (-1) else nI (q_fr1 B i)) ∧ qx_mi σ 221 i = nI (16 * q_ba B i + q_bb B i) ∧ qx_mi σ 222 i = nI (q_lv B i) ∧ q_lv B i ≤ i ∧ qx_mi σ 223 i = nI (q_wy B i)) ∧ ∃ sl, hI q_h1 (q_co B) B.1 sl ∧ ∀ j, j < 4096 → qx_mi σ 224 j = nI (sl j)
theorem mS.fr {σ s : qx_S} {B : q_B} {l : List (Nat × Option Nat)} (h : mS σ B) (f : ql l σ s) (hl : pL l 197 45 = false) (hr : ∀ a, 219 ≤ a → a ≤ 224 → ∀ j, pL l a j = false) : mS s B := by
  obtain ⟨a, b, c, sl, d, e⟩ := h
  refine ⟨a, (f.i _ _ hl).trans b, fun i hi => ?_, sl, d, fun j hj => (f.i _ _ (hr 224 (by omega) (by omega) j)).trans (e j hj)⟩
  obtain ⟨c1, c2, c3, c4, c5, c6, c7⟩ := c i hi
  exact ⟨(f.i _ _ (hr 219 (by omega) (by omega) i)).trans c1, c2, (f.i _ _ (hr 220 (by omega) (by omega) i)).trans c3, (f.i _ _ (hr 221 (by omega) (by omega) i)).trans c4, (f.i _ _ (hr 222 (by omega) (by omega) i)).trans c5, c6, (f.i _ _ (hr 223 (by omega) (by omega) i)).trans c7⟩
theorem q_co_ap (B : q_B) (e : q_E) : q_co (q_ap B e) = va_up (q_co B) B.1 e.1 := by
  funext i
  show (va_up B.2 B.1 e i).1 = _
  by_cases h : i = B.1
  · rw [h, va_up_self, va_up_self]
  · rw [va_up_ne _ _ h, va_up_ne _ _ h]
    rfl
theorem q_ap_old {B : q_B} {e : q_E} {i : Nat} (h : i < B.1) : (q_ap B e).2 i = B.2 i := va_up_ne _ _ (by omega)
theorem q_ap_new {B : q_B} {e : q_E} : (q_ap B e).2 B.1 = e := va_up_self _ _ _
theorem mS.add {σ s : qx_S} {B : q_B} {n f a b j : Nat} {sl : Nat → Nat} (h : mS σ B) (h0 : 0 < B.1) (hs : B.1 ≤ 2000) (hn : n < 1073741824) (hf : f < B.1) (hH : hI q_h1 (q_co B) B.1 sl) (hsl : ∀ j, j < 4096 → qx_mi σ 224 j = nI (sl j)) (hE' : hE q_h1 (q_co B) sl n j) (hj : sl j = 0) (w : q_cw σ s B.1 n (nI f) (16 * a + b) (q_lv B f + 1) j) : mS s (q_ap B (n, f, a, b, q_lv B f + 1, 0)) := by
  obtain ⟨-, w1, w2, w3, w4, w5, w6, w7⟩ := w
  obtain ⟨-, -, c, -⟩ := h
  refine ⟨Nat.succ_le_succ hs, w1, fun i hi => ?_, va_up sl j (B.1 + 1), ?_, fun k hk => ?_⟩
  · rw [w2, w3, w4, w5, w6]
    have hi' : i < B.1 + 1 := hi
    rcases Nat.lt_or_ge i B.1 with z | z
    · have ne : i ≠ B.1 := by omega
      rw [va_up_ne _ _ ne, va_up_ne _ _ ne, va_up_ne _ _ ne, va_up_ne _ _ ne, va_up_ne _ _ ne]
      unfold q_co q_fr1 q_ba q_bb q_lv q_wy
      rw [q_ap_old z]
      exact c i z
    · obtain rfl : i = B.1 := by omega
      rw [va_up_self, va_up_self, va_up_self, va_up_self, va_up_self]
      have hl := (c f hf).2.2.2.2.2.1
      have ne : ¬ B.1 = 0 := by omega
      unfold q_co q_fr1 q_ba q_bb q_wy
      rw [show q_lv (q_ap B (n, f, a, b, q_lv B f + 1, 0)) B.1 = q_lv B f + 1 from congrArg (fun e : q_E => e.2.2.2.2.1) q_ap_new, q_ap_new, if_neg ne]
      exact ⟨rfl, hn, rfl, rfl, rfl, by omega, rfl⟩
  · rw [q_co_ap]
    exact hH.add hE' hj
  · rw [w7]
    by_cases e : k = j
    · rw [e, va_up_self, va_up_self]
    · rw [va_up_ne _ _ e, va_up_ne _ _ e]
      exact hsl k hk
theorem m_comesB {G : qx_G} {σ : qx_S} {B : q_B} {n f a b : Nat} (h : mS σ B) (h0 : 0 < B.1) (hs : B.1 ≤ 2000) (hn : n < 1073741824) (hf : f < B.1) (ha : a < 10) (hb : b < 10) (hq : q_fi B n = none) : qx_M G qc_T 1 YX12_comes [.ref 197, .int (nI n), .int (nI f), .int (nI (16 * a + b))] σ (fun r s => r = none ∧ ql lS σ s ∧ mS s (q_ap B (n, f, a, b, q_lv B f + 1, 0))) := by
  obtain ⟨-, hz, c, sl, hH, hsl⟩ := id h
  have cf := c f hf
  refine qx_M_mono (m_comes hs hH hz hsl (fun i hi => ⟨(c i hi).1, (c i hi).2.1⟩) hn hf cf.2.2.2.2.1 (by omega) (by omega)) ?_
  rintro _ s ⟨rfl, j, hj, hE', w⟩
  refine ⟨rfl, w.1, mS.add h h0 hs hn hf hH hsl hE' ?_ w⟩
  rcases Nat.eq_zero_or_pos (sl j) with z | z
  · exact z
  · have y := hE'.some hH (by omega)
    exact absurd y.2 (q_fi_none.mp hq _ y.1)

