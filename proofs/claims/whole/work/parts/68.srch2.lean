/-! THE REFERENCE: the book of situations -/
theorem m_slotOf1 {G : qx_G} {σ : qx_S} {code sl : Nat → Nat} {size n : Nat} (hs : size ≤ 2001) (H : hI q_h1 code size sl) (hsl : ∀ j, j < 4096 → qx_mi σ 224 j = nI (sl j)) (hcd : ∀ i, i < size → qx_mi σ 219 i = nI (code i) ∧ code i < 1073741824) (hn : n < 1073741824) : qx_M G qc_T 0 YX12_slotOf [.ref 197, .int (nI n)] σ (fun r s => ∃ j, j < 4096 ∧ r = some (.int (nI j)) ∧ hE q_h1 code sl n j ∧ ql [] σ s) :=
  qx_M_mono (m_slotOf hs H hsl hcd hn) (fun _ _ ⟨j, a, b, c, d⟩ => ⟨j, a, b, c, d ▸ qf.rf⟩)
theorem q_r1 {l : List (Nat × Option Nat)} {σ s : qx_S} {a : Nat} {X : Nat → Int32} (f : ql l σ s) (hp : ∀ j, pL l a j = false) (e : qx_mi σ a = X) : qx_mi s a = X := (f.row a hp).trans e
abbrev lS : List (Nat × Option Nat) := [(197, some 45), (219, none), (220, none), (221, none), (222, none), (223, none), (224, none)]
/-- one situation more is written down -/
def q_cw (σ s : qx_S) (size n : Nat) (fv : Int32) (c lv j : Nat) : Prop := ql lS σ s ∧ qx_mi s 197 45 = nI (size + 1) ∧ qx_mi s 219 = va_up (qx_mi σ 219) size (nI n) ∧ qx_mi s 220 = va_up (qx_mi σ 220) size fv ∧ qx_mi s 221 = va_up (qx_mi σ 221) size (nI c) ∧ qx_mi s 222 = va_up (qx_mi σ 222) size (nI lv) ∧ qx_mi s 223 = va_up (qx_mi σ 223) size (nI 0) ∧ qx_mi s 224 = va_up (qx_mi σ 224) j (nI (size + 1))
theorem m_comes {G : qx_G} {σ : qx_S} {code sl : Nat → Nat} {size n f lv c : Nat} (hs : size ≤ 2000) (H : hI q_h1 code size sl) (hz : qx_mi σ 197 45 = nI size) (hsl : ∀ j, j < 4096 → qx_mi σ 224 j = nI (sl j)) (hcd : ∀ i, i < size → qx_mi σ 219 i = nI (code i) ∧ code i < 1073741824) (hn : n < 1073741824) (hf : f < size) (hlv : qx_mi σ 222 f = nI lv) (hl : lv ≤ 2000) (hc : c < 256) : qx_M G qc_T 1 YX12_comes [.ref 197, .int (nI n), .int (nI f), .int (nI c)] σ (fun r s => r = none ∧ ∃ j, j < 4096 ∧ hE q_h1 code sl n j ∧ q_cw σ s size n (nI f) c (lv + 1) j) := by
  refine qx_M_in rfl (Nat.le_of_ble_eq_true rfl) ?_
  refine qy_wp_ok (c := CX12_comes) (cuts := []) vX12_comes wX12_comes 2000 0 _ _ _ ?_
  refine And.intro rfl (Exists.intro 219 (And.intro rfl ?_))
  refine And.intro rfl (Exists.intro 45 (Exists.intro (nI size) (And.intro rfl (And.intro hz ?_))))
  obtain ⟨σ1, eσ1⟩ : ∃ zs, zs = (qx_wi σ 219 size (nI n)) := ⟨_, rfl⟩
  have fσ1 := qn_wi eσ1
  refine Exists.intro (size) (Exists.intro σ1 (And.intro rfl (And.intro ⟨2001, rfl, by omega, by decide⟩ (And.intro eσ1.symm ?_))))
  have hsl_σ1 : ∀ j, j < 4096 → qx_mi σ1 224 j = nI (sl j) := fun j hj => (fσ1.i 224 j rfl).trans (hsl j hj)
  have hcd_σ1 : ∀ i, i < size → qx_mi σ1 219 i = nI (code i) ∧ code i < 1073741824 := fun i hi => ⟨(qn_ne eσ1 (Or.inr (by omega))).trans (hcd i hi).1, (hcd i hi).2⟩
  refine And.intro rfl (Exists.intro 220 (And.intro rfl ?_))
  refine And.intro rfl (Exists.intro 45 (Exists.intro (nI size) (And.intro rfl (And.intro ((fσ1.i _ _ rfl).trans (hz)) ?_))))
  obtain ⟨σ2, eσ2⟩ : ∃ zs, zs = (qx_wi σ1 220 size (nI f)) := ⟨_, rfl⟩
  have fσ2 := qn_wi eσ2
  refine Exists.intro (size) (Exists.intro σ2 (And.intro rfl (And.intro ⟨2001, rfl, by omega, by decide⟩ (And.intro eσ2.symm ?_))))
  have hsl_σ2 : ∀ j, j < 4096 → qx_mi σ2 224 j = nI (sl j) := fun j hj => (fσ2.i 224 j rfl).trans (hsl_σ1 j hj)
  have hcd_σ2 : ∀ i, i < size → qx_mi σ2 219 i = nI (code i) ∧ code i < 1073741824 := fun i hi => ⟨(fσ2.i 219 i rfl).trans (hcd_σ1 i hi).1, (hcd_σ1 i hi).2⟩
  refine And.intro rfl (Exists.intro 221 (And.intro rfl ?_))
  refine And.intro rfl (Exists.intro 45 (Exists.intro (nI size) (And.intro rfl (And.intro ((fσ2.i _ _ rfl).trans ((fσ1.i _ _ rfl).trans (hz))) ?_))))
  obtain ⟨σ3, eσ3⟩ : ∃ zs, zs = (qx_wi σ2 221 size (nI c)) := ⟨_, rfl⟩
  have fσ3 := qn_wi eσ3
  refine Exists.intro (size) (Exists.intro σ3 (And.intro rfl (And.intro ⟨2001, rfl, by omega, by decide⟩ (And.intro eσ3.symm ?_))))
  have hsl_σ3 : ∀ j, j < 4096 → qx_mi σ3 224 j = nI (sl j) := fun j hj => (fσ3.i 224 j rfl).trans (hsl_σ2 j hj)
  have hcd_σ3 : ∀ i, i < size → qx_mi σ3 219 i = nI (code i) ∧ code i < 1073741824 := fun i hi => ⟨(fσ3.i 219 i rfl).trans (hcd_σ2 i hi).1, (hcd_σ2 i hi).2⟩
  refine And.intro rfl (Exists.intro 222 (And.intro rfl ?_))
  refine And.intro rfl (Exists.intro 45 (Exists.intro (nI size) (And.intro rfl (And.intro ((fσ3.i _ _ rfl).trans ((fσ2.i _ _ rfl).trans ((fσ1.i _ _ rfl).trans (hz)))) ?_))))
  refine And.intro (fun h39 => ?_) (fun h39 => ?_)
  · skip
    have h39 := nI_leT (a := 0) (b := f) (by decide) (by omega) h39
    refine And.intro rfl (Exists.intro 222 (And.intro rfl ?_))
    refine Exists.intro (f) (Exists.intro (nI lv) (And.intro rfl (And.intro ⟨2001, rfl, by omega, by decide⟩ (And.intro ((fσ3.i _ _ rfl).trans ((fσ2.i _ _ rfl).trans ((fσ1.i _ _ rfl).trans (hlv)))) ?_))))
    refine Exists.intro (nI 1) (And.intro rfl ?_)
    refine Exists.intro (nI (lv + 1)) (And.intro (nI_add _ _) ?_)
    obtain ⟨σ4, eσ4⟩ : ∃ zs, zs = (qx_wi σ3 222 size (nI (lv + 1))) := ⟨_, rfl⟩
    have fσ4 := qn_wi eσ4
    refine Exists.intro (size) (Exists.intro σ4 (And.intro rfl (And.intro ⟨2001, rfl, by omega, by decide⟩ (And.intro eσ4.symm ?_))))
    have hsl_σ4 : ∀ j, j < 4096 → qx_mi σ4 224 j = nI (sl j) := fun j hj => (fσ4.i 224 j rfl).trans (hsl_σ3 j hj)
    have hcd_σ4 : ∀ i, i < size → qx_mi σ4 219 i = nI (code i) ∧ code i < 1073741824 := fun i hi => ⟨(fσ4.i 219 i rfl).trans (hcd_σ3 i hi).1, (hcd_σ3 i hi).2⟩
    refine And.intro rfl (Exists.intro 223 (And.intro rfl ?_))
    refine And.intro rfl (Exists.intro 45 (Exists.intro (nI size) (And.intro rfl (And.intro ((fσ4.i _ _ rfl).trans ((fσ3.i _ _ rfl).trans ((fσ2.i _ _ rfl).trans ((fσ1.i _ _ rfl).trans (hz))))) ?_))))
    refine Exists.intro (nI 0) (And.intro rfl ?_)
    obtain ⟨σ5, eσ5⟩ : ∃ zs, zs = (qx_wi σ4 223 size (nI 0)) := ⟨_, rfl⟩
    have fσ5 := qn_wi eσ5
    refine Exists.intro (size) (Exists.intro σ5 (And.intro rfl (And.intro ⟨2001, rfl, by omega, by decide⟩ (And.intro eσ5.symm ?_))))
    have hsl_σ5 : ∀ j, j < 4096 → qx_mi σ5 224 j = nI (sl j) := fun j hj => (fσ5.i 224 j rfl).trans (hsl_σ4 j hj)
    have hcd_σ5 : ∀ i, i < size → qx_mi σ5 219 i = nI (code i) ∧ code i < 1073741824 := fun i hi => ⟨(fσ5.i 219 i rfl).trans (hcd_σ4 i hi).1, (hcd_σ4 i hi).2⟩
    refine And.intro rfl (Exists.intro 224 (And.intro rfl ?_))
    refine And.intro rfl (Exists.intro _ (And.intro (by decide) (qx_M_mono (m_slotOf1 (by omega) H hsl_σ5 hcd_σ5 hn) ?_)))
    rintro _ σ6 ⟨j, hj, rfl, eE, fσ6⟩
    have hsl_σ6 : ∀ j, j < 4096 → qx_mi σ6 224 j = nI (sl j) := fun j hj => (fσ6.i 224 j rfl).trans (hsl_σ5 j hj)
    have hcd_σ6 : ∀ i, i < size → qx_mi σ6 219 i = nI (code i) ∧ code i < 1073741824 := fun i hi => ⟨(fσ6.i 219 i rfl).trans (hcd_σ5 i hi).1, (hcd_σ5 i hi).2⟩
    refine And.intro rfl (Exists.intro 45 (Exists.intro (nI size) (And.intro rfl (And.intro ((fσ6.i _ _ rfl).trans ((fσ5.i _ _ rfl).trans ((fσ4.i _ _ rfl).trans ((fσ3.i _ _ rfl).trans ((fσ2.i _ _ rfl).trans ((fσ1.i _ _ rfl).trans (hz))))))) ?_))))
    refine Exists.intro (nI 1) (And.intro rfl ?_)
    refine Exists.intro (nI (size + 1)) (And.intro (nI_add _ _) ?_)
    obtain ⟨σ7, eσ7⟩ : ∃ zs, zs = (qx_wi σ6 224 j (nI (size + 1))) := ⟨_, rfl⟩
    have fσ7 := qn_wi eσ7
    refine Exists.intro (j) (Exists.intro σ7 (And.intro rfl (And.intro ⟨4096, rfl, by omega, by decide⟩ (And.intro eσ7.symm ?_))))
    have hcd_σ7 : ∀ i, i < size → qx_mi σ7 219 i = nI (code i) ∧ code i < 1073741824 := fun i hi => ⟨(fσ7.i 219 i rfl).trans (hcd_σ6 i hi).1, (hcd_σ6 i hi).2⟩
    refine And.intro rfl (Exists.intro 45 (Exists.intro (nI size) (And.intro rfl (And.intro ((fσ7.i _ _ rfl).trans ((fσ6.i _ _ rfl).trans ((fσ5.i _ _ rfl).trans ((fσ4.i _ _ rfl).trans ((fσ3.i _ _ rfl).trans ((fσ2.i _ _ rfl).trans ((fσ1.i _ _ rfl).trans (hz)))))))) ?_))))
    refine Exists.intro (nI 1) (And.intro rfl ?_)
    refine Exists.intro (nI (size + 1)) (And.intro (nI_add _ _) ?_)
    obtain ⟨σ8, eσ8⟩ : ∃ zs, zs = (qx_wi σ7 197 45 (nI (size + 1))) := ⟨_, rfl⟩
    have fσ8 := qn_wif eσ8
    refine And.intro rfl (Exists.intro 45 (Exists.intro σ8 (And.intro rfl (And.intro eσ8.symm ?_))))
    have hcd_σ8 : ∀ i, i < size → qx_mi σ8 219 i = nI (code i) ∧ code i < 1073741824 := fun i hi => ⟨(fσ8.i 219 i rfl).trans (hcd_σ7 i hi).1, (hcd_σ7 i hi).2⟩
    refine ⟨rfl, j, hj, eE, ?_, qn_eq eσ8, ?_, ?_, ?_, ?_, ?_, ?_⟩
    · exact (fσ1.mn (m := lS) (by decide)).tr ((fσ2.mn (by decide)).tr ((fσ3.mn (by decide)).tr ((fσ4.mn (by decide)).tr ((fσ5.mn (by decide)).tr ((fσ6.mn (by decide)).tr ((fσ7.mn (by decide)).tr (fσ8.mn (by decide))))))))
    · exact q_r1 fσ8 (fun _ => rfl) (q_r1 fσ7 (fun _ => rfl) (q_r1 fσ6 (fun _ => rfl) (q_r1 fσ5 (fun _ => rfl) (q_r1 fσ4 (fun _ => rfl) (q_r1 fσ3 (fun _ => rfl) (q_r1 fσ2 (fun _ => rfl) (qn_rowS eσ1 rfl)))))))
    · exact q_r1 fσ8 (fun _ => rfl) (q_r1 fσ7 (fun _ => rfl) (q_r1 fσ6 (fun _ => rfl) (q_r1 fσ5 (fun _ => rfl) (q_r1 fσ4 (fun _ => rfl) (q_r1 fσ3 (fun _ => rfl) (qn_rowS eσ2 (q_r1 fσ1 (fun _ => rfl) rfl)))))))
    · exact q_r1 fσ8 (fun _ => rfl) (q_r1 fσ7 (fun _ => rfl) (q_r1 fσ6 (fun _ => rfl) (q_r1 fσ5 (fun _ => rfl) (q_r1 fσ4 (fun _ => rfl) (qn_rowS eσ3 (q_r1 fσ2 (fun _ => rfl) (q_r1 fσ1 (fun _ => rfl) rfl)))))))
    · exact q_r1 fσ8 (fun _ => rfl) (q_r1 fσ7 (fun _ => rfl) (q_r1 fσ6 (fun _ => rfl) (q_r1 fσ5 (fun _ => rfl) (qn_rowS eσ4 (q_r1 fσ3 (fun _ => rfl) (q_r1 fσ2 (fun _ => rfl) (q_r1 fσ1 (fun _ => rfl) rfl)))))))
    · exact q_r1 fσ8 (fun _ => rfl) (q_r1 fσ7 (fun _ => rfl) (q_r1 fσ6 (fun _ => rfl) (qn_rowS eσ5 (q_r1 fσ4 (fun _ => rfl) (q_r1 fσ3 (fun _ => rfl) (q_r1 fσ2 (fun _ => rfl) (q_r1 fσ1 (fun _ => rfl) rfl)))))))
    · exact q_r1 fσ8 (fun _ => rfl) (qn_rowS eσ7 (q_r1 fσ6 (fun _ => rfl) (q_r1 fσ5 (fun _ => rfl) (q_r1 fσ4 (fun _ => rfl) (q_r1 fσ3 (fun _ => rfl) (q_r1 fσ2 (fun _ => rfl) (q_r1 fσ1 (fun _ => rfl) rfl)))))))
  · skip
    have h39 := nI_leF (a := 0) (b := f) (by decide) (by omega) h39
    exact absurd h39 (by omega)

