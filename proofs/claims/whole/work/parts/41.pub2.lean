/-! THE REFERENCE: called, go, book -/
theorem m_call_m1 {G : qx_G} {σ : qx_S} {S : qS} (hS : qx_mi σ 207 = S) : qx_M G qc_T 1 YX12_call [.ref 197, .int (-1)] σ (fun r s => r = some (.int (nI 0)) ∧ ql [(207, none)] σ s ∧ qx_mi s 207 = va_up S 4 (nI 0)) := by
  refine qx_M_in rfl (Nat.le_of_ble_eq_true rfl) ?_
  refine qy_wp_ok (c := CX12_call) (cuts := [38]) vX12_call wX12_call 2000 0 _ _ _ ?_
  refine Exists.intro ((-1)) (And.intro (by decide) ?_)
  refine And.intro (fun h2 => ?_) (fun h2 => ?_)
  · skip
    exact absurd (by decide) h2
  · skip
    refine And.intro rfl (Exists.intro 207 (And.intro rfl ?_))
    refine Exists.intro (nI 4) (And.intro rfl ?_)
    refine Exists.intro (nI 0) (And.intro rfl ?_)
    obtain ⟨σ1, eσ1⟩ : ∃ zs, zs = (qx_wi σ 207 4 (nI 0)) := ⟨_, rfl⟩
    have fσ1 := qn_wi eσ1
    refine Exists.intro (4) (Exists.intro σ1 (And.intro rfl (And.intro ⟨2788, rfl, by decide, by decide⟩ (And.intro eσ1.symm ?_))))
    refine Exists.intro (nI 0) (And.intro rfl ?_)
    exact ⟨rfl, fσ1, qn_rowS eσ1 hS⟩
theorem m_call_no {G : qx_G} {σ : qx_S} {S : qS} (hS : qx_mi σ 207 = S) {pe : Nat} (e1 : S 1 = nI pe) {c : Nat} (hc : c ≤ 6) (e4 : S 4 = nI c) {x : Int32} (hx : ¬ x = -1) (hb : (q_is x pe && !decide (c = 6)) = false) : qx_M G qc_T 1 YX12_call [.ref 197, .int x] σ (qr (-2) σ) := by
  refine qx_M_in rfl (Nat.le_of_ble_eq_true rfl) ?_
  refine qy_wp_ok (c := CX12_call) (cuts := [38]) vX12_call wX12_call 2000 0 _ _ _ ?_
  refine Exists.intro ((-1)) (And.intro (by decide) ?_)
  refine And.intro (fun h2 => ?_) (fun h2 => ?_)
  · skip
    refine And.intro rfl (Exists.intro _ (And.intro (by decide) (qx_M_mono (m_isPerson hS e1 x) ?_)))
    rintro _ _ ⟨rfl, rfl⟩
    refine And.intro (fun h19 => ?_) (fun h19 => ?_)
    · skip
      have h19 := bI_f h19
      refine Exists.intro ((-2)) (And.intro (by decide) ?_)
      exact ⟨rfl, rfl⟩
    · skip
      have h19 := bI_t h19
      refine And.intro rfl (Exists.intro 207 (And.intro rfl ?_))
      refine Exists.intro (nI 4) (And.intro rfl ?_)
      refine Exists.intro (4) (Exists.intro (nI c) (And.intro rfl (And.intro ⟨2788, rfl, by decide, by decide⟩ (And.intro ((congrFun hS 4).trans e4) ?_))))
      refine Exists.intro (nI 6) (And.intro rfl ?_)
      refine And.intro (fun h30 => ?_) (fun h30 => ?_)
      · skip
        have h30 := nI_neT (a := c) (b := 6) (by omega) (by decide) h30
        rw [h19, decide_eq_false h30] at hb; cases hb
      · skip
        have h30 := nI_eqT (a := c) (b := 6) (by omega) (by decide) h30
        refine Exists.intro ((-2)) (And.intro (by decide) ?_)
        exact ⟨rfl, rfl⟩
  · skip
    exact absurd h2 hx
/-- is one called already -/
def q_cl (S : qS) (x : Int32) (c : Nat) : Bool := q_ex (fun k => decide (S (148 + k) = x)) c 0
theorem l_call {G : qx_G} {σ : qx_S} {S : qS} (hS : qx_mi σ 207 = S) {c : Nat} (hc : c < 6) (e4 : S 4 = nI c) {x : Int32} : ∀ (m k : Nat), m = c - k → k ≤ c →
    qx_K G qc_T 1 RX12 YX12_call 38 [.ref 197, .int x, .int (nI k)] [] σ (fun r s => if q_ex (fun k => decide (S (148 + k) = x)) (c - k) k = true then r = some (.int (-2)) ∧ σ = s else r = some (.int (nI (c + 1))) ∧ ql [(207, none)] σ s ∧ qx_mi s 207 = va_up (va_up S (148 + c) x) 4 (nI (c + 1))) := by
  intro m
  induction m using Nat.strongRecOn with
  | _ m ih =>
    intro k hm hk
    rcases Nat.lt_or_ge k c with hlt | hge
    · have e1 : c - k = (c - (k + 1)) + 1 := by omega
      refine qy_wp_ok (c := CX12_call) (cuts := [38]) vX12_call wX12_call 2000 38 _ _ _ ?_
      refine And.intro rfl (Exists.intro 207 (And.intro rfl ?_))
      refine Exists.intro (nI 4) (And.intro rfl ?_)
      refine Exists.intro (4) (Exists.intro (nI c) (And.intro rfl (And.intro ⟨2788, rfl, by decide, by decide⟩ (And.intro ((congrFun hS 4).trans e4) ?_))))
      refine And.intro (fun h45 => ?_) (fun h45 => ?_)
      · skip
        have h45 := nI_leT (a := c) (b := k) (by omega) (by omega) h45
        exact absurd h45 (by omega)
      · skip
        have h45 := nI_leF (a := c) (b := k) (by omega) (by omega) h45
        refine And.intro rfl (Exists.intro 207 (And.intro rfl ?_))
        refine Exists.intro (nI 148) (And.intro rfl ?_)
        refine Exists.intro (nI (148 + k)) (And.intro (nI_add _ _) ?_)
        refine Exists.intro (148 + k) (Exists.intro (S (148 + k)) (And.intro rfl (And.intro ⟨2788, rfl, by omega, by decide⟩ (And.intro (congrFun hS (148 + k)) ?_))))
        refine And.intro (fun h59 => ?_) (fun h59 => ?_)
        · skip
          refine Exists.intro (nI (k + 1)) (And.intro (nI_add _ _) ?_)
          have hh : q_ex (fun k => decide (S (148 + k) = x)) (c - k) k = q_ex (fun k => decide (S (148 + k) = x)) (c - (k + 1)) (k + 1) := by rw [e1]; exact q_ex_f (decide_eq_false h59)
          rw [hh]; exact ih _ (by omega) (k + 1) rfl (by omega)
        · skip
          refine Exists.intro ((-2)) (And.intro (by decide) ?_)
          have hh : q_ex (fun k => decide (S (148 + k) = x)) (c - k) k = true := by rw [e1]; exact q_ex_t (decide_eq_true h59)
          exact (if_pos hh).mpr ⟨rfl, rfl⟩
    · obtain rfl : k = c := by omega
      rw [Nat.sub_self]
      show qx_K _ _ _ _ _ _ _ _ _ (fun r s => r = some (.int (nI (k + 1))) ∧ ql [(207, none)] σ s ∧ qx_mi s 207 = va_up (va_up S (148 + k) x) 4 (nI (k + 1)))
      have hf : ql [(207, none)] σ σ := qf.rf
      refine qy_wp_ok (c := CX12_call) (cuts := [38]) vX12_call wX12_call 2000 38 _ _ _ ?_
      refine And.intro rfl (Exists.intro 207 (And.intro rfl ?_))
      refine Exists.intro (nI 4) (And.intro rfl ?_)
      refine Exists.intro (4) (Exists.intro (nI k) (And.intro rfl (And.intro ⟨2788, rfl, by decide, by decide⟩ (And.intro ((congrFun hS 4).trans e4) ?_))))
      refine And.intro (fun h45 => ?_) (fun h45 => ?_)
      · skip
        have h45 := nI_leT (a := k) (b := k) (by omega) (by omega) h45
        refine And.intro rfl (Exists.intro 207 (And.intro rfl ?_))
        refine Exists.intro (nI 148) (And.intro rfl ?_)
        refine And.intro rfl (Exists.intro 207 (And.intro rfl ?_))
        refine Exists.intro (nI 4) (And.intro rfl ?_)
        refine Exists.intro (4) (Exists.intro (nI k) (And.intro rfl (And.intro ⟨2788, rfl, by decide, by decide⟩ (And.intro ((congrFun hS 4).trans e4) ?_))))
        refine Exists.intro (nI (148 + k)) (And.intro (nI_add _ _) ?_)
        obtain ⟨σ1, eσ1⟩ : ∃ zs, zs = (qx_wi σ 207 (148 + k) x) := ⟨_, rfl⟩
        have fσ1 := qn_wi eσ1
        refine Exists.intro (148 + k) (Exists.intro σ1 (And.intro rfl (And.intro ⟨2788, rfl, by omega, by decide⟩ (And.intro eσ1.symm ?_))))
        have hf_σ1 : ql [(207, none)] σ σ1 := hf.tr fσ1
        have hS_σ1 : qx_mi σ1 207 = va_up S (148 + k) x := qn_rowS eσ1 hS
        refine And.intro rfl (Exists.intro 207 (And.intro rfl ?_))
        refine Exists.intro (nI 4) (And.intro rfl ?_)
        refine Exists.intro (4) (Exists.intro (nI k) (And.intro rfl (And.intro ⟨2788, rfl, by decide, by decide⟩ (And.intro ((congrFun hS_σ1 4).trans ((va_up_ne _ _ (by omega)).trans e4)) ?_))))
        refine Exists.intro (nI 1) (And.intro rfl ?_)
        refine Exists.intro (nI (k + 1)) (And.intro (nI_add _ _) ?_)
        obtain ⟨σ2, eσ2⟩ : ∃ zs, zs = (qx_wi σ1 207 4 (nI (k + 1))) := ⟨_, rfl⟩
        have fσ2 := qn_wi eσ2
        refine Exists.intro (4) (Exists.intro σ2 (And.intro rfl (And.intro ⟨2788, rfl, by decide, by decide⟩ (And.intro eσ2.symm ?_))))
        have hf_σ2 : ql [(207, none)] σ σ2 := hf_σ1.tr fσ2
        have hS_σ2 : qx_mi σ2 207 = va_up (va_up S (148 + k) x) 4 (nI (k + 1)) := qn_rowS eσ2 hS_σ1
        refine And.intro rfl (Exists.intro 207 (And.intro rfl ?_))
        refine Exists.intro (nI 4) (And.intro rfl ?_)
        refine Exists.intro (4) (Exists.intro (nI (k + 1)) (And.intro rfl (And.intro ⟨2788, rfl, by decide, by decide⟩ (And.intro (qn_eq eσ2) ?_))))
        exact ⟨rfl, hf_σ2, hS_σ2⟩
      · skip
        have h45 := nI_leF (a := k) (b := k) (by omega) (by omega) h45
        exact absurd h45 (by omega)
theorem m_call_ok {G : qx_G} {σ : qx_S} {S : qS} (hS : qx_mi σ 207 = S) {pe : Nat} (e1 : S 1 = nI pe) (hpe : pe ≤ 10) {c : Nat} (hc : c < 6) (e4 : S 4 = nI c) {p : Nat} (hp : p < pe) : qx_M G qc_T 1 YX12_call [.ref 197, .int (nI p)] σ (fun r s => if q_cl S (nI p) c = true then r = some (.int (-2)) ∧ σ = s else r = some (.int (nI (c + 1))) ∧ ql [(207, none)] σ s ∧ qx_mi s 207 = va_up (va_up S (148 + c) (nI p)) 4 (nI (c + 1))) := by
  refine qx_M_in rfl (Nat.le_of_ble_eq_true rfl) ?_
  refine qy_wp_ok (c := CX12_call) (cuts := [38]) vX12_call wX12_call 2000 0 _ _ _ ?_
  refine Exists.intro ((-1)) (And.intro (by decide) ?_)
  refine And.intro (fun h2 => ?_) (fun h2 => ?_)
  · skip
    refine And.intro rfl (Exists.intro _ (And.intro (by decide) (qx_M_mono (m_isPerson hS e1 (nI p)) ?_)))
    rintro _ _ ⟨rfl, rfl⟩
    refine And.intro (fun h19 => ?_) (fun h19 => ?_)
    · skip
      have h19 := bI_f h19
      exact absurd (h19.symm.trans (q_is_ok hp (by omega))) (by decide)
    · skip
      have h19 := bI_t h19
      refine And.intro rfl (Exists.intro 207 (And.intro rfl ?_))
      refine Exists.intro (nI 4) (And.intro rfl ?_)
      refine Exists.intro (4) (Exists.intro (nI c) (And.intro rfl (And.intro ⟨2788, rfl, by decide, by decide⟩ (And.intro ((congrFun hS 4).trans e4) ?_))))
      refine Exists.intro (nI 6) (And.intro rfl ?_)
      refine And.intro (fun h30 => ?_) (fun h30 => ?_)
      · skip
        have h30 := nI_neT (a := c) (b := 6) (by omega) (by decide) h30
        refine Exists.intro (nI 0) (And.intro rfl ?_)
        exact l_call hS hc e4 _ 0 rfl (by omega)
      · skip
        have h30 := nI_eqT (a := c) (b := 6) (by omega) (by decide) h30
        exact absurd h30 (by omega)
  · skip
    exact absurd h2 (nI_ne_m1 (by omega))
/-- the called are people -/
def iC (S : qS) : Prop := S 4 = nI (s_n S 4) ∧ s_n S 4 ≤ 6 ∧ ∀ k, k < s_n S 4 → S (148 + k) = nI (s_n S (148 + k)) ∧ s_n S (148 + k) < s_n S 1
abbrev q_cm (S : qS) (k : Nat) : Nat := s_n S (148 + k)
theorem m_may_no {G : qx_G} {σ : qx_S} {S : qS} (hS : qx_mi σ 207 = S) (hC : iC S) (h2 : s_n S 4 < 2) : qx_M G qc_T 6 YX12_may [.ref 197] σ (qr (-1) σ) := by
  refine qx_M_in rfl (Nat.le_of_ble_eq_true rfl) ?_
  refine qy_wp_ok (c := CX12_may) (cuts := []) vX12_may wX12_may 2000 0 _ _ _ ?_
  refine And.intro rfl (Exists.intro 207 (And.intro rfl ?_))
  refine Exists.intro (nI 4) (And.intro rfl ?_)
  refine Exists.intro (4) (Exists.intro (nI (s_n S 4)) (And.intro rfl (And.intro ⟨2788, rfl, by decide, by decide⟩ (And.intro ((congrFun hS 4).trans hC.1) ?_))))
  refine Exists.intro (nI 2) (And.intro rfl ?_)
  refine And.intro (fun h7 => ?_) (fun h7 => ?_)
  · skip
    have h7 := nI_leT (a := 2) (b := s_n S 4) (by decide) (by omega) h7
    exact absurd h7 (by omega)
  · skip
    have h7 := nI_leF (a := 2) (b := s_n S 4) (by decide) (by omega) h7
    refine Exists.intro ((-1)) (And.intro (by decide) ?_)
    exact ⟨rfl, rfl⟩
theorem m_may_ok {G : qx_G} {σ : qx_S} {S : qS} {rf : Option qR} (hX : mX σ S rf none) (g : gS S) (hC : iC S) (h2 : 2 ≤ s_n S 4) : qx_M G qc_T 6 YX12_may [.ref 197] σ (fun r s => r = some (.int (nI (q_lb S rf none (q_cm S) (s_n S 4)))) ∧ ql lR σ s) := by
  have hS := hX.1
  have c6 := hC.2.1
  have hf : ql lR σ σ := qf.rf
  refine qx_M_in rfl (Nat.le_of_ble_eq_true rfl) ?_
  refine qy_wp_ok (c := CX12_may) (cuts := []) vX12_may wX12_may 2000 0 _ _ _ ?_
  refine And.intro rfl (Exists.intro 207 (And.intro rfl ?_))
  refine Exists.intro (nI 4) (And.intro rfl ?_)
  refine Exists.intro (4) (Exists.intro (nI (s_n S 4)) (And.intro rfl (And.intro ⟨2788, rfl, by decide, by decide⟩ (And.intro ((congrFun hS 4).trans hC.1) ?_))))
  refine Exists.intro (nI 2) (And.intro rfl ?_)
  refine And.intro (fun h7 => ?_) (fun h7 => ?_)
  · skip
    have h7 := nI_leT (a := 2) (b := s_n S 4) (by decide) (by omega) h7
    refine And.intro rfl (Exists.intro _ (And.intro (by decide) (qx_M_mono (m_takesCalled hS hC.2.1 hC.1) ?_)))
    rintro _ σ1 ⟨rfl, fσ1, aσ1, bσ1⟩
    have hf_σ1 : ql lR σ σ1 := hf.tr (fσ1.mn rfl)
    have hX_σ1 : mX σ1 S rf none := hX.fr fσ1 rfl
    refine And.intro rfl (Exists.intro _ (And.intro (by decide) (qx_M_mono (m_lawBroken hX_σ1 g hC.2.1 (fun k hk => (hC.2.2 k hk).2) ⟨aσ1, fun k hk => (bσ1 k hk).trans (hC.2.2 k hk).1⟩) ?_)))
    rintro _ σ2 ⟨rfl, fσ2⟩
    have hf_σ2 : ql lR σ σ2 := hf_σ1.tr (fσ2.mn rfl)
    have hX_σ2 : mX σ2 S rf none := hX_σ1.fr fσ2 rfl
    exact ⟨rfl, hf_σ2⟩
  · skip
    have h7 := nI_leF (a := 2) (b := s_n S 4) (by decide) (by omega) h7
    exact absurd h7 (by omega)
/-! UNDO -/
/-- what is kept of a ring goes into its place: where all are, what is owed, how often, day, rings -/
def q_kr (S : qS) (u : Nat) : qS := fun i => if 348 + 122 * u ≤ i ∧ i < 348 + 122 * u + 122 then (if i < 348 + 122 * u + 10 then S (10 + 5 * (i - (348 + 122 * u))) else if i < 348 + 122 * u + 110 then S (154 + (i - (348 + 122 * u + 10))) else if i < 348 + 122 * u + 120 then S (10 + 5 * (i - (348 + 122 * u + 110)) + 4) else if i < 348 + 122 * u + 121 then S 3 else S 6) else S i
/-- a step back: the first is forgotten -/
def q_sh (S : qS) : qS := fun i => if 348 ≤ i ∧ i < 2666 then S (i + 122) else S i
def q_keep (S : qS) : qS := if s_n S 9 = 20 then va_up (q_kr (q_sh S) 19) 9 (nI 20) else va_up (q_kr S (s_n S 9)) 9 (nI (s_n S 9 + 1))

