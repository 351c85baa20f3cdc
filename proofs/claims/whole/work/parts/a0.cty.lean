/-! THE REFERENCE: clauses of a country -/
def mC (σ : qx_S) (T : q_T) (p : Nat) (D : qS) : Prop := tR σ T ∧ qx_mi σ 197 9 = nI 0 ∧ qx_mi σ 203 = D ∧ ∃ nx, qx_mi σ 197 8 = nI nx ∧ nx ≤ T.1 ∧ q_sk T nx = p
theorem mC.sk {σ : qx_S} {T : q_T} {p : Nat} {D : qS} (h : mC σ T p D) : q_sk T p = p ∧ p ≤ T.1 ∧ T.1 ≤ 400 ∧ ∀ k, k < T.1 → T.2 k < 256 := by
  obtain ⟨a, -, -, nx, -, k2, k3⟩ := h
  rw [← k3]
  exact ⟨q_sk_i k2, q_rn_le _ k2, a.2.1, fun k hk => (a.2.2 k hk).2⟩
theorem mC.to {σ s' : qx_S} {T : q_T} {p : Nat} {D : qS} {l : List (Nat × Option Nat)} (h : mC σ T p D) (f : ql l σ s') (hk : pLs l [(197, some 8), (197, some 10), (197, some 11), (197, some 14), (200, none)] = true) {n p' : Nat} (h8 : qx_mi s' 197 8 = nI n) (hn : n ≤ T.1) (hp : q_sk T n = p') : mC s' T p' D := by
  have f := f.mn hk
  exact ⟨h.1.fr f rfl (fun _ => rfl), (f.i _ _ rfl).trans h.2.1, (f.row 203 (fun _ => rfl)).trans h.2.2.1, n, h8, hn, hp⟩
theorem mC.fr {σ s' : qx_S} {T : q_T} {p : Nat} {D : qS} {l : List (Nat × Option Nat)} (h : mC σ T p D) (f : ql l σ s') (hk : pLs l [(197, some 10), (197, some 11), (197, some 14), (200, none)] = true) : mC s' T p D := by
  have f := f.mn hk
  obtain ⟨nx, k1, k2, k3⟩ := h.2.2.2
  exact ⟨h.1.fr f rfl (fun _ => rfl), (f.i _ _ rfl).trans h.2.1, (f.row 203 (fun _ => rfl)).trans h.2.2.1, nx, (f.i _ _ rfl).trans k1, k2, k3⟩
theorem mC.up {σ s' : qx_S} {T : q_T} {p k : Nat} {v : Int32} {D : qS} (h : mC σ T p D) (e : s' = qx_wi σ 203 k v) : mC s' T p (va_up D k v) := by
  have f := qn_wi e
  obtain ⟨nx, k1, k2, k3⟩ := h.2.2.2
  exact ⟨h.1.fr f rfl (fun _ => rfl), (f.i _ _ rfl).trans h.2.1, qn_rowS e h.2.2.1, nx, (f.i _ _ rfl).trans k1, k2, k3⟩
theorem m_seeC {G : qx_G} {σ : qx_S} {T : q_T} {p : Nat} {D : qS} (h : mC σ T p D) : qx_M G qc_T 0 YX12_see [.ref 197] σ (fun r s' => r = some (.int (q_see T p)) ∧ ql [(197, some 8)] σ s' ∧ mC s' T p D ∧ qx_mi s' 197 8 = nI p) := by
  obtain ⟨sk, hle, -, -⟩ := h.sk
  obtain ⟨nx, k1, k2, k3⟩ := h.2.2.2
  refine qx_M_mono (m_see h.1 k2 k1) ?_
  rintro _ s' ⟨rfl, f, g⟩
  rw [k3] at g ⊢
  exact ⟨rfl, f, h.to f (by decide) g hle sk, g⟩
theorem m_isWordC {G : qx_G} {σ : qx_S} {T : q_T} {p : Nat} {D : qS} (h : mC σ T p D) (j : Nat) (hj : j < 21) : qx_M G qc_T 1 YX12_isWord [.ref 197, .long (lN (q_WS.getD j 0))] σ (fun r s' => r = some (.int (bI (decide (q_kd T p = 300 + j)))) ∧ ql [(197, some 8)] σ s' ∧ mC s' T p D ∧ qx_mi s' 197 8 = nI p) := by
  obtain ⟨sk, hle, -, hb⟩ := h.sk
  obtain ⟨nx, k1, k2, k3⟩ := h.2.2.2
  have hw : ∀ j, j < 21 → q_WS.getD j 0 < 72057594037927936 := by decide +kernel
  refine qx_M_mono (m_isWord h.1 k2 k1 (hw j hj)) ?_
  rintro _ s' ⟨rfl, f, g⟩
  rw [k3] at g ⊢
  rw [q_kd_w hb hj]
  exact ⟨rfl, f, h.to f (by decide) g hle sk, g⟩
theorem q_kd_isL {T : q_T} {p : Nat} (hb : ∀ k, k < T.1 → T.2 k < 256) (hw : 300 ≤ q_kd T p ∧ q_kd T p < 999) : isL T p = true := by
  cases hl : isL T p with
  | true => rfl
  | false =>
    exfalso
    have hlt := q_kd_lt (T := T) (p := p) (by omega)
    cases hd : isD T p with
    | true => rw [q_kd_D hd] at hw; split at hw <;> omega
    | false =>
      have b := hb _ hlt
      rw [(q_kd_S hlt hl hd).1] at hw
      split at hw
      · split at hw <;> omega
      · omega
theorem m_passC {G : qx_G} {σ : qx_S} {T : q_T} {p : Nat} {D : qS} (h : mC σ T p D) (h8 : qx_mi σ 197 8 = nI p) (hw : 300 ≤ q_kd T p ∧ q_kd T p < 999) : qx_M G qc_T 1 YX12_passWord [.ref 197] σ (fun r s' => r = none ∧ ql [(197, some 8)] σ s' ∧ mC s' T (q_nx T p) D) := by
  obtain ⟨sk, hle, -, hb⟩ := h.sk
  have hL := q_kd_isL hb hw
  refine qx_M_mono (m_passWord h.1 hle h8) ?_
  rintro _ s' ⟨rfl, f, g⟩
  rw [← q_te_L hL] at g
  have ht := q_te_gt (isL_lt hL).1
  exact ⟨rfl, f, h.to f (by decide) g ht.2 rfl⟩
theorem m_numC {G : qx_G} {σ : qx_S} {T : q_T} {p : Nat} {D : qS} (h : mC σ T p D) (lo hi : Int32) : qx_M G qc_T 1 YX12_numberHere [.ref 197, .int lo, .int hi] σ (fun r s' => ql lN1 σ s' ∧ (match q_nf1 T p lo hi with
    | some f => r = some (.int (bI false)) ∧ qx_mi s' 197 9 = nI f
    | none => r = some (.int (bI true)) ∧ mC s' T (q_nx T p) D ∧ qx_mi s' 197 10 = nI (q_nu T p))) := by
  obtain ⟨hsk, hle, h400, hb⟩ := h.sk
  obtain ⟨nx, k1, k2, k3⟩ := h.2.2.2
  refine qx_M_mono (m_numberHere (lo := lo) (hi := hi) h.1 k2 k1 h.2.1) ?_
  rintro _ s' ⟨rfl, f, g1, g2⟩
  rw [k3] at g1 g2 ⊢
  refine ⟨f, ?_⟩
  cases e : q_nf1 T p lo hi with
  | some z => exact ⟨rfl, g1 z e⟩
  | none =>
    obtain ⟨y1, y2, y3⟩ := g2 e
    have hD : isD T p = true := by
      unfold q_nf1 at e
      split at e
      · next z => exact z
      · cases e
    have hte := q_te_gt (isD_lt hD).1
    rw [← q_te_D hD] at y2
    exact ⟨rfl, ⟨h.1.fr f rfl (fun _ => rfl), y1, (f.row 203 (fun _ => rfl)).trans h.2.2.1, _, y2, hte.2, rfl⟩, y3⟩
theorem q_nf1_b {T : q_T} {p : Nat} {lo hi : Int32} (h : q_nf1 T p lo hi = none) : lo ≤ nI (q_nu T p) ∧ nI (q_nu T p) ≤ hi ∧ p < T.1 := by
  unfold q_nf1 at h
  split at h
  · next hD =>
    split at h
    · next z => exact ⟨z.2.1, z.2.2, (isD_lt hD).1⟩
    · cases h
  · cases h
theorem q_nf1_lt {T : q_T} {p a : Nat} {lo : Int32} (ha : a < 1000) (h : q_nf1 T p lo (nI a - nI 1) = none) : q_nu T p < a := by
  have k := (q_nf1_b h).2.1
  have hv := q_nu_lt T p
  rcases Nat.eq_zero_or_pos a with z | z
  · subst z
    exfalso
    have : nI (q_nu T p) ≤ -1 := k
    have y := Int32.le_trans (nI_pos' (n := q_nu T p) (by omega)) this
    exact absurd y (by decide)
  · rw [nI_sub (by omega), nI_leI (by omega) (by omega)] at k
    omega
theorem q_nf1_er {T : q_T} {p : Nat} {lo hi : Int32} {f : Nat} (hp : p ≤ T.1) (h : q_nf1 T p lo hi = some f) : eB T f := by
  unfold q_nf1 at h
  split at h
  · split at h
    · cases h
    · rw [← Option.some.inj h]; exact eB.mk hp (by decide)
  · rw [← Option.some.inj h]; exact eB.mk hp (by decide)
abbrev lC : List (Nat × Option Nat) := [(197, some 8), (197, some 9), (197, some 10), (203, none)]
/-- what a clause of a country answers -/
def rC2 (σ s' : qx_S) (T : q_T) (x : Except Nat (Nat × qS)) (r : Option Value) : Prop := ql lC σ s' ∧ (match x with
  | .error f => r = some (.int (bI false)) ∧ qx_mi s' 197 9 = nI f
  | .ok y => r = some (.int (bI true)) ∧ mC s' T y.1 y.2)
theorem rC2_b {σ s' : qx_S} {T : q_T} {x : Except Nat (Nat × qS)} {r : Option Value} (h : rC2 σ s' T x r) : r = some (.int (bI (xOk x))) := by
  obtain ⟨-, d⟩ := h
  cases x with
  | error f => exact d.1
  | ok y => exact d.1
/-- a number becomes a cell -/
def q_cell (T : q_T) (p : Nat) (lo hi : Int32) (k : Nat) (D : qS) : Except Nat (Nat × qS) := match q_nf1 T p lo hi with
  | some f => .error f
  | none => .ok (q_nx T p, va_up D k (nI (q_nu T p)))
theorem m_cellC {G : qx_G} {σ : qx_S} {T : q_T} {p k : Nat} {D : qS} (h : mC σ T p D) (hk : k < 148) (lo hi : Int32) : qx_M G qc_T 2 YX12_cellHere [.ref 197, .int (nI k), .int lo, .int hi] σ (fun r s' => rC2 σ s' T (q_cell T p lo hi k D) r) := by
  have mn := m_numC (G := G) h lo hi
  unfold q_cell
  cases e : q_nf1 T p lo hi with
  | some f =>
    rw [e] at mn
    refine qx_M_in rfl (Nat.le_of_ble_eq_true rfl) ?_
    refine qy_wp_ok (c := CX12_cellHere) (cuts := []) vX12_cellHere wX12_cellHere 2000 0 _ _ _ ?_
    refine And.intro rfl (Exists.intro _ (And.intro (by decide) (qx_M_mono (mn) ?_)))
    rintro _ σ1 ⟨fσ1, rfl, gσ1⟩
    refine And.intro (fun h6 => ?_) (fun h6 => ?_)
    · skip
      have h6 := bI_t h6
      exact absurd (h6.symm.trans (rfl)) (by decide)
    · skip
      have h6 := bI_f h6
      refine Exists.intro (nI 0) (And.intro rfl ?_)
      refine And.intro (Or.inl rfl) ?_
      exact ⟨fσ1.mn (by decide), rfl, gσ1⟩
  | none =>
    rw [e] at mn
    refine qx_M_in rfl (Nat.le_of_ble_eq_true rfl) ?_
    refine qy_wp_ok (c := CX12_cellHere) (cuts := []) vX12_cellHere wX12_cellHere 2000 0 _ _ _ ?_
    refine And.intro rfl (Exists.intro _ (And.intro (by decide) (qx_M_mono (mn) ?_)))
    rintro _ σ1 ⟨fσ1, rfl, aσ1, gσ1⟩
    refine And.intro (fun h6 => ?_) (fun h6 => ?_)
    · skip
      have h6 := bI_t h6
      refine And.intro rfl (Exists.intro 203 (And.intro rfl ?_))
      refine And.intro rfl (Exists.intro 10 (Exists.intro (nI (q_nu T p)) (And.intro rfl (And.intro gσ1 ?_))))
      obtain ⟨σ2, eσ2⟩ : ∃ zs, zs = (qx_wi σ1 203 k (nI (q_nu T p))) := ⟨_, rfl⟩
      have fσ2 := qn_wi eσ2
      refine Exists.intro (k) (Exists.intro σ2 (And.intro rfl (And.intro ⟨148, rfl, by omega, by decide⟩ (And.intro eσ2.symm ?_))))
      refine Exists.intro (nI 1) (And.intro rfl ?_)
      refine And.intro (Or.inr rfl) ?_
      exact ⟨(fσ1.mn (by decide)).tr (fσ2.mn (by decide)), rfl, aσ1.up eσ2⟩
    · skip
      have h6 := bI_f h6
      exact absurd (h6.symm.trans (rfl)) (by decide)
/-- counts that are read -/
def gD (D : qS) : Prop := (D 0 = nI (s_n D 0) ∧ s_n D 0 ≤ 8) ∧ (D 1 = nI (s_n D 1) ∧ s_n D 1 ≤ 10) ∧ (D 2 = nI (s_n D 2) ∧ s_n D 2 ≤ 8)
def q_c12 (T : q_T) (p : Nat) (D : qS) : Except Nat (Nat × qS) := if 0 < s_n D 0 then .error (1 + 8 * p + 4) else q_cell T (q_nx T p) (nI 2) (nI 8) 0 D
theorem m_places {G : qx_G} {σ : qx_S} {T : q_T} {p : Nat} {D : qS} (h : mC σ T p D) (g : gD D) (h8 : qx_mi σ 197 8 = nI p) (hw : 300 ≤ q_kd T p ∧ q_kd T p < 999) : qx_M G qc_T 3 YX12_arePlacesHere [.ref 197, .int (nI p)] σ (fun r s' => rC2 σ s' T (q_c12 T p D) r) := by
  have e0 : qx_mi σ 203 0 = nI (s_n D 0) := (congrFun h.2.2.1 0).trans g.1.1
  have b0 := g.1.2
  unfold q_c12
  by_cases z : 0 < s_n D 0
  · rw [if_pos z]
    refine qx_M_in rfl (Nat.le_of_ble_eq_true rfl) ?_
    refine qy_wp_ok (c := CX12_arePlacesHere) (cuts := []) vX12_arePlacesHere wX12_arePlacesHere 2000 0 _ _ _ ?_
    refine And.intro rfl (Exists.intro 203 (And.intro rfl ?_))
    refine Exists.intro (nI 0) (And.intro rfl ?_)
    refine Exists.intro (0) (Exists.intro (nI (s_n D 0)) (And.intro rfl (And.intro ⟨148, rfl, by decide, by decide⟩ (And.intro e0 ?_))))
    refine And.intro (fun h6 => ?_) (fun h6 => ?_)
    · skip
      have h6 := nI_leT (a := s_n D 0) (b := 0) (by omega) (by decide) h6
      exact absurd h6 (by omega)
    · skip
      have h6 := nI_leF (a := s_n D 0) (b := 0) (by omega) (by decide) h6
      refine Exists.intro (nI 4) (And.intro rfl ?_)
      refine And.intro rfl (Exists.intro _ (And.intro (by decide) (qx_M_mono (m_fails h.2.1) ?_)))
      rintro _ σ1 ⟨rfl, fσ1, gσ1⟩
      refine And.intro (bI_01 _) ?_
      exact ⟨fσ1.mn (by decide), rfl, gσ1⟩
  · rw [if_neg z]
    have mc : ∀ σ1, mC σ1 T (q_nx T p) D → qx_M G qc_T 2 YX12_cellHere [.ref 197, .int (nI 0), .int (nI 2), .int (nI 8)] σ1 (fun r s' => ∃ b, r = some (.int (bI b)) ∧ rC2 σ1 s' T (q_cell T (q_nx T p) (nI 2) (nI 8) 0 D) r) := fun σ1 a => qx_M_mono (m_cellC a (by decide) _ _) (fun r s' z => ⟨_, rC2_b z, z⟩)
    refine qx_M_in rfl (Nat.le_of_ble_eq_true rfl) ?_
    refine qy_wp_ok (c := CX12_arePlacesHere) (cuts := []) vX12_arePlacesHere wX12_arePlacesHere 2000 0 _ _ _ ?_
    refine And.intro rfl (Exists.intro 203 (And.intro rfl ?_))
    refine Exists.intro (nI 0) (And.intro rfl ?_)
    refine Exists.intro (0) (Exists.intro (nI (s_n D 0)) (And.intro rfl (And.intro ⟨148, rfl, by decide, by decide⟩ (And.intro e0 ?_))))
    refine And.intro (fun h6 => ?_) (fun h6 => ?_)
    · skip
      have h6 := nI_leT (a := s_n D 0) (b := 0) (by omega) (by decide) h6
      refine And.intro rfl (Exists.intro _ (And.intro (by decide) (qx_M_mono (m_passC h h8 hw) ?_)))
      rintro _ σ1 ⟨rfl, fσ1, aσ1⟩
      refine Exists.intro (nI 0) (And.intro rfl ?_)
      refine Exists.intro (nI 2) (And.intro rfl ?_)
      refine Exists.intro (nI 8) (And.intro rfl ?_)
      refine And.intro rfl (Exists.intro _ (And.intro (by decide) (qx_M_mono (mc _ aσ1) ?_)))
      rintro _ σ2 ⟨bb, rfl, fσ2⟩
      refine And.intro (bI_01 _) ?_
      exact ⟨(fσ1.mn (by decide)).tr fσ2.1, fσ2.2⟩
    · skip
      have h6 := nI_leF (a := s_n D 0) (b := 0) (by omega) (by decide) h6
      exact absurd h6 (by omega)
def q_c14 (T : q_T) (p : Nat) (D : qS) : Except Nat (Nat × qS) := if s_n D 2 = 8 then .error (1 + 8 * p + 4) else match q_cell T (q_nx T p) (nI 0) (D 0 - nI 1) (140 + s_n D 2) D with
  | .error f => .error f
  | .ok y => .ok (y.1, va_up y.2 2 (nI (s_n D 2 + 1)))
theorem q_cell_ok {T : q_T} {p k : Nat} {lo hi : Int32} {D : qS} {y : Nat × qS} (h : q_cell T p lo hi k D = .ok y) : q_nf1 T p lo hi = none ∧ y = (q_nx T p, va_up D k (nI (q_nu T p))) := by
  unfold q_cell at h
  cases e : q_nf1 T p lo hi with
  | some f => rw [e] at h; cases h
  | none => rw [e] at h; exact ⟨rfl, (Except.ok.inj h).symm⟩
theorem m_callC {G : qx_G} {σ : qx_S} {T : q_T} {p : Nat} {D : qS} (h : mC σ T p D) (g : gD D) (h8 : qx_mi σ 197 8 = nI p) (hw : 300 ≤ q_kd T p ∧ q_kd T p < 999) : qx_M G qc_T 3 YX12_isCallHere [.ref 197, .int (nI p)] σ (fun r s' => rC2 σ s' T (q_c14 T p D) r) := by
  have e0 : qx_mi σ 203 0 = D 0 := congrFun h.2.2.1 0
  have e2 : qx_mi σ 203 2 = nI (s_n D 2) := (congrFun h.2.2.1 2).trans g.2.2.1
  have b2 := g.2.2.2
  unfold q_c14
  by_cases z : s_n D 2 = 8
  · rw [if_pos z]
    refine qx_M_in rfl (Nat.le_of_ble_eq_true rfl) ?_
    refine qy_wp_ok (c := CX12_isCallHere) (cuts := []) vX12_isCallHere wX12_isCallHere 2000 0 _ _ _ ?_
    refine And.intro rfl (Exists.intro 203 (And.intro rfl ?_))
    refine Exists.intro (nI 2) (And.intro rfl ?_)
    refine Exists.intro (2) (Exists.intro (nI (s_n D 2)) (And.intro rfl (And.intro ⟨148, rfl, by decide, by decide⟩ (And.intro e2 ?_))))
    refine Exists.intro (nI 8) (And.intro rfl ?_)
    refine And.intro (fun h8 => ?_) (fun h8 => ?_)
    · skip
      have h8 := nI_neT (a := s_n D 2) (b := 8) (by omega) (by decide) h8
      exact absurd z h8
    · skip
      have h8 := nI_eqT (a := s_n D 2) (b := 8) (by omega) (by decide) h8
      refine Exists.intro (nI 4) (And.intro rfl ?_)
      refine And.intro rfl (Exists.intro _ (And.intro (by decide) (qx_M_mono (m_fails h.2.1) ?_)))
      rintro _ σ1 ⟨rfl, fσ1, gσ1⟩
      refine And.intro (bI_01 _) ?_
      exact ⟨fσ1.mn (by decide), rfl, gσ1⟩
  · rw [if_neg z]
    have mc : ∀ σ1, mC σ1 T (q_nx T p) D → qx_M G qc_T 2 YX12_cellHere [.ref 197, .int (nI (140 + s_n D 2)), .int (nI 0), .int (D 0 - nI 1)] σ1 (fun r s' => rC2 σ1 s' T (q_cell T (q_nx T p) (nI 0) (D 0 - nI 1) (140 + s_n D 2) D) r) := fun σ1 a => m_cellC a (by omega) _ _
    have hn8 := h8
    cases hv : q_cell T (q_nx T p) (nI 0) (D 0 - nI 1) (140 + s_n D 2) D with
    | error f =>
      rw [hv] at mc
      refine qx_M_in rfl (Nat.le_of_ble_eq_true rfl) ?_
      refine qy_wp_ok (c := CX12_isCallHere) (cuts := []) vX12_isCallHere wX12_isCallHere 2000 0 _ _ _ ?_
      refine And.intro rfl (Exists.intro 203 (And.intro rfl ?_))
      refine Exists.intro (nI 2) (And.intro rfl ?_)
      refine Exists.intro (2) (Exists.intro (nI (s_n D 2)) (And.intro rfl (And.intro ⟨148, rfl, by decide, by decide⟩ (And.intro e2 ?_))))
      refine Exists.intro (nI 8) (And.intro rfl ?_)
      refine And.intro (fun h8 => ?_) (fun h8 => ?_)
      · skip
        have h8 := nI_neT (a := s_n D 2) (b := 8) (by omega) (by decide) h8
        refine And.intro rfl (Exists.intro _ (And.intro (by decide) (qx_M_mono (m_passC h hn8 hw) ?_)))
        rintro _ σ1 ⟨rfl, fσ1, aσ1⟩
        refine Exists.intro (nI 140) (And.intro rfl ?_)
        refine And.intro rfl (Exists.intro 203 (And.intro rfl ?_))
        refine Exists.intro (nI 2) (And.intro rfl ?_)
        refine Exists.intro (2) (Exists.intro (nI (s_n D 2)) (And.intro rfl (And.intro ⟨148, rfl, by decide, by decide⟩ (And.intro ((fσ1.i _ _ rfl).trans (e2)) ?_))))
        refine Exists.intro (nI (140 + (s_n D 2))) (And.intro (nI_add _ _) ?_)
        refine Exists.intro (nI 0) (And.intro rfl ?_)
        refine And.intro rfl (Exists.intro 203 (And.intro rfl ?_))
        refine Exists.intro (nI 0) (And.intro rfl ?_)
        refine Exists.intro (0) (Exists.intro (D 0) (And.intro rfl (And.intro ⟨148, rfl, by decide, by decide⟩ (And.intro ((fσ1.i _ _ rfl).trans (e0)) ?_))))
        refine Exists.intro (nI 1) (And.intro rfl ?_)
        refine Exists.intro ((D 0) - (nI 1)) (And.intro rfl ?_)
        refine And.intro rfl (Exists.intro _ (And.intro (by decide) (qx_M_mono (mc _ aσ1) ?_)))
        rintro _ σ2 ⟨fσ2, rfl, gσ2⟩
        refine And.intro (fun h45 => ?_) (fun h45 => ?_)
        · skip
          have h45 := bI_t h45
          exact absurd (h45.symm.trans (rfl)) (by decide)
        · skip
          have h45 := bI_f h45
          refine Exists.intro (nI 0) (And.intro rfl ?_)
          refine And.intro (Or.inl rfl) ?_
          exact ⟨(fσ1.mn (by decide)).tr fσ2, rfl, gσ2⟩
      · skip
        have h8 := nI_eqT (a := s_n D 2) (b := 8) (by omega) (by decide) h8
        exact absurd h8 z
    | ok y =>
      rw [hv] at mc
      obtain ⟨-, ey⟩ := q_cell_ok hv
      have ey2 : y.2 2 = nI (s_n D 2) := by
        rw [ey]
        show va_up D (140 + s_n D 2) _ 2 = _
        rw [va_up_ne _ _ (by omega)]
        exact g.2.2.1
      refine qx_M_in rfl (Nat.le_of_ble_eq_true rfl) ?_
      refine qy_wp_ok (c := CX12_isCallHere) (cuts := []) vX12_isCallHere wX12_isCallHere 2000 0 _ _ _ ?_
      refine And.intro rfl (Exists.intro 203 (And.intro rfl ?_))
      refine Exists.intro (nI 2) (And.intro rfl ?_)
      refine Exists.intro (2) (Exists.intro (nI (s_n D 2)) (And.intro rfl (And.intro ⟨148, rfl, by decide, by decide⟩ (And.intro e2 ?_))))
      refine Exists.intro (nI 8) (And.intro rfl ?_)
      refine And.intro (fun h8 => ?_) (fun h8 => ?_)
      · skip
        have h8 := nI_neT (a := s_n D 2) (b := 8) (by omega) (by decide) h8
        refine And.intro rfl (Exists.intro _ (And.intro (by decide) (qx_M_mono (m_passC h hn8 hw) ?_)))
        rintro _ σ1 ⟨rfl, fσ1, aσ1⟩
        refine Exists.intro (nI 140) (And.intro rfl ?_)
        refine And.intro rfl (Exists.intro 203 (And.intro rfl ?_))
        refine Exists.intro (nI 2) (And.intro rfl ?_)
        refine Exists.intro (2) (Exists.intro (nI (s_n D 2)) (And.intro rfl (And.intro ⟨148, rfl, by decide, by decide⟩ (And.intro ((fσ1.i _ _ rfl).trans (e2)) ?_))))
        refine Exists.intro (nI (140 + (s_n D 2))) (And.intro (nI_add _ _) ?_)
        refine Exists.intro (nI 0) (And.intro rfl ?_)
        refine And.intro rfl (Exists.intro 203 (And.intro rfl ?_))
        refine Exists.intro (nI 0) (And.intro rfl ?_)
        refine Exists.intro (0) (Exists.intro (D 0) (And.intro rfl (And.intro ⟨148, rfl, by decide, by decide⟩ (And.intro ((fσ1.i _ _ rfl).trans (e0)) ?_))))
        refine Exists.intro (nI 1) (And.intro rfl ?_)
        refine Exists.intro ((D 0) - (nI 1)) (And.intro rfl ?_)
        refine And.intro rfl (Exists.intro _ (And.intro (by decide) (qx_M_mono (mc _ aσ1) ?_)))
        rintro _ σ2 ⟨fσ2, rfl, aσ2⟩
        refine And.intro (fun h45 => ?_) (fun h45 => ?_)
        · skip
          have h45 := bI_t h45
          refine And.intro rfl (Exists.intro 203 (And.intro rfl ?_))
          refine Exists.intro (nI 2) (And.intro rfl ?_)
          refine Exists.intro (2) (Exists.intro (nI (s_n D 2)) (And.intro rfl (And.intro ⟨148, rfl, by decide, by decide⟩ (And.intro ((congrFun aσ2.2.2.1 2).trans ey2) ?_))))
          refine Exists.intro (nI 1) (And.intro rfl ?_)
          refine Exists.intro (nI (s_n D 2 + 1)) (And.intro (nI_add _ _) ?_)
          obtain ⟨σ3, eσ3⟩ : ∃ zs, zs = (qx_wi σ2 203 2 (nI (s_n D 2 + 1))) := ⟨_, rfl⟩
          have fσ3 := qn_wi eσ3
          refine Exists.intro (2) (Exists.intro σ3 (And.intro rfl (And.intro ⟨148, rfl, by decide, by decide⟩ (And.intro eσ3.symm ?_))))
          refine Exists.intro (nI 1) (And.intro rfl ?_)
          refine And.intro (Or.inr rfl) ?_
          exact ⟨(fσ1.mn (by decide)).tr (fσ2.tr (fσ3.mn (by decide))), rfl, aσ2.up eσ3⟩
        · skip
          have h45 := bI_f h45
          exact absurd (h45.symm.trans (rfl)) (by decide)
      · skip
        have h8 := nI_eqT (a := s_n D 2) (b := 8) (by omega) (by decide) h8
        exact absurd h8 z
def q_c13 (T : q_T) (p : Nat) (D : qS) : Except Nat (Nat × qS) := match q_nf1 T (q_nx T p) (nI 0) (D 1 - nI 1) with
  | some f => .error f
  | none => .ok (q_nx T (q_nx T p), va_up D (10 + 5 * q_nu T (q_nx T p) + 3) (nI 1))
theorem m_benchC {G : qx_G} {σ : qx_S} {T : q_T} {p : Nat} {D : qS} (h : mC σ T p D) (g : gD D) (h8 : qx_mi σ 197 8 = nI p) (hw : 300 ≤ q_kd T p ∧ q_kd T p < 999) : qx_M G qc_T 3 YX12_isBenchHere [.ref 197] σ (fun r s' => rC2 σ s' T (q_c13 T p D) r) := by
  have e1 : qx_mi σ 203 1 = D 1 := congrFun h.2.2.1 1
  have b1 := g.2.1.2
  have mn : ∀ σ1, mC σ1 T (q_nx T p) D → _ := fun σ1 a => m_numC (G := G) a (nI 0) (D 1 - nI 1)
  unfold q_c13
  cases e : q_nf1 T (q_nx T p) (nI 0) (D 1 - nI 1) with
  | some f =>
    rw [e] at mn
    refine qx_M_in rfl (Nat.le_of_ble_eq_true rfl) ?_
    refine qy_wp_ok (c := CX12_isBenchHere) (cuts := []) vX12_isBenchHere wX12_isBenchHere 2000 0 _ _ _ ?_
    refine And.intro rfl (Exists.intro _ (And.intro (by decide) (qx_M_mono (m_passC h h8 hw) ?_)))
    rintro _ σ1 ⟨rfl, fσ1, aσ1⟩
    refine Exists.intro (nI 0) (And.intro rfl ?_)
    refine And.intro rfl (Exists.intro 203 (And.intro rfl ?_))
    refine Exists.intro (nI 1) (And.intro rfl ?_)
    refine Exists.intro (1) (Exists.intro (D 1) (And.intro rfl (And.intro ⟨148, rfl, by decide, by decide⟩ (And.intro ((fσ1.i _ _ rfl).trans (e1)) ?_))))
    refine Exists.intro (nI 1) (And.intro rfl ?_)
    refine Exists.intro ((D 1) - (nI 1)) (And.intro rfl ?_)
    refine And.intro rfl (Exists.intro _ (And.intro (by decide) (qx_M_mono (mn _ aσ1) ?_)))
    rintro _ σ2 ⟨fσ2, rfl, gσ2⟩
    refine And.intro (fun h17 => ?_) (fun h17 => ?_)
    · skip
      have h17 := bI_t h17
      exact absurd (h17.symm.trans (rfl)) (by decide)
    · skip
      have h17 := bI_f h17
      refine Exists.intro (nI 0) (And.intro rfl ?_)
      refine And.intro (Or.inl rfl) ?_
      exact ⟨(fσ1.mn (by decide)).tr (fσ2.mn (by decide)), rfl, gσ2⟩
  | none =>
    have hv : q_nu T (q_nx T p) < s_n D 1 := q_nf1_lt (by omega) (g.2.1.1 ▸ e)
    rw [e] at mn
    refine qx_M_in rfl (Nat.le_of_ble_eq_true rfl) ?_
    refine qy_wp_ok (c := CX12_isBenchHere) (cuts := []) vX12_isBenchHere wX12_isBenchHere 2000 0 _ _ _ ?_
    refine And.intro rfl (Exists.intro _ (And.intro (by decide) (qx_M_mono (m_passC h h8 hw) ?_)))
    rintro _ σ1 ⟨rfl, fσ1, aσ1⟩
    refine Exists.intro (nI 0) (And.intro rfl ?_)
    refine And.intro rfl (Exists.intro 203 (And.intro rfl ?_))
    refine Exists.intro (nI 1) (And.intro rfl ?_)
    refine Exists.intro (1) (Exists.intro (D 1) (And.intro rfl (And.intro ⟨148, rfl, by decide, by decide⟩ (And.intro ((fσ1.i _ _ rfl).trans (e1)) ?_))))
    refine Exists.intro (nI 1) (And.intro rfl ?_)
    refine Exists.intro ((D 1) - (nI 1)) (And.intro rfl ?_)
    refine And.intro rfl (Exists.intro _ (And.intro (by decide) (qx_M_mono (mn _ aσ1) ?_)))
    rintro _ σ2 ⟨fσ2, rfl, aσ2, gσ2⟩
    refine And.intro (fun h17 => ?_) (fun h17 => ?_)
    · skip
      have h17 := bI_t h17
      refine And.intro rfl (Exists.intro 203 (And.intro rfl ?_))
      refine Exists.intro (nI 10) (And.intro rfl ?_)
      refine Exists.intro (nI 5) (And.intro rfl ?_)
      refine And.intro rfl (Exists.intro 10 (Exists.intro (nI (q_nu T (q_nx T p))) (And.intro rfl (And.intro gσ2 ?_))))
      refine Exists.intro (nI (5 * (q_nu T (q_nx T p)))) (And.intro (pk_mul _ _) ?_)
      refine Exists.intro (nI (10 + 5 * (q_nu T (q_nx T p)))) (And.intro (nI_add _ _) ?_)
      refine Exists.intro (nI 3) (And.intro rfl ?_)
      refine Exists.intro (nI (10 + 5 * (q_nu T (q_nx T p)) + 3)) (And.intro (nI_add _ _) ?_)
      refine Exists.intro (nI 1) (And.intro rfl ?_)
      obtain ⟨σ3, eσ3⟩ : ∃ zs, zs = (qx_wi σ2 203 (10 + 5 * (q_nu T (q_nx T p)) + 3) (nI 1)) := ⟨_, rfl⟩
      have fσ3 := qn_wi eσ3
      refine Exists.intro (10 + 5 * (q_nu T (q_nx T p)) + 3) (Exists.intro σ3 (And.intro rfl (And.intro ⟨148, rfl, by omega, by decide⟩ (And.intro eσ3.symm ?_))))
      refine Exists.intro (nI 1) (And.intro rfl ?_)
      refine And.intro (Or.inr rfl) ?_
      exact ⟨(fσ1.mn (by decide)).tr ((fσ2.mn (by decide)).tr (fσ3.mn (by decide))), rfl, aσ2.up eσ3⟩
    · skip
      have h17 := bI_f h17
      exact absurd (h17.symm.trans (rfl)) (by decide)
def q_c05 (T : q_T) (p : Nat) (D : qS) : Except Nat (Nat × qS) := match q_nf1 T (q_nx T p) (nI 0) (D 1 - nI 1) with
  | some f => .error f
  | none => match q_nf1 T (q_nx T (q_nx T p)) (nI 0) (D 0 - nI 1) with
    | some f => .error f
    | none => q_cell T (q_nx T (q_nx T (q_nx T p))) (nI 1) (nI 99) (60 + 8 * q_nu T (q_nx T p) + q_nu T (q_nx T (q_nx T p))) D
theorem m_wishC {G : qx_G} {σ : qx_S} {T : q_T} {p : Nat} {D : qS} (h : mC σ T p D) (g : gD D) (h8 : qx_mi σ 197 8 = nI p) (hw : 300 ≤ q_kd T p ∧ q_kd T p < 999) : qx_M G qc_T 3 YX12_isWishHere [.ref 197] σ (fun r s' => rC2 σ s' T (q_c05 T p D) r) := by
  have e1 : qx_mi σ 203 1 = D 1 := congrFun h.2.2.1 1
  have e0 : qx_mi σ 203 0 = D 0 := congrFun h.2.2.1 0
  have b1 := g.2.1.2
  have b0 := g.1.2
  have mn : ∀ σ1, mC σ1 T (q_nx T p) D → _ := fun σ1 a => m_numC (G := G) a (nI 0) (D 1 - nI 1)
  unfold q_c05
  cases e : q_nf1 T (q_nx T p) (nI 0) (D 1 - nI 1) with
  | some f =>
    rw [e] at mn
    refine qx_M_in rfl (Nat.le_of_ble_eq_true rfl) ?_
    refine qy_wp_ok (c := CX12_isWishHere) (cuts := []) vX12_isWishHere wX12_isWishHere 2000 0 _ _ _ ?_
    refine And.intro rfl (Exists.intro _ (And.intro (by decide) (qx_M_mono (m_passC h h8 hw) ?_)))
    rintro _ σ1 ⟨rfl, fσ1, aσ1⟩
    refine Exists.intro (nI 0) (And.intro rfl ?_)
    refine And.intro rfl (Exists.intro 203 (And.intro rfl ?_))
    refine Exists.intro (nI 1) (And.intro rfl ?_)
    refine Exists.intro (1) (Exists.intro (D 1) (And.intro rfl (And.intro ⟨148, rfl, by decide, by decide⟩ (And.intro ((fσ1.i _ _ rfl).trans (e1)) ?_))))
    refine Exists.intro (nI 1) (And.intro rfl ?_)
    refine Exists.intro ((D 1) - (nI 1)) (And.intro rfl ?_)
    refine And.intro rfl (Exists.intro _ (And.intro (by decide) (qx_M_mono (mn _ aσ1) ?_)))
    rintro _ σ2 ⟨fσ2, rfl, gσ2⟩
    refine And.intro (fun h17 => ?_) (fun h17 => ?_)
    · skip
      have h17 := bI_t h17
      exact absurd (h17.symm.trans (rfl)) (by decide)
    · skip
      have h17 := bI_f h17
      refine Exists.intro (nI 0) (And.intro rfl ?_)
      refine And.intro (Or.inl rfl) ?_
      exact ⟨(fσ1.mn (by decide)).tr (fσ2.mn (by decide)), rfl, gσ2⟩
  | none =>
    have hv : q_nu T (q_nx T p) < s_n D 1 := q_nf1_lt (by omega) (g.2.1.1 ▸ e)
    rw [e] at mn
    dsimp only
    have mn2 : ∀ σ1, mC σ1 T (q_nx T (q_nx T p)) D → _ := fun σ1 a => m_numC (G := G) a (nI 0) (D 0 - nI 1)
    cases e' : q_nf1 T (q_nx T (q_nx T p)) (nI 0) (D 0 - nI 1) with
    | some f =>
      rw [e'] at mn2
      refine qx_M_in rfl (Nat.le_of_ble_eq_true rfl) ?_
      refine qy_wp_ok (c := CX12_isWishHere) (cuts := []) vX12_isWishHere wX12_isWishHere 2000 0 _ _ _ ?_
      refine And.intro rfl (Exists.intro _ (And.intro (by decide) (qx_M_mono (m_passC h h8 hw) ?_)))
      rintro _ σ1 ⟨rfl, fσ1, aσ1⟩
      refine Exists.intro (nI 0) (And.intro rfl ?_)
      refine And.intro rfl (Exists.intro 203 (And.intro rfl ?_))
      refine Exists.intro (nI 1) (And.intro rfl ?_)
      refine Exists.intro (1) (Exists.intro (D 1) (And.intro rfl (And.intro ⟨148, rfl, by decide, by decide⟩ (And.intro ((fσ1.i _ _ rfl).trans (e1)) ?_))))
      refine Exists.intro (nI 1) (And.intro rfl ?_)
      refine Exists.intro ((D 1) - (nI 1)) (And.intro rfl ?_)
      refine And.intro rfl (Exists.intro _ (And.intro (by decide) (qx_M_mono (mn _ aσ1) ?_)))
      rintro _ σ2 ⟨fσ2, rfl, aσ2, gσ2⟩
      refine And.intro (fun h17 => ?_) (fun h17 => ?_)
      · skip
        have h17 := bI_t h17
        refine And.intro rfl (Exists.intro 10 (Exists.intro (nI (q_nu T (q_nx T p))) (And.intro rfl (And.intro gσ2 ?_))))
        refine Exists.intro (nI 0) (And.intro rfl ?_)
        refine And.intro rfl (Exists.intro 203 (And.intro rfl ?_))
        refine Exists.intro (nI 0) (And.intro rfl ?_)
        refine Exists.intro (0) (Exists.intro (D 0) (And.intro rfl (And.intro ⟨148, rfl, by decide, by decide⟩ (And.intro ((fσ2.i _ _ rfl).trans ((fσ1.i _ _ rfl).trans (e0))) ?_))))
        refine Exists.intro (nI 1) (And.intro rfl ?_)
        refine Exists.intro ((D 0) - (nI 1)) (And.intro rfl ?_)
        refine And.intro rfl (Exists.intro _ (And.intro (by decide) (qx_M_mono (mn2 _ aσ2) ?_)))
        rintro _ σ3 ⟨fσ3, rfl, gσ3⟩
        refine And.intro (fun h40 => ?_) (fun h40 => ?_)
        · skip
          have h40 := bI_t h40
          exact absurd (h40.symm.trans (rfl)) (by decide)
        · skip
          have h40 := bI_f h40
          refine Exists.intro (nI 0) (And.intro rfl ?_)
          refine And.intro (Or.inl rfl) ?_
          exact ⟨(fσ1.mn (by decide)).tr ((fσ2.mn (by decide)).tr (fσ3.mn (by decide))), rfl, gσ3⟩
      · skip
        have h17 := bI_f h17
        exact absurd (h17.symm.trans (rfl)) (by decide)
    | none =>
      have hv2 : q_nu T (q_nx T (q_nx T p)) < s_n D 0 := q_nf1_lt (by omega) (g.1.1 ▸ e')
      rw [e'] at mn2
      have mc : ∀ σ1, mC σ1 T (q_nx T (q_nx T (q_nx T p))) D → qx_M G qc_T 2 YX12_cellHere [.ref 197, .int (nI (60 + 8 * q_nu T (q_nx T p) + q_nu T (q_nx T (q_nx T p)))), .int (nI 1), .int (nI 99)] σ1 (fun r s' => ∃ b, r = some (.int (bI b)) ∧ rC2 σ1 s' T (q_cell T (q_nx T (q_nx T (q_nx T p))) (nI 1) (nI 99) (60 + 8 * q_nu T (q_nx T p) + q_nu T (q_nx T (q_nx T p))) D) r) := fun σ1 a => qx_M_mono (m_cellC a (by omega) _ _) (fun r s' z => ⟨_, rC2_b z, z⟩)
      refine qx_M_in rfl (Nat.le_of_ble_eq_true rfl) ?_
      refine qy_wp_ok (c := CX12_isWishHere) (cuts := []) vX12_isWishHere wX12_isWishHere 2000 0 _ _ _ ?_
      refine And.intro rfl (Exists.intro _ (And.intro (by decide) (qx_M_mono (m_passC h h8 hw) ?_)))
      rintro _ σ1 ⟨rfl, fσ1, aσ1⟩
      refine Exists.intro (nI 0) (And.intro rfl ?_)
      refine And.intro rfl (Exists.intro 203 (And.intro rfl ?_))
      refine Exists.intro (nI 1) (And.intro rfl ?_)
      refine Exists.intro (1) (Exists.intro (D 1) (And.intro rfl (And.intro ⟨148, rfl, by decide, by decide⟩ (And.intro ((fσ1.i _ _ rfl).trans (e1)) ?_))))
      refine Exists.intro (nI 1) (And.intro rfl ?_)
      refine Exists.intro ((D 1) - (nI 1)) (And.intro rfl ?_)
      refine And.intro rfl (Exists.intro _ (And.intro (by decide) (qx_M_mono (mn _ aσ1) ?_)))
      rintro _ σ2 ⟨fσ2, rfl, aσ2, gσ2⟩
      refine And.intro (fun h17 => ?_) (fun h17 => ?_)
      · skip
        have h17 := bI_t h17
        refine And.intro rfl (Exists.intro 10 (Exists.intro (nI (q_nu T (q_nx T p))) (And.intro rfl (And.intro gσ2 ?_))))
        refine Exists.intro (nI 0) (And.intro rfl ?_)
        refine And.intro rfl (Exists.intro 203 (And.intro rfl ?_))
        refine Exists.intro (nI 0) (And.intro rfl ?_)
        refine Exists.intro (0) (Exists.intro (D 0) (And.intro rfl (And.intro ⟨148, rfl, by decide, by decide⟩ (And.intro ((fσ2.i _ _ rfl).trans ((fσ1.i _ _ rfl).trans (e0))) ?_))))
        refine Exists.intro (nI 1) (And.intro rfl ?_)
        refine Exists.intro ((D 0) - (nI 1)) (And.intro rfl ?_)
        refine And.intro rfl (Exists.intro _ (And.intro (by decide) (qx_M_mono (mn2 _ aσ2) ?_)))
        rintro _ σ3 ⟨fσ3, rfl, aσ3, gσ3⟩
        refine And.intro (fun h40 => ?_) (fun h40 => ?_)
        · skip
          have h40 := bI_t h40
          refine Exists.intro (nI 60) (And.intro rfl ?_)
          refine Exists.intro (nI 8) (And.intro rfl ?_)
          refine Exists.intro (nI (8 * (q_nu T (q_nx T p)))) (And.intro (pk_mul _ _) ?_)
          refine Exists.intro (nI (60 + 8 * (q_nu T (q_nx T p)))) (And.intro (nI_add _ _) ?_)
          refine And.intro rfl (Exists.intro 10 (Exists.intro (nI (q_nu T (q_nx T (q_nx T p)))) (And.intro rfl (And.intro gσ3 ?_))))
          refine Exists.intro (nI (60 + 8 * (q_nu T (q_nx T p)) + (q_nu T (q_nx T (q_nx T p))))) (And.intro (nI_add _ _) ?_)
          refine Exists.intro (nI 1) (And.intro rfl ?_)
          refine Exists.intro (nI 99) (And.intro rfl ?_)
          refine And.intro rfl (Exists.intro _ (And.intro (by decide) (qx_M_mono (mc _ aσ3) ?_)))
          rintro _ σ4 ⟨bb, rfl, fσ4⟩
          refine And.intro (bI_01 _) ?_
          exact ⟨(fσ1.mn (by decide)).tr ((fσ2.mn (by decide)).tr ((fσ3.mn (by decide)).tr fσ4.1)), fσ4.2⟩
        · skip
          have h40 := bI_f h40
          exact absurd (h40.symm.trans (rfl)) (by decide)
      · skip
        have h17 := bI_f h17
        exact absurd (h17.symm.trans (rfl)) (by decide)

