/-! THE REFERENCE: LIES -/
theorem mX.lie {σ σ' : qx_S} {S : qS} {rf : Option qR} {ly ly' : Option (Nat × Nat)} (h : mX σ S rf ly) (hf : ql [(197, some 21), (197, some 22)] σ σ') (h' : match ly' with
    | none => qx_mi σ' 197 21 = -1
    | some q => qx_mi σ' 197 21 = nI q.1 ∧ qx_mi σ' 197 22 = nI q.2 ∧ q.1 < 10 ∧ q.2 < 8) : mX σ' S rf ly' := by
  obtain ⟨h1, h2, h3, h4, h5⟩ := h
  refine ⟨(hf.row 207 (fun _ => rfl)).trans h1, h2, h3, ?_, h'⟩
  cases rf with
  | none => exact h4
  | some R =>
    obtain ⟨t, k1, k2, k3⟩ := h4
    exact ⟨t, k1, k2, k3.fr hf (fun _ => rfl) (fun _ => rfl) (fun _ => rfl)⟩
/-- where one comes -/
def q_cby (S : qS) (rf : Option qR) (ly : Option (Nat × Nat)) (w p : Nat) : Nat := s_at S (if w = 0 then q_tk S rf ly 2 p else q_ct S rf ly p)
theorem m_comesBy {G : qx_G} {σ : qx_S} {S : qS} {rf : Option qR} {ly : Option (Nat × Nat)} (hX : mX σ S rf ly) (g : gS S) {w p : Nat} (hw : w ≤ 1) (hp : p < s_n S 1) : qx_M G qc_T 7 YX12_comesBy [.ref 197, .int (nI w), .int (nI p)] σ (fun r s => r = some (.int (nI (q_cby S rf ly w p))) ∧ ql lBl σ s) := by
  have h10 := g.2.1.2
  have l1 := q_tk_lt (rf := rf) (ly := ly) (k := 2) h10 p hp
  have l2 := q_ct_lt (rf := rf) (ly := ly) p hp
  have u0 : w = 0 → q_cby S rf ly w p = s_at S (q_tk S rf ly 2 p) := fun z => by unfold q_cby; rw [if_pos z]
  have u1 : ¬ w = 0 → q_cby S rf ly w p = s_at S (q_ct S rf ly p) := fun z => by unfold q_cby; rw [if_neg z]
  refine qx_M_in rfl (Nat.le_of_ble_eq_true rfl) ?_
  refine qy_wp_ok (c := CX12_comesBy) (cuts := []) vX12_comesBy wX12_comesBy 2000 0 _ _ _ ?_
  refine And.intro (fun h1 => ?_) (fun h1 => ?_)
  · skip
    have h1 := nI_neT (a := w) (b := 0) (by omega) (by decide) h1
    refine And.intro rfl (Exists.intro _ (And.intro (by decide) (qx_M_mono (m_findsCore hX g) ?_)))
    rintro _ σ1 ⟨rfl, fσ1, aσ1, cσ1⟩
    refine And.intro rfl (Exists.intro 217 (And.intro rfl ?_))
    refine Exists.intro (p) (Exists.intro (nI (q_ct S rf ly p)) (And.intro rfl (And.intro ⟨10, rfl, by omega, by decide⟩ (And.intro (cσ1 p (by omega)) ?_))))
    refine And.intro rfl (Exists.intro _ (And.intro (by decide) (qx_M_mono (m_at (p := (q_ct S rf ly p)) (by omega) ((congrFun aσ1.1 _).trans (g.2.2 (q_ct S rf ly p) (by omega)).1)) ?_)))
    rintro _ _ ⟨rfl, rfl⟩
    first | exact ⟨by rw [u0 h1], (fσ1.mn rfl).tr (fσ2.mn rfl)⟩ | exact ⟨by rw [u1 h1], fσ1.mn rfl⟩
  · skip
    have h1 := nI_eqT (a := w) (b := 0) (by omega) (by decide) h1
    refine Exists.intro (nI 2) (And.intro rfl ?_)
    refine And.intro rfl (Exists.intro _ (And.intro (by decide) (qx_M_mono (m_findsMost hX g (by decide) (by decide)) ?_)))
    rintro _ σ1 ⟨rfl, fσ1, aσ1, bσ1⟩
    refine And.intro rfl (Exists.intro _ (And.intro (by decide) (qx_M_mono (m_followsMost bσ1.1 g aσ1) ?_)))
    rintro _ σ2 ⟨rfl, fσ2, cσ2⟩
    refine And.intro rfl (Exists.intro 217 (And.intro rfl ?_))
    refine Exists.intro (p) (Exists.intro (nI (q_tk S rf ly 2 p)) (And.intro rfl (And.intro ⟨10, rfl, by omega, by decide⟩ (And.intro (cσ2 p (by omega)) ?_))))
    refine And.intro rfl (Exists.intro _ (And.intro (by decide) (qx_M_mono (m_at (p := (q_tk S rf ly 2 p)) (by omega) ((congrFun (bσ1.fr fσ2 rfl).1 _).trans (g.2.2 (q_tk S rf ly 2 p) (by omega)).1)) ?_)))
    rintro _ _ ⟨rfl, rfl⟩
    first | exact ⟨by rw [u0 h1], (fσ1.mn rfl).tr (fσ2.mn rfl)⟩ | exact ⟨by rw [u1 h1], fσ1.mn rfl⟩
theorem q_cby_lt {S : qS} {rf : Option qR} {ly : Option (Nat × Nat)} (g : gS S) {w p : Nat} (hp : p < s_n S 1) : q_cby S rf ly w p < 8 := by
  unfold q_cby
  split
  · exact Nat.lt_of_lt_of_le (g.2.2 _ (q_tk_lt g.2.1.2 p hp)).2 g.1.2
  · exact Nat.lt_of_lt_of_le (g.2.2 _ (q_ct_lt p hp)).2 g.1.2
abbrev lLi : List (Nat × Option Nat) := (197, some 21) :: (197, some 22) :: lBl
def q_gbc (S : qS) (rf : Option qR) (w p : Nat) (tr : Int32) : Nat → Nat → Int32
  | 0, _ => -2
  | m + 1, q => if tr < q_lk S rf p (s_at S p) (q_cby S rf (some (p, q)) w p) then nI q else q_gbc S rf w p tr m (q + 1)
def q_gb (S : qS) (rf : Option qR) (w p : Nat) : Int32 := q_gbc S rf w p (q_lk S rf p (s_at S p) (q_cby S rf none w p)) (s_n S 0) 0
theorem l_gb {G : qx_G} {σ0 : qx_S} {S : qS} {rf : Option qR} (g : gS S) {w p : Nat} (hw : w ≤ 1) (hp : p < s_n S 1) {tr : Int32} : ∀ (m q : Nat) (σ : qx_S), m = s_n S 0 - q → q ≤ s_n S 0 → ql lLi σ0 σ → mX σ S rf none →
    qx_K G qc_T 8 RX12 YX12_gainsBy 15 [.ref 197, .int (nI w), .int (nI p), .int tr, .int (nI q), .retAddr 0] [] σ (fun r s => r = some (.int (q_gbc S rf w p tr (s_n S 0 - q) q)) ∧ ql lLi σ0 s ∧ mX s S rf none) := by
  have h10 := g.2.1.2
  have h8 := g.1.2
  intro m
  induction m using Nat.strongRecOn with
  | _ m ih =>
    intro q σ hm hq hf hX
    rcases Nat.lt_or_ge q (s_n S 0) with hlt | hge
    · have e1 : s_n S 0 - q = (s_n S 0 - (q + 1)) + 1 := by omega
      have hc8 := q_cby_lt (rf := rf) (ly := some (p, q)) (w := w) g hp
      have u1 : tr < q_lk S rf p (s_at S p) (q_cby S rf (some (p, q)) w p) → q_gbc S rf w p tr (s_n S 0 - q) q = nI q := fun z => by rw [e1]; exact if_pos z
      have u2 : ¬ tr < q_lk S rf p (s_at S p) (q_cby S rf (some (p, q)) w p) → q_gbc S rf w p tr (s_n S 0 - q) q = q_gbc S rf w p tr (s_n S 0 - (q + 1)) (q + 1) := fun z => by rw [e1]; exact if_neg z
      refine qy_wp_ok (c := CX12_gainsBy) (cuts := [15]) vX12_gainsBy wX12_gainsBy 2000 15 _ _ _ ?_
      refine And.intro rfl (Exists.intro 207 (And.intro rfl ?_))
      refine Exists.intro (nI 0) (And.intro rfl ?_)
      refine Exists.intro (0) (Exists.intro (nI (s_n S 0)) (And.intro rfl (And.intro ⟨2788, rfl, by decide, by decide⟩ (And.intro ((congrFun hX.1 0).trans g.1.1) ?_))))
      refine And.intro (fun h23 => ?_) (fun h23 => ?_)
      · skip
        have h23 := nI_leT (a := s_n S 0) (b := q) (by omega) (by omega) h23
        exact absurd h23 (by omega)
      · skip
        have h23 := nI_leF (a := s_n S 0) (b := q) (by omega) (by omega) h23
        obtain ⟨σ1, eσ1⟩ : ∃ zs, zs = (qx_wi σ 197 21 (nI p)) := ⟨_, rfl⟩
        have fσ1 := qn_wif eσ1
        refine And.intro rfl (Exists.intro 21 (Exists.intro σ1 (And.intro rfl (And.intro eσ1.symm ?_))))
        have hf_σ1 : ql lLi σ0 σ1 := hf.tr (fσ1.mn rfl)
        obtain ⟨σ2, eσ2⟩ : ∃ zs, zs = (qx_wi σ1 197 22 (nI q)) := ⟨_, rfl⟩
        have fσ2 := qn_wif eσ2
        refine And.intro rfl (Exists.intro 22 (Exists.intro σ2 (And.intro rfl (And.intro eσ2.symm ?_))))
        have hf_σ2 : ql lLi σ0 σ2 := hf_σ1.tr (fσ2.mn rfl)
        have hL : mX σ2 S rf (some (p, q)) := hX.lie ((fσ1.mn rfl).tr (fσ2.mn rfl)) ⟨(fσ2.i _ _ rfl).trans (qn_eq eσ1), qn_eq eσ2, by show p < 10; omega, by show q < 8; omega⟩
        refine And.intro rfl (Exists.intro _ (And.intro (by decide) (qx_M_mono (m_comesBy hL g hw hp) ?_)))
        rintro _ σ3 ⟨rfl, fσ3⟩
        have hf_σ3 : ql lLi σ0 σ3 := hf_σ2.tr (fσ3.mn rfl)
        refine Exists.intro ((-1)) (And.intro (by decide) ?_)
        obtain ⟨σ4, eσ4⟩ : ∃ zs, zs = (qx_wi σ3 197 21 (-1)) := ⟨_, rfl⟩
        have fσ4 := qn_wif eσ4
        refine And.intro rfl (Exists.intro 21 (Exists.intro σ4 (And.intro rfl (And.intro eσ4.symm ?_))))
        have hf_σ4 : ql lLi σ0 σ4 := hf_σ3.tr (fσ4.mn rfl)
        have hX4 : mX σ4 S rf none := (hL.fr fσ3 rfl).lie (fσ4.mn rfl) (qn_eq eσ4)
        refine And.intro rfl (Exists.intro _ (And.intro (by decide) (qx_M_mono (m_likes (p := p) (a := s_at S p) (q := (q_cby S rf (some (p, q)) w p)) hX4 (by omega) (by omega) (g.2.2 p (by omega)).1) ?_)))
        rintro _ σ5 ⟨rfl, fσ5⟩
        have hf_σ5 : ql lLi σ0 σ5 := hf_σ4.tr (fσ5.mn rfl)
        refine And.intro (fun h58 => ?_) (fun h58 => ?_)
        · skip
          refine Exists.intro (nI (q + 1)) (And.intro (nI_add _ _) ?_)
          refine qx_K_le (ls := [.ref 197, .int (nI w), .int (nI p), .int tr, .int (nI (q + 1)), .retAddr 0]) ⟨Or.inr rfl, Or.inr rfl, Or.inr rfl, Or.inr rfl, Or.inr rfl, Or.inl rfl, trivial⟩ ?_
          rw [u2 (Int32.not_lt.mpr h58)]; exact ih _ (by omega) (q + 1) _ rfl (by omega) hf_σ5 (hX4.fr fσ5 rfl)
        · skip
          exact ⟨by rw [u1 (Int32.not_le.mp h58)], hf_σ5, hX4.fr fσ5 rfl⟩
    · obtain rfl : q = s_n S 0 := by omega
      rw [Nat.sub_self]
      refine qy_wp_ok (c := CX12_gainsBy) (cuts := [15]) vX12_gainsBy wX12_gainsBy 2000 15 _ _ _ ?_
      refine And.intro rfl (Exists.intro 207 (And.intro rfl ?_))
      refine Exists.intro (nI 0) (And.intro rfl ?_)
      refine Exists.intro (0) (Exists.intro (nI (s_n S 0)) (And.intro rfl (And.intro ⟨2788, rfl, by decide, by decide⟩ (And.intro ((congrFun hX.1 0).trans g.1.1) ?_))))
      refine And.intro (fun h23 => ?_) (fun h23 => ?_)
      · skip
        have h23 := nI_leT (a := s_n S 0) (b := s_n S 0) (by omega) (by omega) h23
        refine Exists.intro ((-2)) (And.intro (by decide) ?_)
        exact ⟨rfl, hf, hX⟩
      · skip
        have h23 := nI_leF (a := s_n S 0) (b := s_n S 0) (by omega) (by omega) h23
        exact absurd h23 (by omega)
theorem m_gainsBy {G : qx_G} {σ : qx_S} {S : qS} {rf : Option qR} (hX : mX σ S rf none) (g : gS S) {w p : Nat} (hw : w ≤ 1) (hp : p < s_n S 1) : qx_M G qc_T 8 YX12_gainsBy [.ref 197, .int (nI w), .int (nI p)] σ (fun r s => r = some (.int (q_gb S rf w p)) ∧ ql lLi σ s ∧ mX s S rf none) := by
  have h10 := g.2.1.2
  have hc8 := q_cby_lt (rf := rf) (ly := none) (w := w) g hp
  have hf : ql lLi σ σ := qf.rf
  refine qx_M_in rfl (Nat.le_of_ble_eq_true rfl) ?_
  refine qy_wp_ok (c := CX12_gainsBy) (cuts := [15]) vX12_gainsBy wX12_gainsBy 2000 0 _ _ _ ?_
  refine And.intro rfl (Exists.intro _ (And.intro (by decide) (qx_M_mono (m_comesBy hX g hw hp) ?_)))
  rintro _ σ1 ⟨rfl, fσ1⟩
  have hf_σ1 : ql lLi σ σ1 := hf.tr (fσ1.mn rfl)
  have hX_σ1 : mX σ1 S rf none := hX.fr fσ1 rfl
  refine And.intro rfl (Exists.intro _ (And.intro (by decide) (qx_M_mono (m_likes (p := p) (a := s_at S p) (q := (q_cby S rf none w p)) hX_σ1 (by omega) (by omega) (g.2.2 p (by omega)).1) ?_)))
  rintro _ σ2 ⟨rfl, fσ2⟩
  have hf_σ2 : ql lLi σ σ2 := hf_σ1.tr (fσ2.mn rfl)
  have hX_σ2 : mX σ2 S rf none := hX_σ1.fr fσ2 rfl
  refine Exists.intro (nI 0) (And.intro rfl ?_)
  exact l_gb g hw hp _ 0 _ rfl (by omega) hf_σ2 hX_σ2
theorem l_liars {G : qx_G} {σ0 : qx_S} {S : qS} {rf : Option qR} (g : gS S) {w : Nat} (hw : w ≤ 1) : ∀ (m p : Nat) (σ : qx_S), m = s_n S 1 - p → p ≤ s_n S 1 → ql lLi σ0 σ → mX σ S rf none →
    qx_K G qc_T 9 RX12 YX12_liars 23 [.ref 197, .int (nI w), .int (nI (q_set (fun p => decide (0 ≤ q_gb S rf w p)) p)), .int (nI p)] [] σ (fun r s => r = some (.int (nI (q_set (fun p => decide (0 ≤ q_gb S rf w p)) (s_n S 1)))) ∧ ql lLi σ0 s ∧ mX s S rf none) := by
  have h10 := g.2.1.2
  intro m
  induction m using Nat.strongRecOn with
  | _ m ih =>
    intro p σ hm hp hf hX
    rcases Nat.lt_or_ge p (s_n S 1) with hlt | hge
    · have u1 : 0 ≤ q_gb S rf w p → q_set (fun p => decide (0 ≤ q_gb S rf w p)) (p + 1) = q_set (fun p => decide (0 ≤ q_gb S rf w p)) p ||| 2 ^ p := fun z => if_pos (decide_eq_true z)
      have u2 : ¬ 0 ≤ q_gb S rf w p → q_set (fun p => decide (0 ≤ q_gb S rf w p)) (p + 1) = q_set (fun p => decide (0 ≤ q_gb S rf w p)) p ||| 0 := fun z => (if_neg (fun y => z (of_decide_eq_true y))).trans (Nat.or_zero _).symm
      refine qy_wp_ok (c := CX12_liars) (cuts := [23]) vX12_liars wX12_liars 2000 23 _ _ _ ?_
      refine And.intro rfl (Exists.intro 207 (And.intro rfl ?_))
      refine Exists.intro (nI 1) (And.intro rfl ?_)
      refine Exists.intro (1) (Exists.intro (nI (s_n S 1)) (And.intro rfl (And.intro ⟨2788, rfl, by decide, by decide⟩ (And.intro ((congrFun hX.1 1).trans g.2.1.1) ?_))))
      refine And.intro (fun h30 => ?_) (fun h30 => ?_)
      · skip
        have h30 := nI_leT (a := s_n S 1) (b := p) (by omega) (by omega) h30
        exact absurd h30 (by omega)
      · skip
        have h30 := nI_leF (a := s_n S 1) (b := p) (by omega) (by omega) h30
        refine And.intro rfl (Exists.intro _ (And.intro (by decide) (qx_M_mono (m_gainsBy hX g hw (by omega)) ?_)))
        rintro _ σ1 ⟨rfl, fσ1, aσ1⟩
        have hf_σ1 : ql lLi σ0 σ1 := hf.tr (fσ1.mn rfl)
        refine And.intro (fun h40 => ?_) (fun h40 => ?_)
        · skip
          refine Exists.intro (nI 0) (And.intro rfl ?_)
          refine Exists.intro (nI ((q_set (fun p => decide (0 ≤ q_gb S rf w p)) p) ||| 0)) (And.intro (nI_or _ _) ?_)
          refine Exists.intro (nI (p + 1)) (And.intro (nI_add _ _) ?_)
          first | (rw [← u1 (Int32.not_lt.mp h40)]; exact ih _ (by omega) (p + 1) _ rfl (by omega) hf_σ1 aσ1) | (rw [← u2 (Int32.not_le.mpr h40)]; exact ih _ (by omega) (p + 1) _ rfl (by omega) hf_σ1 aσ1)
        · skip
          refine Exists.intro (nI 1) (And.intro rfl ?_)
          refine Exists.intro (nI (2 ^ p)) (And.intro (nI_sh1 (by omega)) ?_)
          refine Exists.intro (nI ((q_set (fun p => decide (0 ≤ q_gb S rf w p)) p) ||| (2 ^ p))) (And.intro (nI_or _ _) ?_)
          refine Exists.intro (nI (p + 1)) (And.intro (nI_add _ _) ?_)
          first | (rw [← u1 (Int32.not_lt.mp h40)]; exact ih _ (by omega) (p + 1) _ rfl (by omega) hf_σ1 aσ1) | (rw [← u2 (Int32.not_le.mpr h40)]; exact ih _ (by omega) (p + 1) _ rfl (by omega) hf_σ1 aσ1)
    · obtain rfl : p = s_n S 1 := by omega
      refine qy_wp_ok (c := CX12_liars) (cuts := [23]) vX12_liars wX12_liars 2000 23 _ _ _ ?_
      refine And.intro rfl (Exists.intro 207 (And.intro rfl ?_))
      refine Exists.intro (nI 1) (And.intro rfl ?_)
      refine Exists.intro (1) (Exists.intro (nI (s_n S 1)) (And.intro rfl (And.intro ⟨2788, rfl, by decide, by decide⟩ (And.intro ((congrFun hX.1 1).trans g.2.1.1) ?_))))
      refine And.intro (fun h30 => ?_) (fun h30 => ?_)
      · skip
        have h30 := nI_leT (a := s_n S 1) (b := s_n S 1) (by omega) (by omega) h30
        exact ⟨rfl, hf, hX⟩
      · skip
        have h30 := nI_leF (a := s_n S 1) (b := s_n S 1) (by omega) (by omega) h30
        exact absurd h30 (by omega)
theorem m_liars_no {G : qx_G} {σ : qx_S} {S : qS} (hS : qx_mi σ 207 = S) {pl : Nat} (e0 : S 0 = nI pl) (h0 : pl ≤ 8) {x : Int32} (hb : (decide (0 < pl) && q_in64 x.toInt64 (lN 0) (lN 1)) = false) : qx_M G qc_T 9 YX12_liars [.ref 197, .int x] σ (qr (-1) σ) := by
  refine qx_M_in rfl (Nat.le_of_ble_eq_true rfl) ?_
  refine qy_wp_ok (c := CX12_liars) (cuts := [23]) vX12_liars wX12_liars 2000 0 _ _ _ ?_
  refine And.intro rfl (Exists.intro _ (And.intro (by decide) (qx_M_mono (m_isCountry hS e0 h0) ?_)))
  rintro _ _ ⟨rfl, rfl⟩
  refine And.intro (fun h4 => ?_) (fun h4 => ?_)
  · skip
    have h4 := bI_f h4
    refine Exists.intro ((-1)) (And.intro (by decide) ?_)
    exact ⟨rfl, rfl⟩
  · skip
    have h4 := bI_t h4
    refine Exists.intro x.toInt64 (And.intro rfl ?_)
    refine Exists.intro (lN 0) (And.intro rfl ?_)
    refine Exists.intro (lN 1) (And.intro rfl ?_)
    refine Exists.intro _ (And.intro (by decide) (qx_M_mono (m_in (v := x.toInt64) (l := (lN 0)) (h := (lN 1))) ?_))
    rintro _ _ ⟨rfl, rfl⟩
    refine And.intro (fun h14 => ?_) (fun h14 => ?_)
    · skip
      have h14 := bI_t h14
      rw [h4, h14] at hb; cases hb
    · skip
      have h14 := bI_f h14
      refine Exists.intro ((-1)) (And.intro (by decide) ?_)
      exact ⟨rfl, rfl⟩
theorem m_liars_ok {G : qx_G} {σ : qx_S} {S : qS} {rf : Option qR} (hX : mX σ S rf none) (g : gS S) (hc : 0 < s_n S 0) {w : Nat} (hw : w ≤ 1) : qx_M G qc_T 9 YX12_liars [.ref 197, .int (nI w)] σ (fun r s => r = some (.int (nI (q_set (fun p => decide (0 ≤ q_gb S rf w p)) (s_n S 1)))) ∧ ql lLi σ s ∧ mX s S rf none) := by
  have hS := hX.1
  refine qx_M_in rfl (Nat.le_of_ble_eq_true rfl) ?_
  refine qy_wp_ok (c := CX12_liars) (cuts := [23]) vX12_liars wX12_liars 2000 0 _ _ _ ?_
  refine And.intro rfl (Exists.intro _ (And.intro (by decide) (qx_M_mono (m_isCountry hS g.1.1 g.1.2) ?_)))
  rintro _ _ ⟨rfl, rfl⟩
  refine And.intro (fun h4 => ?_) (fun h4 => ?_)
  · skip
    have h4 := bI_f h4
    exact absurd (h4.symm.trans (decide_eq_true hc)) (by decide)
  · skip
    have h4 := bI_t h4
    refine Exists.intro ((nI w).toInt64) (And.intro rfl ?_)
    refine Exists.intro (lN 0) (And.intro rfl ?_)
    refine Exists.intro (lN 1) (And.intro rfl ?_)
    refine Exists.intro _ (And.intro (by decide) (qx_M_mono (m_in (v := ((nI w).toInt64)) (l := (lN 0)) (h := (lN 1))) ?_))
    rintro _ _ ⟨rfl, rfl⟩
    refine And.intro (fun h14 => ?_) (fun h14 => ?_)
    · skip
      have h14 := bI_t h14
      refine Exists.intro (nI 0) (And.intro rfl ?_)
      refine Exists.intro (nI 0) (And.intro rfl ?_)
      exact l_liars g hw _ 0 σ rfl (by omega) qf.rf hX
    · skip
      have h14 := bI_f h14
      exact absurd (h14.symm.trans (q_in_ok (by omega) (by omega) (by decide))) (by decide)
theorem m_lie_no {G : qx_G} {σ : qx_S} {S : qS} (hS : qx_mi σ 207 = S) {pe : Nat} (e1 : S 1 = nI pe) {w x : Int32} (hb : (q_in64 w.toInt64 (lN 0) (lN 1) && q_is x pe) = false) : qx_M G qc_T 9 YX12_lie [.ref 197, .int w, .int x] σ (qr (-1) σ) := by
  refine qx_M_in rfl (Nat.le_of_ble_eq_true rfl) ?_
  refine qy_wp_ok (c := CX12_lie) (cuts := []) vX12_lie wX12_lie 2000 0 _ _ _ ?_
  refine Exists.intro w.toInt64 (And.intro rfl ?_)
  refine Exists.intro (lN 0) (And.intro rfl ?_)
  refine Exists.intro (lN 1) (And.intro rfl ?_)
  refine Exists.intro _ (And.intro (by decide) (qx_M_mono (m_in (v := w.toInt64) (l := (lN 0)) (h := (lN 1))) ?_))
  rintro _ _ ⟨rfl, rfl⟩
  refine And.intro (fun h7 => ?_) (fun h7 => ?_)
  · skip
    have h7 := bI_f h7
    refine Exists.intro ((-1)) (And.intro (by decide) ?_)
    exact ⟨rfl, rfl⟩
  · skip
    have h7 := bI_t h7
    refine And.intro rfl (Exists.intro _ (And.intro (by decide) (qx_M_mono (m_isPerson hS e1 x) ?_)))
    rintro _ _ ⟨rfl, rfl⟩
    refine And.intro (fun h15 => ?_) (fun h15 => ?_)
    · skip
      have h15 := bI_f h15
      refine Exists.intro ((-1)) (And.intro (by decide) ?_)
      exact ⟨rfl, rfl⟩
    · skip
      have h15 := bI_t h15
      rw [h7, h15] at hb; cases hb
theorem m_lie_ok {G : qx_G} {σ : qx_S} {S : qS} {rf : Option qR} (hX : mX σ S rf none) (g : gS S) {w p : Nat} (hw : w ≤ 1) (hp : p < s_n S 1) : qx_M G qc_T 9 YX12_lie [.ref 197, .int (nI w), .int (nI p)] σ (fun r s => r = some (.int (q_gb S rf w p)) ∧ ql lLi σ s ∧ mX s S rf none) := by
  have hS := hX.1
  have h10 := g.2.1.2
  refine qx_M_in rfl (Nat.le_of_ble_eq_true rfl) ?_
  refine qy_wp_ok (c := CX12_lie) (cuts := []) vX12_lie wX12_lie 2000 0 _ _ _ ?_
  refine Exists.intro ((nI w).toInt64) (And.intro rfl ?_)
  refine Exists.intro (lN 0) (And.intro rfl ?_)
  refine Exists.intro (lN 1) (And.intro rfl ?_)
  refine Exists.intro _ (And.intro (by decide) (qx_M_mono (m_in (v := ((nI w).toInt64)) (l := (lN 0)) (h := (lN 1))) ?_))
  rintro _ _ ⟨rfl, rfl⟩
  refine And.intro (fun h7 => ?_) (fun h7 => ?_)
  · skip
    have h7 := bI_f h7
    exact absurd (h7.symm.trans (q_in_ok (by omega) (by omega) (by decide))) (by decide)
  · skip
    have h7 := bI_t h7
    refine And.intro rfl (Exists.intro _ (And.intro (by decide) (qx_M_mono (m_isPerson hS g.2.1.1 (nI p)) ?_)))
    rintro _ _ ⟨rfl, rfl⟩
    refine And.intro (fun h15 => ?_) (fun h15 => ?_)
    · skip
      have h15 := bI_f h15
      exact absurd (h15.symm.trans (q_is_ok hp (by omega))) (by decide)
    · skip
      have h15 := bI_t h15
      refine And.intro rfl (Exists.intro _ (And.intro (by decide) (qx_M_mono (m_gainsBy hX g hw hp) ?_)))
      rintro _ σ1 ⟨rfl, fσ1, aσ1⟩
      exact ⟨rfl, fσ1, aσ1⟩

