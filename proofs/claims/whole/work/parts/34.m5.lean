/-! THE REFERENCE: rings that go -/
theorem m_in {G : qx_G} {σ : qx_S} {v l h : Int64} : qx_M G qc_T 0 YX12_in [.long v, .long l, .long h] σ (qr (bI (q_in64 v l h)) σ) := by
  refine qx_M_in rfl (Nat.le_of_ble_eq_true rfl) ?_
  refine qy_wp_ok (c := CX12_in) (cuts := []) vX12_in wX12_in 2000 0 _ _ _ ?_
  refine Exists.intro (lg_cmp v l) (And.intro rfl ?_)
  refine And.intro (fun h3 => ?_) (fun h3 => ?_)
  · skip
    have h3 := (lg_cmp_lt _ _).mp h3
    refine Exists.intro (nI 0) (And.intro rfl ?_)
    refine And.intro (Or.inl rfl) ?_
    unfold q_in64; refine ⟨congrArg (fun z => some (Value.int z)) ?_, rfl⟩; first | rw [decide_eq_true (Int64.not_lt.mp h3), decide_eq_true (Int64.not_lt.mp h10)]; rfl | rw [decide_eq_true (Int64.not_lt.mp h3), decide_eq_false (Int64.not_le.mpr h10)]; rfl | rw [decide_eq_false (Int64.not_le.mpr h3)]; rfl
  · skip
    have h3 := fun z => h3 ((lg_cmp_lt _ _).mpr z)
    refine Exists.intro (lg_cmp v h) (And.intro rfl ?_)
    refine And.intro (fun h10 => ?_) (fun h10 => ?_)
    · skip
      have h10 := (lg_cmp_gt _ _).mp h10
      refine Exists.intro (nI 0) (And.intro rfl ?_)
      refine And.intro (Or.inl rfl) ?_
      unfold q_in64; refine ⟨congrArg (fun z => some (Value.int z)) ?_, rfl⟩; first | rw [decide_eq_true (Int64.not_lt.mp h3), decide_eq_true (Int64.not_lt.mp h10)]; rfl | rw [decide_eq_true (Int64.not_lt.mp h3), decide_eq_false (Int64.not_le.mpr h10)]; rfl | rw [decide_eq_false (Int64.not_le.mpr h3)]; rfl
    · skip
      have h10 := fun z => h10 ((lg_cmp_gt _ _).mpr z)
      refine Exists.intro (nI 1) (And.intro rfl ?_)
      refine And.intro (Or.inr rfl) ?_
      unfold q_in64; refine ⟨congrArg (fun z => some (Value.int z)) ?_, rfl⟩; first | rw [decide_eq_true (Int64.not_lt.mp h3), decide_eq_true (Int64.not_lt.mp h10)]; rfl | rw [decide_eq_true (Int64.not_lt.mp h3), decide_eq_false (Int64.not_le.mpr h10)]; rfl | rw [decide_eq_false (Int64.not_le.mpr h3)]; rfl
theorem l_wishesAway {G : qx_G} {σ0 : qx_S} {S : qS} {rf : Option qR} {ly : Option (Nat × Nat)} (g : gS S) {p : Nat} (hp : p < s_n S 1) {now : Int32} (hnow : now = q_ll S rf ly p (s_at S p) (s_at S p)) : ∀ (m q : Nat) (σ : qx_S), m = s_n S 0 - q → q ≤ s_n S 0 → ql lE σ0 σ → mX σ S rf ly →
    qx_K G qc_T 4 RX12 YX12_wishesAway 13 [.ref 197, .int (nI p), .int now, .int (nI q)] [] σ (fun r s => r = some (.int (bI (q_ex (fun q => decide (q_ll S rf ly p (s_at S p) (s_at S p) < q_ll S rf ly p (s_at S p) q)) (s_n S 0 - q) q))) ∧ ql lE σ0 s) := by
  intro m
  have g1 := g.1.2
  have g2 := g.2.1.2
  induction m using Nat.strongRecOn with
  | _ m ih =>
    intro q σ hm hq hf hX
    rcases Nat.lt_or_ge q (s_n S 0) with hlt | hge
    · have e1 : s_n S 0 - q = (s_n S 0 - (q + 1)) + 1 := by omega
      refine qy_wp_ok (c := CX12_wishesAway) (cuts := [13]) vX12_wishesAway wX12_wishesAway 2000 13 _ _ _ ?_
      refine And.intro rfl (Exists.intro 207 (And.intro rfl ?_))
      refine Exists.intro (nI 0) (And.intro rfl ?_)
      refine Exists.intro (0) (Exists.intro (nI (s_n S 0)) (And.intro rfl (And.intro ⟨2788, rfl, by decide, by decide⟩ (And.intro ((congrFun hX.1 0).trans g.1.1) ?_))))
      refine And.intro (fun h20 => ?_) (fun h20 => ?_)
      · skip
        have h20 := nI_leT (a := s_n S 0) (b := q) (by omega) (by omega) h20
        exact absurd h20 (by omega)
      · skip
        have h20 := nI_leF (a := s_n S 0) (b := q) (by omega) (by omega) h20
        refine And.intro rfl (Exists.intro _ (And.intro (by decide) (qx_M_mono (m_likes (p := p) (a := s_at S p) (q := q) hX (by omega) (by omega) (g.2.2 p (by omega)).1) ?_)))
        rintro _ σ1 ⟨rfl, fσ1⟩
        have hf_σ1 : ql lE σ0 σ1 := hf.tr fσ1
        have hX_σ1 : mX σ1 S rf ly := hX.fr fσ1 rfl
        refine And.intro (fun h30 => ?_) (fun h30 => ?_)
        · skip
          refine Exists.intro (nI (q + 1)) (And.intro (nI_add _ _) ?_)
          have k := ih (s_n S 0 - (q + 1)) (by omega) (q + 1) _ rfl (by omega) hf_σ1 hX_σ1
          refine qx_K_mono k (fun r s h => ⟨h.1.trans ?_, h.2⟩)
          rw [e1, q_ex_f (decide_eq_false (hnow ▸ Int32.not_lt.mpr h30))]
        · skip
          refine Exists.intro (nI 1) (And.intro rfl ?_)
          refine And.intro (Or.inr rfl) ?_
          exact ⟨congrArg (fun z => some (Value.int z)) (bI_true (by rw [e1]; exact q_ex_t (decide_eq_true (hnow ▸ Int32.not_le.mp h30)))).symm, hf_σ1⟩
    · obtain rfl : q = s_n S 0 := by omega
      rw [Nat.sub_self]
      refine qy_wp_ok (c := CX12_wishesAway) (cuts := [13]) vX12_wishesAway wX12_wishesAway 2000 13 _ _ _ ?_
      refine And.intro rfl (Exists.intro 207 (And.intro rfl ?_))
      refine Exists.intro (nI 0) (And.intro rfl ?_)
      refine Exists.intro (0) (Exists.intro (nI (s_n S 0)) (And.intro rfl (And.intro ⟨2788, rfl, by decide, by decide⟩ (And.intro ((congrFun hX.1 0).trans g.1.1) ?_))))
      refine And.intro (fun h20 => ?_) (fun h20 => ?_)
      · skip
        have h20 := nI_leT (a := s_n S 0) (b := s_n S 0) (by omega) (by omega) h20
        refine Exists.intro (nI 0) (And.intro rfl ?_)
        refine And.intro (Or.inl rfl) ?_
        exact ⟨rfl, hf⟩
      · skip
        have h20 := nI_leF (a := s_n S 0) (b := s_n S 0) (by omega) (by omega) h20
        exact absurd h20 (by omega)
theorem m_wishesAway {G : qx_G} {σ : qx_S} {S : qS} {rf : Option qR} {ly : Option (Nat × Nat)} (hX : mX σ S rf ly) (g : gS S) {p : Nat} (hp : p < s_n S 1) : qx_M G qc_T 4 YX12_wishesAway [.ref 197, .int (nI p)] σ (fun r s => r = some (.int (bI (q_aw S rf ly p (s_at S p)))) ∧ ql lE σ s) := by
  have g1 := g.1.2
  have g2 := g.2.1.2
  have g3 : s_at S p < s_n S 0 := (g.2.2 p hp).2
  refine qx_M_in rfl (Nat.le_of_ble_eq_true rfl) ?_
  refine qy_wp_ok (c := CX12_wishesAway) (cuts := [13]) vX12_wishesAway wX12_wishesAway 2000 0 _ _ _ ?_
  refine And.intro rfl (Exists.intro _ (And.intro (by decide) (qx_M_mono (m_at (p := p) (by omega) ((congrFun hX.1 _).trans (g.2.2 p (by omega)).1)) ?_)))
  rintro _ _ ⟨rfl, rfl⟩
  refine And.intro rfl (Exists.intro _ (And.intro (by decide) (qx_M_mono (m_likes (p := p) (a := s_at S p) (q := (s_at S p)) hX (by omega) (by omega) (g.2.2 p (by omega)).1) ?_)))
  rintro _ σ1 ⟨rfl, fσ1⟩
  have hX_σ1 : mX σ1 S rf ly := hX.fr fσ1 rfl
  refine Exists.intro (nI 0) (And.intro rfl ?_)
  exact qx_K_mono (l_wishesAway g hp rfl _ 0 σ1 rfl (by omega) fσ1 hX_σ1) (fun r s h => h)
/-- a ring stands -/
def mG (σ : qx_S) (rg : Nat → Nat) (n : Nat) : Prop := qx_mi σ 197 24 = nI n ∧ ∀ k, k < n → qx_mi σ 208 k = nI (rg k)
theorem mG.fr {σ σ' : qx_S} {rg : Nat → Nat} {n : Nat} {l : List (Nat × Option Nat)} (h : mG σ rg n) (hf : ql l σ σ') (h1 : pL l 197 24 = false) (h2 : ∀ j, pL l 208 j = false) : mG σ' rg n := ⟨(hf.i _ _ h1).trans h.1, fun k hk => (hf.i _ _ (h2 k)).trans (h.2 k hk)⟩
theorem l_lawBroken {G : qx_G} {σ0 : qx_S} {S : qS} {rf : Option qR} {ly : Option (Nat × Nat)} (g : gS S) {rg : Nat → Nat} {n : Nat} (hn : n ≤ 6) (hr : ∀ k, k < n → rg k < s_n S 1) : ∀ (m k : Nat) (σ : qx_S), m = n - k → k ≤ n → ql lE σ0 σ → mX σ S rf ly → mG σ rg n →
    qx_K G qc_T 5 RX12 YX12_lawBroken 2 [.ref 197, .int (nI k), .retAddr 0] [] σ (fun r s => r = some (.int (nI (q_lbc S rf ly rg n (n - k) k))) ∧ ql lE σ0 s) := by
  intro m
  have g1 := g.1.2
  have g2 := g.2.1.2
  induction m using Nat.strongRecOn with
  | _ m ih =>
    intro k σ hm hk hf hX hG
    rcases Nat.lt_or_ge k n with hlt | hge
    · have e1 : n - k = (n - (k + 1)) + 1 := by omega
      have hm1 : (k + 1) % n < n := Nat.mod_lt _ (by omega)
      have hr1 := hr k hlt
      have hr2 := hr _ hm1
      have hb3 := q_bk_le S rf ly (rg k) (s_at S (rg k)) (s_at S (rg ((k + 1) % n))) (rg ((k + 1) % n)) n
      refine qy_wp_ok (c := CX12_lawBroken) (cuts := [2]) vX12_lawBroken wX12_lawBroken 2000 2 _ _ _ ?_
      refine And.intro rfl (Exists.intro 24 (Exists.intro (nI n) (And.intro rfl (And.intro (hG.1) ?_))))
      refine And.intro (fun h7 => ?_) (fun h7 => ?_)
      · skip
        have h7 := nI_leT (a := n) (b := k) (by omega) (by omega) h7
        exact absurd h7 (by omega)
      · skip
        have h7 := nI_leF (a := n) (b := k) (by omega) (by omega) h7
        refine And.intro rfl (Exists.intro 208 (And.intro rfl ?_))
        refine Exists.intro (k) (Exists.intro (nI (rg k)) (And.intro rfl (And.intro ⟨6, rfl, by omega, by decide⟩ (And.intro (hG.2 k hlt) ?_))))
        refine And.intro rfl (Exists.intro 208 (And.intro rfl ?_))
        refine Exists.intro (nI 1) (And.intro rfl ?_)
        refine Exists.intro (nI (k + 1)) (And.intro (nI_add _ _) ?_)
        refine And.intro rfl (Exists.intro 24 (Exists.intro (nI n) (And.intro rfl (And.intro (hG.1) ?_))))
        refine And.intro (nI_ne0 (by omega) (by omega)) (Exists.intro (nI ((k + 1) % n)) (And.intro (nI_rem (by omega) (by omega)) ?_))
        refine Exists.intro ((k + 1) % n) (Exists.intro (nI (rg ((k + 1) % n))) (And.intro rfl (And.intro ⟨6, rfl, by omega, by decide⟩ (And.intro (hG.2 _ hm1) ?_))))
        refine And.intro rfl (Exists.intro 24 (Exists.intro (nI n) (And.intro rfl (And.intro (hG.1) ?_))))
        refine And.intro rfl (Exists.intro _ (And.intro (by decide) (qx_M_mono (m_brokenBy (p := (rg k)) (o := (rg ((k + 1) % n))) (ring := n) hX (by omega) (by omega) (g.2.2 (rg k) (by omega)).1 (g.2.2 (rg ((k + 1) % n)) (by omega)).1 (Nat.lt_of_lt_of_le (g.2.2 (rg k) (by omega)).2 g.1.2) (Nat.lt_of_lt_of_le (g.2.2 (rg ((k + 1) % n)) (by omega)).2 g.1.2)) ?_)))
        rintro _ σ1 ⟨rfl, fσ1⟩
        have hf_σ1 : ql lE σ0 σ1 := hf.tr fσ1
        have hX_σ1 : mX σ1 S rf ly := hX.fr fσ1 rfl
        have hG_σ1 : mG σ1 rg n := hG.fr fσ1 rfl (fun _ => rfl)
        refine And.intro (fun h39 => ?_) (fun h39 => ?_)
        · skip
          have h39 := nI_leT (a := q_bk S rf ly (rg k) (s_at S (rg k)) (s_at S (rg ((k + 1) % n))) (rg ((k + 1) % n)) n) (b := 0) (by omega) (by decide) h39
          refine Exists.intro (nI (k + 1)) (And.intro (nI_add _ _) ?_)
          refine qx_K_le (ls := [.ref 197, .int (nI (k + 1)), .retAddr 0]) ⟨Or.inr rfl, Or.inr rfl, Or.inl rfl, trivial⟩ ?_
          have z := ih (n - (k + 1)) (by omega) (k + 1) _ rfl (by omega) hf_σ1 hX_σ1 hG_σ1
          refine qx_K_mono z (fun r s h => ⟨h.1.trans ?_, h.2⟩)
          rw [e1]
          show _ = some (Value.int (nI (if _ then _ else _)))
          rw [if_neg (by omega)]
        · skip
          have h39 := nI_leF (a := q_bk S rf ly (rg k) (s_at S (rg k)) (s_at S (rg ((k + 1) % n))) (rg ((k + 1) % n)) n) (b := 0) (by omega) (by decide) h39
          exact ⟨by rw [e1]; show _ = some (Value.int (nI (if _ then _ else _))); rw [if_pos h39], hf_σ1⟩
    · obtain rfl : k = n := by omega
      rw [Nat.sub_self]
      refine qy_wp_ok (c := CX12_lawBroken) (cuts := [2]) vX12_lawBroken wX12_lawBroken 2000 2 _ _ _ ?_
      refine And.intro rfl (Exists.intro 24 (Exists.intro (nI k) (And.intro rfl (And.intro hG.1 ?_))))
      refine And.intro (fun h7 => ?_) (fun h7 => ?_)
      · skip
        have h7 := nI_leT (a := k) (b := k) (by omega) (by omega) h7
        refine Exists.intro (nI 0) (And.intro rfl ?_)
        exact ⟨rfl, hf⟩
      · skip
        have h7 := nI_leF (a := k) (b := k) (by omega) (by omega) h7
        exact absurd h7 (by omega)
theorem m_lawBroken {G : qx_G} {σ : qx_S} {S : qS} {rf : Option qR} {ly : Option (Nat × Nat)} (hX : mX σ S rf ly) (g : gS S) {rg : Nat → Nat} {n : Nat} (hn : n ≤ 6) (hr : ∀ k, k < n → rg k < s_n S 1) (hG : mG σ rg n) : qx_M G qc_T 5 YX12_lawBroken [.ref 197] σ (fun r s => r = some (.int (nI (q_lb S rf ly rg n))) ∧ ql lE σ s) := by
  refine qx_M_in rfl (Nat.le_of_ble_eq_true rfl) ?_
  refine qy_wp_ok (c := CX12_lawBroken) (cuts := [2]) vX12_lawBroken wX12_lawBroken 2000 0 _ _ _ ?_
  refine Exists.intro (nI 0) (And.intro rfl ?_)
  exact qx_K_mono (l_lawBroken g hn hr _ 0 σ rfl (by omega) qf.rf hX hG) (fun r s h => h)
theorem m_takesTwo {G : qx_G} {σ : qx_S} {a b : Nat} : qx_M G qc_T 0 YX12_takesTwo [.ref 197, .int (nI a), .int (nI b)] σ (fun r s => r = none ∧ ql [(208, none), (197, some 24)] σ s ∧ mG s (fun k => if k = 0 then a else b) 2) := by
  have hf : ql [(208, none), (197, some 24)] σ σ := qf.rf
  refine qx_M_in rfl (Nat.le_of_ble_eq_true rfl) ?_
  refine qy_wp_ok (c := CX12_takesTwo) (cuts := []) vX12_takesTwo wX12_takesTwo 2000 0 _ _ _ ?_
  refine Exists.intro (nI 2) (And.intro rfl ?_)
  obtain ⟨σ1, eσ1⟩ : ∃ zs, zs = (qx_wi σ 197 24 (nI 2)) := ⟨_, rfl⟩
  have fσ1 := qn_wif eσ1
  refine And.intro rfl (Exists.intro 24 (Exists.intro σ1 (And.intro rfl (And.intro eσ1.symm ?_))))
  have hf_σ1 : ql [(208, none), (197, some 24)] σ σ1 := hf.tr (fσ1.mn rfl)
  refine And.intro rfl (Exists.intro 208 (And.intro rfl ?_))
  refine Exists.intro (nI 0) (And.intro rfl ?_)
  obtain ⟨σ2, eσ2⟩ : ∃ zs, zs = (qx_wi σ1 208 0 (nI a)) := ⟨_, rfl⟩
  have fσ2 := qn_wi eσ2
  refine Exists.intro (0) (Exists.intro σ2 (And.intro rfl (And.intro ⟨6, rfl, by decide, by decide⟩ (And.intro eσ2.symm ?_))))
  have hf_σ2 : ql [(208, none), (197, some 24)] σ σ2 := hf_σ1.tr (fσ2.mn rfl)
  refine And.intro rfl (Exists.intro 208 (And.intro rfl ?_))
  refine Exists.intro (nI 1) (And.intro rfl ?_)
  obtain ⟨σ3, eσ3⟩ : ∃ zs, zs = (qx_wi σ2 208 1 (nI b)) := ⟨_, rfl⟩
  have fσ3 := qn_wi eσ3
  refine Exists.intro (1) (Exists.intro σ3 (And.intro rfl (And.intro ⟨6, rfl, by decide, by decide⟩ (And.intro eσ3.symm ?_))))
  have hf_σ3 : ql [(208, none), (197, some 24)] σ σ3 := hf_σ2.tr (fσ3.mn rfl)
  refine ⟨rfl, hf_σ3, ((fσ3.i _ _ rfl).trans ((fσ2.i _ _ rfl).trans (qn_eq eσ1))), fun k hk => ?_⟩
  match k, hk with
  | 0, _ => exact ((qn_ne eσ3 (Or.inr (by decide))).trans (qn_eq eσ2))
  | 1, _ => exact (qn_eq eσ3)
abbrev lR : List (Nat × Option Nat) := [(205, none), (206, none), (197, some 18), (208, none), (197, some 24)]
theorem m_canChange {G : qx_G} {σ : qx_S} {S : qS} {rf : Option qR} {ly : Option (Nat × Nat)} (hX : mX σ S rf ly) (g : gS S) {a b : Nat} (ha : a < s_n S 1) (hb : b < s_n S 1) : qx_M G qc_T 6 YX12_canChange [.ref 197, .int (nI a), .int (nI b)] σ (fun r s => r = some (.int (bI (decide (q_lb S rf ly (fun k => if k = 0 then a else b) 2 = 0)))) ∧ ql lR σ s ∧ mG s (fun k => if k = 0 then a else b) 2) := by
  have hf : ql lR σ σ := qf.rf
  have hb3 : q_lb S rf ly (fun k => if k = 0 then a else b) 2 ≤ 3 := q_lbc_le ..
  refine qx_M_in rfl (Nat.le_of_ble_eq_true rfl) ?_
  refine qy_wp_ok (c := CX12_canChange) (cuts := []) vX12_canChange wX12_canChange 2000 0 _ _ _ ?_
  refine And.intro rfl (Exists.intro _ (And.intro (by decide) (qx_M_mono (m_takesTwo (a := a) (b := b)) ?_)))
  rintro _ σ1 ⟨rfl, fσ1, gσ1⟩
  have hf_σ1 : ql lR σ σ1 := hf.tr (fσ1.mn rfl)
  have hX_σ1 : mX σ1 S rf ly := hX.fr fσ1 rfl
  refine And.intro rfl (Exists.intro _ (And.intro (by decide) (qx_M_mono (m_lawBroken hX_σ1 g (by omega) (fun k hk => by split <;> omega) gσ1) ?_)))
  rintro _ σ2 ⟨rfl, fσ2⟩
  have hf_σ2 : ql lR σ σ2 := hf_σ1.tr (fσ2.mn rfl)
  have hX_σ2 : mX σ2 S rf ly := hX_σ1.fr fσ2 rfl
  refine And.intro (fun h10 => ?_) (fun h10 => ?_)
  · skip
    have h10 := nI_neT (a := q_lb S rf ly (fun k => if k = 0 then a else b) 2) (b := 0) (by omega) (by decide) h10
    refine Exists.intro (nI 0) (And.intro rfl ?_)
    refine And.intro (Or.inl rfl) ?_
    first | exact ⟨congrArg (fun z => some (Value.int z)) (bI_true (decide_eq_true h10)).symm, hf_σ2, gσ1.fr fσ2 rfl (fun _ => rfl)⟩ | exact ⟨congrArg (fun z => some (Value.int z)) (bI_false (decide_eq_false h10)).symm, hf_σ2, gσ1.fr fσ2 rfl (fun _ => rfl)⟩
  · skip
    have h10 := nI_eqT (a := q_lb S rf ly (fun k => if k = 0 then a else b) 2) (b := 0) (by omega) (by decide) h10
    refine Exists.intro (nI 1) (And.intro rfl ?_)
    refine And.intro (Or.inr rfl) ?_
    first | exact ⟨congrArg (fun z => some (Value.int z)) (bI_true (decide_eq_true h10)).symm, hf_σ2, gσ1.fr fσ2 rfl (fun _ => rfl)⟩ | exact ⟨congrArg (fun z => some (Value.int z)) (bI_false (decide_eq_false h10)).symm, hf_σ2, gσ1.fr fσ2 rfl (fun _ => rfl)⟩

