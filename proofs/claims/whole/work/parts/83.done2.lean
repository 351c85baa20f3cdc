/-! THE REFERENCE: leads -/
theorem l_ldA {G : qx_G} {Φ : qx_F} {S S' : qS} {rf : Option qR} {B : q_B} {σ : qx_S} {k a b n : Nat} (g : gS S) (hX : mX σ S' rf none) (hs : sP S S') (hB : mS σ B) (hk : k < B.1) (en : q_co B k = n) (hv : q_vd S n) (ha : a < s_n S 1) (hb : b < s_n S 1) (hab : a ≠ b)
    (hA : ∀ s S'', ql lQ σ s → mX s S'' rf none → sP S S'' → mS s B → q_cs S rf n a b = false → qx_K G qc_T 7 RX12 YX12_leads 167 [.ref 197, .int (nI k), .int (nI a), .int (nI b), .retAddr 0, .retAddr 0] [] s Φ)
    (hO : ∀ s t, ql lQ σ s → mX s (q_gr (q_two a b) 2 (q_st S n)) rf none → mS s B → q_cs S rf n a b = true → q_fi B (q_sw (s_n S 1) n a b) = some t → qx_K G qc_T 7 RX12 YX12_leads 106 [.ref 197, .int (nI k), .int (nI a), .int (nI b), .retAddr 0, .int (nI t)] [] s Φ)
    (hC : ∀ s, ql lQ σ s → mX s (q_gr (q_two a b) 2 (q_st S n)) rf none → mS s B → q_cs S rf n a b = true → q_fi B (q_sw (s_n S 1) n a b) = none → qx_K G qc_T 7 RX12 YX12_leads 78 [.ref 197, .int (nI k), .int (nI a), .int (nI b), .int (nI (q_sw (s_n S 1) n a b)), .retAddr 0] [] s Φ) :
    qx_K G qc_T 7 RX12 YX12_leads 26 [.ref 197, .int (nI k), .int (nI a), .int (nI b), .retAddr 0, .retAddr 0] [] σ Φ := by
  have h10 := g.2.1.2
  have hle := hB.1
  have hn := hv.1
  have hw : q_sw (s_n S 1) n a b < 1073741824 := q_sw_lt h10
  have x1 : S' 1 = S 1 := hs 1 (by omega)
  have x7 : S' 7 = S 7 := hs 7 (by omega)
  have y1 : q_st S n 1 = S 1 := sP.st n 1 (by omega)
  have y7 : q_st S n 7 = S 7 := sP.st n 7 (by omega)
  have hgr : sP S (q_gr (q_two a b) 2 (q_st S n)) := (sP.st n).gr ha hb
  have z1 : q_gr (q_two a b) 2 (q_st S n) 1 = S 1 := hgr 1 (by omega)
  have z7 : q_gr (q_two a b) 2 (q_st S n) 7 = S 7 := hgr 7 (by omega)
  have hf : ql lQ σ σ := qf.rf
  have ek : qx_mi σ 219 k = nI n := en ▸ (hB.2.2.1 k hk).1
  refine qy_wp_ok (c := CX12_leads) (cuts := [26, 167, 106, 78]) vX12_leads wX12_leads 2000 26 _ _ _ ?_
  refine And.intro rfl (Exists.intro 219 (And.intro rfl ?_))
  refine Exists.intro (k) (Exists.intro (nI n) (And.intro rfl (And.intro ⟨2001, rfl, by omega, by decide⟩ (And.intro ek ?_))))
  refine And.intro rfl (Exists.intro _ (And.intro (by decide) (qx_M_mono (m_stands hX.1 h10 (x1.trans g.2.1.1) hn) ?_)))
  rintro _ σ1 ⟨rfl, fσ1, gσ1⟩
  have hf_σ1 : ql lQ σ σ1 := hf.tr (fσ1.mn (by decide))
  have hB_σ1 : mS σ1 B := hB.fr2 fσ1 rfl (fun _ => rfl) (fun _ => rfl) (fun _ => rfl) (fun _ => rfl) (fun _ => rfl) (fun _ => rfl)
  have hX_σ1 : mX σ1 (q_st S n) rf none := hX.at fσ1 (gσ1.trans (hs.pl _)) (y1.trans x1.symm) (y7.trans x7.symm)
  refine And.intro rfl (Exists.intro _ (And.intro (by decide) (qx_M_mono (m_canS hX_σ1 g hv ha hb) ?_)))
  rintro _ σ2 ⟨rfl, fσ2, gσ2⟩
  have hf_σ2 : ql lQ σ σ2 := hf_σ1.tr (fσ2.mn (by decide))
  have hB_σ2 : mS σ2 B := hB_σ1.fr2 fσ2 rfl (fun _ => rfl) (fun _ => rfl) (fun _ => rfl) (fun _ => rfl) (fun _ => rfl) (fun _ => rfl)
  have hX_σ2 : mX σ2 _ rf none := hX_σ1.fr fσ2 rfl
  refine And.intro (fun h42 => ?_) (fun h42 => ?_)
  · skip
    have h42 := bI_t h42
    refine And.intro rfl (Exists.intro _ (And.intro (by decide) (qx_M_mono (m_goRound (rg := q_two a b) hX_σ2.1 (by decide) (by decide) (fun k _ => q_two_lt (by omega) (by omega) k) gσ2) ?_)))
    rintro _ σ3 ⟨rfl, fσ3, gσ3⟩
    have hf_σ3 : ql lQ σ σ3 := hf_σ2.tr (fσ3.mn (by decide))
    have hB_σ3 : mS σ3 B := hB_σ2.fr2 fσ3 rfl (fun _ => rfl) (fun _ => rfl) (fun _ => rfl) (fun _ => rfl) (fun _ => rfl) (fun _ => rfl)
    have hX_σ3 : mX σ3 (q_gr (q_two a b) 2 (q_st S n)) rf none := hX_σ2.at fσ3 gσ3 (z1.trans y1.symm) (z7.trans y7.symm)
    refine And.intro rfl (Exists.intro _ (And.intro (by decide) (qx_M_mono (m_whereS g hv ha hb hab gσ3) ?_)))
    rintro _ _ ⟨rfl, rfl⟩
    refine And.intro rfl (Exists.intro 224 (And.intro rfl ?_))
    refine And.intro rfl (Exists.intro _ (And.intro (by decide) (qx_M_mono (m_slotS hB_σ3 hw) ?_)))
    rintro _ σ4 ⟨j, hj, rfl, ⟨v, vle, ev, v1, v2⟩, fσ4⟩
    have hf_σ4 : ql lQ σ σ4 := hf_σ3.tr (fσ4.mn (by decide))
    have hB_σ4 : mS σ4 B := hB_σ3.fr2 fσ4 rfl (fun _ => rfl) (fun _ => rfl) (fun _ => rfl) (fun _ => rfl) (fun _ => rfl) (fun _ => rfl)
    have hX_σ4 : mX σ4 _ rf none := hX_σ3.fr fσ4 rfl
    refine Exists.intro (j) (Exists.intro (nI v) (And.intro rfl (And.intro ⟨4096, rfl, by omega, by decide⟩ (And.intro ev ?_))))
    refine Exists.intro (nI 1) (And.intro rfl ?_)
    refine Exists.intro (nI v - nI 1) (And.intro rfl ?_)
    refine And.intro (fun h75 => ?_) (fun h75 => ?_)
    · skip
      refine qx_K_le (ls := [.ref 197, .int (nI k), .int (nI a), .int (nI b), .retAddr 0, .int (nI v - nI 1)]) ⟨Or.inr rfl, Or.inr rfl, Or.inr rfl, Or.inr rfl, Or.inl rfl, Or.inr rfl, trivial⟩ ?_
      have hv0 : 0 < v := by
        rcases Nat.eq_zero_or_pos v with z | z
        · rw [z] at h75; exact absurd h75 (by decide)
        · exact z
      rw [show nI v - nI 1 = nI (v - 1) from nI_sub (by omega)]
      exact hO _ _ hf_σ4 hX_σ4 hB_σ4 h42 (v2 hv0)
    · skip
      refine qx_K_le (ls := [.ref 197, .int (nI k), .int (nI a), .int (nI b), .int (nI (q_sw (s_n S 1) n a b)), .retAddr 0]) ⟨Or.inr rfl, Or.inr rfl, Or.inr rfl, Or.inr rfl, Or.inr rfl, Or.inl rfl, trivial⟩ ?_
      have hv0 : v = 0 := by
        rcases Nat.eq_zero_or_pos v with z | z
        · exact z
        · rw [show nI v - nI 1 = nI (v - 1) from nI_sub (by omega)] at h75; exact absurd (nI_pos' (by omega)) h75
      exact hC _ hf_σ4 hX_σ4 hB_σ4 h42 (v1 hv0)
  · skip
    have h42 := bI_f h42
    exact hA _ _ hf_σ2 hX_σ2 (sP.st n) hB_σ2 h42
theorem l_ldC {G : qx_G} {Φ : qx_F} {B : q_B} {σ : qx_S} {k a b n : Nat} (hB : mS σ B) (h0 : 0 < B.1) (hle : B.1 ≤ 2000) (hk : k < B.1) (hn : n < 1073741824) (hq : q_fi B n = none) (hful : B.1 = 2000 → Φ (some (.int (nI 0))) σ) (hno : ∀ s, B.1 ≠ 2000 → ql lS σ s → mS s (q_ap B (n, k, 0, 0, q_lv B k + 1, 0)) → qx_K G qc_T 7 RX12 YX12_leads 106 [.ref 197, .int (nI k), .int (nI a), .int (nI b), .retAddr 0, .int (nI B.1)] [] s Φ) :
    qx_K G qc_T 7 RX12 YX12_leads 78 [.ref 197, .int (nI k), .int (nI a), .int (nI b), .int (nI n), .retAddr 0] [] σ Φ := by
  refine qy_wp_ok (c := CX12_leads) (cuts := [78, 106]) vX12_leads wX12_leads 2000 78 _ _ _ ?_
  refine And.intro rfl (Exists.intro 45 (Exists.intro (nI B.1) (And.intro rfl (And.intro hB.2.1 ?_))))
  refine Exists.intro (nI 2000) (And.intro rfl ?_)
  refine And.intro (fun h85 => ?_) (fun h85 => ?_)
  · skip
    have h85 := nI_neT (a := B.1) (b := 2000) (by omega) (by decide) h85
    refine Exists.intro (nI 0) (And.intro rfl ?_)
    refine And.intro rfl (Exists.intro _ (And.intro (by decide) (qx_M_mono (m_comesB (a := 0) (b := 0) hB h0 hle hn hk (by decide) (by decide) hq) ?_)))
    rintro _ σ1 ⟨rfl, fσ1, aσ1⟩
    refine And.intro rfl (Exists.intro 45 (Exists.intro (nI (B.1 + 1)) (And.intro rfl (And.intro aσ1.2.1 ?_))))
    refine Exists.intro (nI 1) (And.intro rfl ?_)
    refine Exists.intro (nI B.1) (And.intro (nI_sub (by omega)) ?_)
    refine qx_K_le (ls := [.ref 197, .int (nI k), .int (nI a), .int (nI b), .retAddr 0, .int (nI B.1)]) ⟨Or.inr rfl, Or.inr rfl, Or.inr rfl, Or.inr rfl, Or.inl rfl, Or.inr rfl, trivial⟩ ?_
    exact hno _ h85 fσ1 aσ1
  · skip
    have h85 := nI_eqT (a := B.1) (b := 2000) (by omega) (by decide) h85
    refine Exists.intro (nI 0) (And.intro rfl ?_)
    refine And.intro (Or.inl rfl) ?_
    exact hful h85
def qJ (σ0 : qx_S) (S : qS) (rf : Option qR) (B : q_B) (σ : qx_S) : Prop := qI σ0 S rf B σ ∧ B.1 ≤ 2000 ∧ ∀ i, i < B.1 → q_wy B i ≤ 2
theorem qI.wu {σ0 σ s' : qx_S} {S S' : qS} {rf : Option qR} {B : q_B} {k t : Nat} (hf : ql lQ σ0 σ) (hX : mX σ S' rf none) (hs : sP S S') (f : ql [(223, none)] σ s') (hB : mS s' (q_wu B k t)) (h0 : 0 < B.1) (hv : ∀ i, i < B.1 → q_vd S (q_co B i)) : qI σ0 S rf (q_wu B k t) s' := by
  refine ⟨hf.tr (f.mn (by decide)), ⟨S', hX.fr f rfl, hs⟩, hB, by rw [q_wu_1]; exact h0, fun i hi => ?_⟩
  rw [q_wu_1] at hi
  rw [q_wu_co]
  exact hv i hi
theorem q_ap_w2 {B : q_B} {n k a b l w : Nat} (hw : ∀ i, i < B.1 → q_wy B i ≤ 2) (h : w ≤ 2) : ∀ i, i < (q_ap B (n, k, a, b, l, w)).1 → q_wy (q_ap B (n, k, a, b, l, w)) i ≤ 2 := by
  intro i hi
  have hi' : i < B.1 + 1 := hi
  show ((q_ap B (n, k, a, b, l, w)).2 i).2.2.2.2.2 ≤ 2
  rcases Nat.lt_or_ge i B.1 with z | z
  · rw [q_ap_old z]; exact hw i z
  · obtain rfl : i = B.1 := by omega
    rw [q_ap_new]
    exact h
theorem l_ld {G : qx_G} {Φ : qx_F} {σ0 : qx_S} {S : qS} {rf : Option qR} (g : gS S) {k a b : Nat} {B : q_B} {σ : qx_S} (hJ : qJ σ0 S rf B σ) (hk : k < B.1) (hab : a < b) (hb : b < s_n S 1)
    (hno : ∀ s B', q_ld S rf k a b B = (B', none) → qJ σ0 S rf B' s → k < B'.1 → qx_K G qc_T 7 RX12 YX12_leads 167 [.ref 197, .int (nI k), .int (nI a), .int (nI b), .retAddr 0, .retAddr 0] [] s Φ)
    (hre : ∀ s B' r, q_ld S rf k a b B = (B', some r) → qJ σ0 S rf B' s → Φ (some (.int (nI 0))) s) :
    qx_K G qc_T 7 RX12 YX12_leads 26 [.ref 197, .int (nI k), .int (nI a), .int (nI b), .retAddr 0, .retAddr 0] [] σ Φ := by
  obtain ⟨⟨hf, ⟨S', hX, hs⟩, hB, h0, hv⟩, hle, hw2⟩ := hJ
  have h10 := g.2.1.2
  have ha : a < s_n S 1 := by omega
  have hvk := hv k hk
  have hw := q_sw_vd g hvk ha hb
  have hgr : sP S (q_gr (q_two a b) 2 (q_st S (q_co B k))) := (sP.st _).gr ha hb
  refine l_ldA g hX hs hB hk rfl hvk ha hb (by omega) ?_ ?_ ?_
  · intro s S'' f x y z w
    exact hno s B (q_ld_no w) ⟨⟨hf.tr f, ⟨S'', x, y⟩, z, h0, hv⟩, hle, hw2⟩ hk
  · intro s t f x z hc hfi
    refine l_ldD z hw2 hk (q_fi_some hfi).1 (fun s' f' z' => ?_)
    refine hno s' _ (q_ld_old hc hfi) ⟨qI.wu (hf.tr f) x hgr f' z' h0 hv, by rw [q_wu_1]; exact hle, q_wu_w2 hw2⟩ (by rw [q_wu_1]; exact hk)
  · intro s f x z hc hfi
    refine l_ldC z h0 hle hk hw.1 hfi ?_ ?_
    · intro y
      exact hre s B _ (q_ld_full hc hfi y) ⟨⟨hf.tr f, ⟨_, x, hgr⟩, z, h0, hv⟩, hle, hw2⟩
    · intro s2 y f2 z2
      have J := qI.ap (hf.tr f) x hgr f2 z2 hv hw
      obtain ⟨jf, ⟨S2, jX, js⟩, -, j0, jv⟩ := J
      have w2 := q_ap_w2 (n := q_sw (s_n S 1) (q_co B k) a b) (k := k) (a := 0) (b := 0) (l := q_lv B k + 1) hw2 (w := 0) (by decide)
      refine l_ldD z2 w2 (Nat.lt_succ_of_lt hk) (Nat.lt_succ_self _) (fun s' f' z' => ?_)
      refine hno s' _ (q_ld_new hc hfi y) ⟨qI.wu jf jX js f' z' j0 jv, by rw [q_wu_1]; show B.1 + 1 ≤ 2000; omega, q_wu_w2 w2⟩ (by rw [q_wu_1]; exact Nat.lt_succ_of_lt hk)
def q_lb1 (S : qS) (rf : Option qR) (k a : Nat) (B : q_B) : q_B × Option Int32 := q_lp (q_ld S rf k a) (s_n S 1 - (a + 1)) (a + 1) B
def q_la (S : qS) (rf : Option qR) (k : Nat) (B : q_B) : q_B × Option Int32 := q_lp (q_lb1 S rf k) (s_n S 1) 0 B
theorem l_lb {G : qx_G} {Φ : qx_F} {σ0 : qx_S} {S : qS} {rf : Option qR} (g : gS S) {k a : Nat} : ∀ (m b : Nat) (B : q_B) (σ : qx_S), m = s_n S 1 - b → b ≤ s_n S 1 → a < b → qJ σ0 S rf B σ → k < B.1 →
    (∀ s B', q_lp (q_ld S rf k a) m b B = (B', none) → qJ σ0 S rf B' s → k < B'.1 → qx_K G qc_T 7 RX12 YX12_leads 173 [.ref 197, .int (nI k), .int (nI a), .retAddr 0, .retAddr 0, .retAddr 0] [] s Φ) →
    (∀ s B' r, q_lp (q_ld S rf k a) m b B = (B', some r) → qJ σ0 S rf B' s → Φ (some (.int (nI 0))) s) →
    qx_K G qc_T 7 RX12 YX12_leads 16 [.ref 197, .int (nI k), .int (nI a), .int (nI b), .retAddr 0, .retAddr 0] [] σ Φ := by
  have h10 := g.2.1.2
  intro m
  induction m with
  | zero =>
    intro b B σ hm hb hab hI hk hno hre
    have ep := hI.1.pe g
    refine qy_wp_ok (c := CX12_leads) (cuts := [16, 26, 173]) vX12_leads wX12_leads 2000 16 _ _ _ ?_
    refine And.intro rfl (Exists.intro 207 (And.intro rfl ?_))
    refine Exists.intro (nI 1) (And.intro rfl ?_)
    refine Exists.intro (1) (Exists.intro (nI (s_n S 1)) (And.intro rfl (And.intro ⟨2788, rfl, by decide, by decide⟩ (And.intro ep ?_))))
    refine And.intro (fun h23 => ?_) (fun h23 => ?_)
    · skip
      have h23 := nI_leT (a := s_n S 1) (b := b) (by omega) (by omega) h23
      refine qx_K_le (ls := [.ref 197, .int (nI k), .int (nI a), .retAddr 0, .retAddr 0, .retAddr 0]) ⟨Or.inr rfl, Or.inr rfl, Or.inr rfl, Or.inl rfl, Or.inr rfl, Or.inr rfl, trivial⟩ ?_
      exact hno _ _ rfl hI hk
    · skip
      have h23 := nI_leF (a := s_n S 1) (b := b) (by omega) (by omega) h23
      exact absurd h23 (by omega)
  | succ m ih =>
    intro b B σ hm hb hab hI hk hno hre
    have ep := hI.1.pe g
    have hlt : b < s_n S 1 := by omega
    have key : qx_K G qc_T 7 RX12 YX12_leads 26 [.ref 197, .int (nI k), .int (nI a), .int (nI b), .retAddr 0, .retAddr 0] [] σ Φ := by
      refine l_ld g hI hk hab hlt ?_ ?_
      · intro s B' he hI' hk'
        rw [q_lp_n he] at hno hre
        have nx := ih (b + 1) B' s (by omega) (by omega) (by omega) hI' hk' hno hre
        refine qy_wp_ok (c := CX12_leads) (cuts := [167, 16]) vX12_leads wX12_leads 2000 167 _ _ _ ?_
        refine Exists.intro (nI (b + 1)) (And.intro (nI_add _ _) ?_)
        exact nx
      · intro s B' r he hI'
        exact hre s B' r (q_lp_r he) hI'
    refine qy_wp_ok (c := CX12_leads) (cuts := [16, 26, 173]) vX12_leads wX12_leads 2000 16 _ _ _ ?_
    refine And.intro rfl (Exists.intro 207 (And.intro rfl ?_))
    refine Exists.intro (nI 1) (And.intro rfl ?_)
    refine Exists.intro (1) (Exists.intro (nI (s_n S 1)) (And.intro rfl (And.intro ⟨2788, rfl, by decide, by decide⟩ (And.intro ep ?_))))
    refine And.intro (fun h23 => ?_) (fun h23 => ?_)
    · skip
      have h23 := nI_leT (a := s_n S 1) (b := b) (by omega) (by omega) h23
      exact absurd h23 (by omega)
    · skip
      have h23 := nI_leF (a := s_n S 1) (b := b) (by omega) (by omega) h23
      exact key
theorem l_la {G : qx_G} {Φ : qx_F} {σ0 : qx_S} {S : qS} {rf : Option qR} (g : gS S) {k : Nat} : ∀ (m a : Nat) (B : q_B) (σ : qx_S), m = s_n S 1 - a → a ≤ s_n S 1 → qJ σ0 S rf B σ → k < B.1 →
    (∀ s B', q_lp (q_lb1 S rf k) m a B = (B', none) → qJ σ0 S rf B' s → Φ (some (.int (nI 1))) s) →
    (∀ s B' r, q_lp (q_lb1 S rf k) m a B = (B', some r) → qJ σ0 S rf B' s → Φ (some (.int (nI 0))) s) →
    qx_K G qc_T 7 RX12 YX12_leads 2 [.ref 197, .int (nI k), .int (nI a), .retAddr 0, .retAddr 0, .retAddr 0] [] σ Φ := by
  have h10 := g.2.1.2
  intro m
  induction m with
  | zero =>
    intro a B σ hm ha hI hk hno hre
    have ep := hI.1.pe g
    refine qy_wp_ok (c := CX12_leads) (cuts := [2, 16]) vX12_leads wX12_leads 2000 2 _ _ _ ?_
    refine And.intro rfl (Exists.intro 207 (And.intro rfl ?_))
    refine Exists.intro (nI 1) (And.intro rfl ?_)
    refine Exists.intro (1) (Exists.intro (nI (s_n S 1)) (And.intro rfl (And.intro ⟨2788, rfl, by decide, by decide⟩ (And.intro ep ?_))))
    refine And.intro (fun h9 => ?_) (fun h9 => ?_)
    · skip
      have h9 := nI_leT (a := s_n S 1) (b := a) (by omega) (by omega) h9
      refine Exists.intro (nI 1) (And.intro rfl ?_)
      refine And.intro (Or.inr rfl) ?_
      exact hno _ _ rfl hI
    · skip
      have h9 := nI_leF (a := s_n S 1) (b := a) (by omega) (by omega) h9
      exact absurd h9 (by omega)
  | succ m ih =>
    intro a B σ hm ha hI hk hno hre
    have ep := hI.1.pe g
    have hlt : a < s_n S 1 := by omega
    have key : qx_K G qc_T 7 RX12 YX12_leads 16 [.ref 197, .int (nI k), .int (nI a), .int (nI (a + 1)), .retAddr 0, .retAddr 0] [] σ Φ := by
      refine l_lb g (s_n S 1 - (a + 1)) (a + 1) B σ rfl (by omega) (by omega) hI hk ?_ ?_
      · intro s B' he hI' hk'
        rw [q_lp_n (f := q_lb1 S rf k) he] at hno hre
        have nx := ih (a + 1) B' s (by omega) (by omega) hI' hk' hno hre
        refine qy_wp_ok (c := CX12_leads) (cuts := [173, 2]) vX12_leads wX12_leads 2000 173 _ _ _ ?_
        refine Exists.intro (nI (a + 1)) (And.intro (nI_add _ _) ?_)
        exact nx
      · intro s B' r he hI'
        exact hre s B' r (q_lp_r (f := q_lb1 S rf k) he) hI'
    refine qy_wp_ok (c := CX12_leads) (cuts := [2, 16]) vX12_leads wX12_leads 2000 2 _ _ _ ?_
    refine And.intro rfl (Exists.intro 207 (And.intro rfl ?_))
    refine Exists.intro (nI 1) (And.intro rfl ?_)
    refine Exists.intro (1) (Exists.intro (nI (s_n S 1)) (And.intro rfl (And.intro ⟨2788, rfl, by decide, by decide⟩ (And.intro ep ?_))))
    refine And.intro (fun h9 => ?_) (fun h9 => ?_)
    · skip
      have h9 := nI_leT (a := s_n S 1) (b := a) (by omega) (by omega) h9
      exact absurd h9 (by omega)
    · skip
      have h9 := nI_leF (a := s_n S 1) (b := a) (by omega) (by omega) h9
      refine Exists.intro (nI 1) (And.intro rfl ?_)
      refine Exists.intro (nI (a + 1)) (And.intro (nI_add _ _) ?_)
      exact key
theorem m_leads {G : qx_G} {σ0 σ : qx_S} {S : qS} {rf : Option qR} (g : gS S) {k : Nat} {B : q_B} (hJ : qJ σ0 S rf B σ) (hk : k < B.1) : qx_M G qc_T 7 YX12_leads [.ref 197, .int (nI k)] σ (fun r s => r = some (.int (bI (q_la S rf k B).2.isNone)) ∧ qJ σ0 S rf (q_la S rf k B).1 s) := by
  refine qx_M_in rfl (Nat.le_of_ble_eq_true rfl) ?_
  refine qy_wp_ok (c := CX12_leads) (cuts := [2]) vX12_leads wX12_leads 2000 0 _ _ _ ?_
  refine Exists.intro (nI 0) (And.intro rfl ?_)
  refine l_la g (s_n S 1) 0 B σ rfl (by omega) hJ hk ?_ ?_
  · intro s B' e J
    have e : q_la S rf k B = (B', none) := e
    rw [e]
    exact ⟨rfl, J⟩
  · intro s B' r e J
    have e : q_la S rf k B = (B', some r) := e
    rw [e]
    exact ⟨rfl, J⟩

