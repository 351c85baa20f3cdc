/-! THE CLASS: who is called, the book, the seed, who was found -/
theorem nI_nm1 {p : Nat} (h : p < 2147483648) : ¬ nI p = -1 := fun z => by
  have k := congrArg Int32.toInt z
  rw [nI_toInt h] at k
  have e : (-1 : Int32).toInt = -1 := by decide
  omega
/-- neither land nor standings -/
theorem cSt.ot {σ s : qx_S} {S S' : qS} (h : cSt σ 15 S) (g : gT S) (d4 : rG s 27 (S' 4) (fun j => S' (148 + j))) (d5 : cTo s 15 S') (d6 : ∀ p, p < s_n S 1 → qx_mi s 30 p = S' (338 + p)) (d8 : qx_mi s 15 8 = S' 5) (d9 : qx_mi s 15 9 = S' 7) (d10 : qx_mi s 15 10 = S' 8) (m : ∀ y j, (y = 15 ∧ j < 8) ∨ (16 ≤ y ∧ y ≤ 26) ∨ (31 ≤ y ∧ y ≤ 130) → qx_mi s y j = qx_mi σ y j) (e : ∀ i, i ≤ 3 ∨ i = 6 ∨ i = 9 ∨ (10 ≤ i ∧ i < 148) ∨ (154 ≤ i ∧ i < 254) ∨ 348 ≤ i → S' i = S i) : cSt s 15 S' := by
  have hpe := g.pe
  have h9 := g.U.1.2
  have n1 := s_n_cg (e 1 (by omega))
  exact cSt.mk (h.1.tr g.1.1 (fun k hk j => m _ _ (by omega)) (fun i hi => e _ (by omega))) (h.2.1.tr hpe n1 (fun y j _ _ => m _ _ (by omega)) (fun i hi => eNw.q (fun i hi => e _ (by omega)) hi)) (cPa.tr h.2.2.1 hpe h9 (m _ _ (by omega)) (fun y j _ _ => m _ _ (by omega)) (fun i hi => e _ (by omega))) d4 d5 (by rw [n1]; exact d6) ((m _ _ (by omega)).trans (h.2.2.2.2.2.2.1.trans (e _ (by omega)).symm)) d8 d9 d10
theorem gT.ot {S S' : qS} (g : gT S) (h3 : iC S') (h4 : iB S') (e : ∀ i, i ≤ 3 ∨ i = 6 ∨ i = 9 ∨ (10 ≤ i ∧ i < 148) ∨ (154 ≤ i ∧ i < 254) ∨ 348 ≤ i → S' i = S i) : gT S' :=
  gT.mk (g.1.cg (fun i hi => e _ (by omega))) (g.2.1.cg (s_n_cg (e 1 (by omega))) (fun k hk => eNw.q (fun i hi => e _ (by omega)) (by omega))) h3 h4 (g.U.cg g.pe (e _ (by omega)) (fun i hi => e _ (by omega)))
theorem gT.c6 {S : qS} (g : gT S) : (S 4).toNatClampNeg ≤ 6 := g.2.2.1.2.1
theorem c_burn {G : qx_G} {σ : qx_S} {S : qS} {rf : Option qR} {e : Nat} (hI : cI σ S rf e) : qx_M G qc_T 0 YX11_burn [.ref 3] σ (fun r s => r = some (.int (S 5)) ∧ ql [(15, some 8)] σ s ∧ cI s (va_up S 5 (nI 0)) rf e) := by
  have ne : ∀ i, ¬ i = 5 → va_up S 5 (nI 0) i = S i := fun i hi => va_up_ne _ _ hi
  have c6 := hI.1.c6
  have g' : gT (va_up S 5 (nI 0)) := hI.1.ot (hI.1.2.2.1.cg (fun i hi => ne _ (by omega))) ⟨rfl, Nat.zero_le _, fun b hb => absurd hb (Nat.not_lt_zero b)⟩ (fun i hi => ne _ (by omega))
  refine qx_M_in rfl (Nat.le_of_ble_eq_true rfl) ?_
  refine qy_wp_ok (c := CX11_burn) (cuts := []) vX11_burn wX11_burn 2000 0 _ _ _ ?_
  refine And.intro rfl (Exists.intro 15 (And.intro rfl ?_))
  refine And.intro rfl (Exists.intro 8 (Exists.intro (S 5) (And.intro rfl (And.intro hI.2.1.2.2.2.2.2.2.2.1 ?_))))
  refine And.intro rfl (Exists.intro 15 (And.intro rfl ?_))
  refine Exists.intro (nI 0) (And.intro rfl ?_)
  obtain ⟨σ1, eσ1⟩ : ∃ zs, zs = (qx_wi σ 15 8 (nI 0)) := ⟨_, rfl⟩
  have fσ1 := qn_wif eσ1
  refine And.intro rfl (Exists.intro 8 (Exists.intro σ1 (And.intro rfl (And.intro eσ1.symm ?_))))
  refine ⟨rfl, fσ1, hI.ax fσ1 rfl g' (hI.2.1.ot hI.1 (hI.2.1.2.2.2.1.tr (ne _ (by omega)) (fun z j _ _ => qn_ne eσ1 (Or.inl (by omega))) (fun j hj => ne _ (by omega))) (fun i hi => absurd hi (Nat.not_lt_zero i)) (fun p hp => (qn_ne eσ1 (Or.inl (by decide))).trans ((hI.2.1.2.2.2.2.2.1 p hp).trans (ne _ (by omega)).symm)) (qn_eq eσ1) ((qn_ne eσ1 (Or.inr (by decide))).trans (hI.2.1.2.2.2.2.2.2.2.2.1.trans (ne _ (by omega)).symm)) ((qn_ne eσ1 (Or.inr (by decide))).trans (hI.2.1.2.2.2.2.2.2.2.2.2.trans (ne _ (by omega)).symm)) (fun y j hy => qn_ne eσ1 (by omega)) (fun i hi => ne _ (by omega))) (fun i hi => ne _ (by omega))⟩
theorem c_seed_no {G : qx_G} {σ : qx_S} {x : Int32} (hx : x < 0) : qx_M G qc_T 0 YX11_seed [.ref 3, .int x] σ (qr (-1) σ) := by
  refine qx_M_in rfl (Nat.le_of_ble_eq_true rfl) ?_
  refine qy_wp_ok (c := CX11_seed) (cuts := []) vX11_seed wX11_seed 2000 0 _ _ _ ?_
  refine And.intro (fun h1 => ?_) (fun h1 => ?_)
  · skip
    exact absurd hx (Int32.not_lt.mpr h1)
  · skip
    refine Exists.intro ((-1)) (And.intro (by decide) ?_)
    exact ⟨rfl, rfl⟩
theorem c_seed_ok {G : qx_G} {σ : qx_S} {S : qS} {rf : Option qR} {e : Nat} (hI : cI σ S rf e) {x : Int32} (hx : ¬ x < 0) : qx_M G qc_T 0 YX11_seed [.ref 3, .int x] σ (fun r s => r = some (.int (S 8)) ∧ ql [(15, some 10)] σ s ∧ cI s (va_up S 8 x) rf e) := by
  have ne : ∀ i, ¬ i = 8 → va_up S 8 x i = S i := fun i hi => va_up_ne _ _ hi
  have c6 := hI.1.c6
  have g' : gT (va_up S 8 x) := hI.1.ot (hI.1.2.2.1.cg (fun i hi => ne _ (by omega))) (hI.1.2.2.2.1.cg (fun i hi => ne _ (by omega))) (fun i hi => ne _ (by omega))
  refine qx_M_in rfl (Nat.le_of_ble_eq_true rfl) ?_
  refine qy_wp_ok (c := CX11_seed) (cuts := []) vX11_seed wX11_seed 2000 0 _ _ _ ?_
  refine And.intro (fun h1 => ?_) (fun h1 => ?_)
  · skip
    refine And.intro rfl (Exists.intro 15 (And.intro rfl ?_))
    refine And.intro rfl (Exists.intro 10 (Exists.intro (S 8) (And.intro rfl (And.intro hI.2.1.2.2.2.2.2.2.2.2.2 ?_))))
    refine And.intro rfl (Exists.intro 15 (And.intro rfl ?_))
    obtain ⟨σ1, eσ1⟩ : ∃ zs, zs = (qx_wi σ 15 10 x) := ⟨_, rfl⟩
    have fσ1 := qn_wif eσ1
    refine And.intro rfl (Exists.intro 10 (Exists.intro σ1 (And.intro rfl (And.intro eσ1.symm ?_))))
    refine ⟨rfl, fσ1, hI.ax fσ1 rfl g' (hI.2.1.ot hI.1 (hI.2.1.2.2.2.1.tr (ne _ (by omega)) (fun z j _ _ => qn_ne eσ1 (Or.inl (by omega))) (fun j hj => ne _ (by omega))) (cTo.tr hI.2.1.2.2.2.2.1 hI.1.2.2.2.1 (fun y j _ _ => qn_ne eσ1 (Or.inl (by omega))) (fun i hi => ne _ (by omega))) (fun p hp => (qn_ne eσ1 (Or.inl (by decide))).trans ((hI.2.1.2.2.2.2.2.1 p hp).trans (ne _ (by omega)).symm)) ((qn_ne eσ1 (Or.inr (by decide))).trans (hI.2.1.2.2.2.2.2.2.2.1.trans (ne _ (by omega)).symm)) ((qn_ne eσ1 (Or.inr (by decide))).trans (hI.2.1.2.2.2.2.2.2.2.2.1.trans (ne _ (by omega)).symm)) (qn_eq eσ1) (fun y j hy => qn_ne eσ1 (by omega)) (fun i hi => ne _ (by omega))) (fun i hi => ne _ (by omega))⟩
  · skip
    exact absurd (Int32.not_lt.mp hx) h1
theorem c_found_no {G : qx_G} {σ : qx_S} {S : qS} {rf : Option qR} {e : Nat} (hI : cI σ S rf e) {x q : Int32} (hb : (q_is x (s_n S 1) && (decide (q = -1) || q_is q (s_n S 0))) = false) : qx_M G qc_T 1 YX11_found [.ref 3, .int x, .int q] σ (qr (nI 0) σ) := by
  refine qx_M_in rfl (Nat.le_of_ble_eq_true rfl) ?_
  refine qy_wp_ok (c := CX11_found) (cuts := []) vX11_found wX11_found 2000 0 _ _ _ ?_
  refine And.intro rfl (Exists.intro _ (And.intro (by decide) (qx_M_mono (c_isPerson hI.2.1.1 hI.1.1.2.1.2.1.1 x) ?_)))
  rintro _ _ ⟨rfl, rfl⟩
  refine And.intro (fun h5 => ?_) (fun h5 => ?_)
  · skip
    have h5 := bI_f h5
    refine Exists.intro (nI 0) (And.intro rfl ?_)
    refine And.intro (Or.inl rfl) ?_
    exact ⟨rfl, rfl⟩
  · skip
    have h5 := bI_t h5
    refine Exists.intro ((-1)) (And.intro (by decide) ?_)
    refine And.intro (fun h10 => ?_) (fun h10 => ?_)
    · skip
      rw [h5, decide_eq_true h10] at hb; cases hb
    · skip
      refine And.intro rfl (Exists.intro _ (And.intro (by decide) (qx_M_mono (c_isPlace hI.2.1.1 hI.1.1.2.1.1.1 q) ?_)))
      rintro _ _ ⟨rfl, rfl⟩
      refine And.intro (fun h18 => ?_) (fun h18 => ?_)
      · skip
        have h18 := bI_t h18
        rw [h5, h18, Bool.or_true] at hb; cases hb
      · skip
        have h18 := bI_f h18
        refine Exists.intro (nI 0) (And.intro rfl ?_)
        refine And.intro (Or.inl rfl) ?_
        exact ⟨rfl, rfl⟩
theorem c_found_ok {G : qx_G} {σ : qx_S} {S : qS} {rf : Option qR} {e : Nat} (hI : cI σ S rf e) {p : Nat} (hp : p < s_n S 1) {q : Int32} (hb : (decide (q = -1) || q_is q (s_n S 0)) = true) : qx_M G qc_T 1 YX11_found [.ref 3, .int (nI p), .int q] σ (fun r s => r = some (.int (nI 1)) ∧ ql [(30, none)] σ s ∧ cI s (va_up S (338 + p) q) rf e) := by
  have ne : ∀ i, ¬ i = 338 + p → va_up S (338 + p) q i = S i := fun i hi => va_up_ne _ _ hi
  have c6 := hI.1.c6
  have hpe := hI.1.pe
  have g' : gT (va_up S (338 + p) q) := hI.1.ot (hI.1.2.2.1.cg (fun i hi => ne _ (by omega))) (hI.1.2.2.2.1.cg (fun i hi => ne _ (by omega))) (fun i hi => ne _ (by omega))
  refine qx_M_in rfl (Nat.le_of_ble_eq_true rfl) ?_
  refine qy_wp_ok (c := CX11_found) (cuts := []) vX11_found wX11_found 2000 0 _ _ _ ?_
  refine And.intro rfl (Exists.intro _ (And.intro (by decide) (qx_M_mono (c_isPerson hI.2.1.1 hI.1.1.2.1.2.1.1 (nI p)) ?_)))
  rintro _ _ ⟨rfl, rfl⟩
  refine And.intro (fun h5 => ?_) (fun h5 => ?_)
  · skip
    have h5 := bI_f h5
    exact absurd (h5.symm.trans (q_is_ok hp (by omega))) (by decide)
  · skip
    have h5 := bI_t h5
    refine Exists.intro ((-1)) (And.intro (by decide) ?_)
    refine And.intro (fun h10 => ?_) (fun h10 => ?_)
    · skip
      refine And.intro rfl (Exists.intro 15 (And.intro rfl ?_))
      refine And.intro rfl (Exists.intro 30 (And.intro rfl ?_))
      obtain ⟨σ1, eσ1⟩ : ∃ zs, zs = (qx_wi σ 30 p q) := ⟨_, rfl⟩
      have fσ1 := qn_wi eσ1
      refine Exists.intro (p) (Exists.intro σ1 (And.intro rfl (And.intro ⟨10, rfl, by omega, by decide⟩ (And.intro eσ1.symm ?_))))
      refine Exists.intro (nI 1) (And.intro rfl ?_)
      refine And.intro (Or.inr rfl) ?_
      refine ⟨rfl, fσ1, hI.ax fσ1 rfl g' (hI.2.1.ot hI.1 (hI.2.1.2.2.2.1.tr (ne _ (by omega)) (fun z j _ _ => qn_ne eσ1 (Or.inl (by omega))) (fun j hj => ne _ (by omega))) (cTo.tr hI.2.1.2.2.2.2.1 hI.1.2.2.2.1 (fun y j _ _ => qn_ne eσ1 (Or.inl (by omega))) (fun i hi => ne _ (by omega))) (fun p' hp' => ?_) ((qn_ne eσ1 (Or.inl (by decide))).trans (hI.2.1.2.2.2.2.2.2.2.1.trans (ne _ (by omega)).symm)) ((qn_ne eσ1 (Or.inl (by decide))).trans (hI.2.1.2.2.2.2.2.2.2.2.1.trans (ne _ (by omega)).symm)) ((qn_ne eσ1 (Or.inl (by decide))).trans (hI.2.1.2.2.2.2.2.2.2.2.2.trans (ne _ (by omega)).symm)) (fun y j hy => qn_ne eσ1 (by omega)) (fun i hi => ne _ (by omega))) (fun i hi => ne _ (by omega))⟩
      by_cases z : p' = p
      · rw [z, va_up_self]; exact qn_eq eσ1
      · rw [ne _ (by omega)]; exact (qn_ne eσ1 (Or.inr z)).trans (hI.2.1.2.2.2.2.2.1 p' hp')
    · skip
      refine And.intro rfl (Exists.intro _ (And.intro (by decide) (qx_M_mono (c_isPlace hI.2.1.1 hI.1.1.2.1.1.1 q) ?_)))
      rintro _ _ ⟨rfl, rfl⟩
      refine And.intro (fun h18 => ?_) (fun h18 => ?_)
      · skip
        have h18 := bI_t h18
        refine And.intro rfl (Exists.intro 15 (And.intro rfl ?_))
        refine And.intro rfl (Exists.intro 30 (And.intro rfl ?_))
        obtain ⟨σ1, eσ1⟩ : ∃ zs, zs = (qx_wi σ 30 p q) := ⟨_, rfl⟩
        have fσ1 := qn_wi eσ1
        refine Exists.intro (p) (Exists.intro σ1 (And.intro rfl (And.intro ⟨10, rfl, by omega, by decide⟩ (And.intro eσ1.symm ?_))))
        refine Exists.intro (nI 1) (And.intro rfl ?_)
        refine And.intro (Or.inr rfl) ?_
        refine ⟨rfl, fσ1, hI.ax fσ1 rfl g' (hI.2.1.ot hI.1 (hI.2.1.2.2.2.1.tr (ne _ (by omega)) (fun z j _ _ => qn_ne eσ1 (Or.inl (by omega))) (fun j hj => ne _ (by omega))) (cTo.tr hI.2.1.2.2.2.2.1 hI.1.2.2.2.1 (fun y j _ _ => qn_ne eσ1 (Or.inl (by omega))) (fun i hi => ne _ (by omega))) (fun p' hp' => ?_) ((qn_ne eσ1 (Or.inl (by decide))).trans (hI.2.1.2.2.2.2.2.2.2.1.trans (ne _ (by omega)).symm)) ((qn_ne eσ1 (Or.inl (by decide))).trans (hI.2.1.2.2.2.2.2.2.2.2.1.trans (ne _ (by omega)).symm)) ((qn_ne eσ1 (Or.inl (by decide))).trans (hI.2.1.2.2.2.2.2.2.2.2.2.trans (ne _ (by omega)).symm)) (fun y j hy => qn_ne eσ1 (by omega)) (fun i hi => ne _ (by omega))) (fun i hi => ne _ (by omega))⟩
        by_cases z : p' = p
        · rw [z, va_up_self]; exact qn_eq eσ1
        · rw [ne _ (by omega)]; exact (qn_ne eσ1 (Or.inr z)).trans (hI.2.1.2.2.2.2.2.1 p' hp')
      · skip
        have h18 := bI_f h18
        rw [decide_eq_false h10, h18] at hb; cases hb
/-- rings: is one in it; one more -/
theorem l_has {G : qx_G} {σ : qx_S} {y n : Nat} {f : Nat → Int32} {x : Int32} (hs : shG σ y) (h1 : qx_mi σ y 1 = nI n) (hn : n ≤ 6) (hf : ∀ j, j < n → qx_mi σ (y + 1) j = f j) : ∀ (m k : Nat), m + k = n → qx_K G qc_T 0 RX4 YX4_has 2 [.ref y, .int x, .int (nI k)] [] σ (qr (bI (q_ex (fun k => decide (f k = x)) m k)) σ) := by
  intro m
  induction m with
  | zero =>
    intro k hk
    obtain rfl : k = n := by omega
    refine qy_wp_ok (c := CX4_has) (cuts := [2]) vX4_has wX4_has 2000 2 _ _ _ ?_
    refine And.intro (by rw [show qx_sh qc_T _ y = _ from hs.1]; rfl) (Exists.intro 1 (Exists.intro (nI k) (And.intro rfl (And.intro h1 ?_))))
    refine And.intro (fun h7 => ?_) (fun h7 => ?_)
    · skip
      have h7 := nI_leT (a := k) (b := k) (by omega) (by omega) h7
      refine Exists.intro (nI 0) (And.intro rfl ?_)
      refine And.intro (Or.inl rfl) ?_
      exact ⟨rfl, rfl⟩
    · skip
      have h7 := nI_leF (a := k) (b := k) (by omega) (by omega) h7
      exact absurd h7 (by omega)
  | succ m ih =>
    intro k hk
    refine qy_wp_ok (c := CX4_has) (cuts := [2]) vX4_has wX4_has 2000 2 _ _ _ ?_
    refine And.intro (by rw [show qx_sh qc_T _ y = _ from hs.1]; rfl) (Exists.intro 1 (Exists.intro (nI n) (And.intro rfl (And.intro h1 ?_))))
    refine And.intro (fun h7 => ?_) (fun h7 => ?_)
    · skip
      have h7 := nI_leT (a := n) (b := k) (by omega) (by omega) h7
      exact absurd h7 (by omega)
    · skip
      have h7 := nI_leF (a := n) (b := k) (by omega) (by omega) h7
      refine And.intro (by rw [show qx_sh qc_T _ y = _ from hs.1]; rfl) (Exists.intro (y + 1) (And.intro rfl ?_))
      refine Exists.intro (k) (Exists.intro (f k) (And.intro rfl (And.intro ⟨6, hs.2, by omega, by decide⟩ (And.intro (hf k (by omega)) ?_))))
      refine And.intro (fun h17 => ?_) (fun h17 => ?_)
      · skip
        refine Exists.intro (nI (k + 1)) (And.intro (nI_add _ _) ?_)
        rw [q_ex_f (f := fun k => decide (f k = x)) (decide_eq_false h17)]
        exact ih (k + 1) (by omega)
      · skip
        refine Exists.intro (nI 1) (And.intro rfl ?_)
        refine And.intro (Or.inr rfl) ?_
        exact ⟨by rw [q_ex_t (f := fun k => decide (f k = x)) (decide_eq_true h17)]; rfl, rfl⟩
theorem c_has {G : qx_G} {σ : qx_S} {y n : Nat} {f : Nat → Int32} {x : Int32} (hs : shG σ y) (h1 : qx_mi σ y 1 = nI n) (hn : n ≤ 6) (hf : ∀ j, j < n → qx_mi σ (y + 1) j = f j) : qx_M G qc_T 0 YX4_has [.ref y, .int x] σ (qr (bI (q_ex (fun k => decide (f k = x)) n 0)) σ) := by
  refine qx_M_in rfl (Nat.le_of_ble_eq_true rfl) ?_
  refine qy_wp_ok (c := CX4_has) (cuts := [2]) vX4_has wX4_has 2000 0 _ _ _ ?_
  refine Exists.intro (nI 0) (And.intro rfl ?_)
  exact l_has hs h1 hn hf n 0 (by omega)
theorem c_add {G : qx_G} {σ : qx_S} {y n : Nat} {x : Int32} (hs : shG σ y) (h1 : qx_mi σ y 1 = nI n) (hn : n < 6) : qx_M G qc_T 0 YX4_add [.ref y, .int x] σ (fun r s => r = none ∧ ql [(y, some 1), (y + 1, none)] σ s ∧ qx_mi s y 1 = nI (n + 1) ∧ qx_mi s (y + 1) n = x ∧ ∀ j, j ≠ n → qx_mi s (y + 1) j = qx_mi σ (y + 1) j) := by
  refine qx_M_in rfl (Nat.le_of_ble_eq_true rfl) ?_
  refine qy_wp_ok (c := CX4_add) (cuts := []) vX4_add wX4_add 2000 0 _ _ _ ?_
  refine And.intro (by rw [show qx_sh qc_T _ y = _ from hs.1]; rfl) (Exists.intro 1 (Exists.intro (nI n) (And.intro rfl (And.intro h1 ?_))))
  refine Exists.intro (nI 6) (And.intro rfl ?_)
  refine And.intro (fun h6 => ?_) (fun h6 => ?_)
  · skip
    have h6 := nI_leT (a := 6) (b := n) (by decide) (by omega) h6
    exact absurd h6 (by omega)
  · skip
    have h6 := nI_leF (a := 6) (b := n) (by decide) (by omega) h6
    refine And.intro (by rw [show qx_sh qc_T _ y = _ from hs.1]; rfl) (Exists.intro (y + 1) (And.intro rfl ?_))
    refine And.intro (by rw [show qx_sh qc_T _ y = _ from hs.1]; rfl) (Exists.intro 1 (Exists.intro (nI n) (And.intro rfl (And.intro h1 ?_))))
    obtain ⟨σ1, eσ1⟩ : ∃ zs, zs = (qx_wi σ (y + 1) n x) := ⟨_, rfl⟩
    have fσ1 := qn_wi eσ1
    refine Exists.intro (n) (Exists.intro σ1 (And.intro rfl (And.intro ⟨6, hs.2, by omega, by decide⟩ (And.intro eσ1.symm ?_))))
    refine And.intro (by rw [show qx_sh qc_T _ y = _ from (fσ1.s _).trans (hs.1)]; rfl) (Exists.intro 1 (Exists.intro (nI n) (And.intro rfl (And.intro ((qn_ne eσ1 (Or.inl (by omega))).trans (h1)) ?_))))
    refine Exists.intro (nI 1) (And.intro rfl ?_)
    refine Exists.intro (nI (n + 1)) (And.intro (nI_add _ _) ?_)
    obtain ⟨σ2, eσ2⟩ : ∃ zs, zs = (qx_wi σ1 y 1 (nI (n + 1))) := ⟨_, rfl⟩
    have fσ2 := qn_wif eσ2
    refine And.intro (by rw [show qx_sh qc_T _ y = _ from (fσ1.s _).trans (hs.1)]; rfl) (Exists.intro 1 (Exists.intro σ2 (And.intro rfl (And.intro eσ2.symm ?_))))
    refine ⟨rfl, (qf.cv fσ1 (m := [(y + 1, none)]) (by simp)).mono ?_ |>.tr (fσ2.mono ?_), qn_eq eσ2, (qn_ne eσ2 (Or.inl (by omega))).trans (qn_eq eσ1), fun j hj => (qn_ne eσ2 (Or.inl (by omega))).trans (qn_ne eσ1 (Or.inr hj))⟩
    · intro x' j' hx
      have := (Bool.or_eq_false_iff.mp hx).2
      exact this
    · intro x' j' hx
      have := (Bool.or_eq_false_iff.mp hx).1
      exact Bool.or_eq_false_iff.mpr ⟨this, rfl⟩
theorem cI.cl {σ : qx_S} {S : qS} {rf : Option qR} {e : Nat} (hI : cI σ S rf e) : qx_mi σ 27 1 = nI (s_n S 4) ∧ ∀ j, j < s_n S 4 → qx_mi σ 28 j = S (148 + j) := ⟨hI.2.1.2.2.2.1.1.trans hI.1.2.2.1.1, hI.2.1.2.2.2.1.2⟩
theorem c_call_m1 {G : qx_G} {σ : qx_S} {S : qS} {rf : Option qR} {e : Nat} (hI : cI σ S rf e) : qx_M G qc_T 1 YX11_call [.ref 3, .int (-1)] σ (fun r s => r = some (.int (nI 0)) ∧ ql [(27, some 1)] σ s ∧ cI s (va_up S 4 (nI 0)) rf e) := by
  have ne : ∀ i, ¬ i = 4 → va_up S 4 (nI 0) i = S i := fun i hi => va_up_ne _ _ hi
  have g' : gT (va_up S 4 (nI 0)) := hI.1.ot ⟨rfl, Nat.zero_le _, fun k hk => absurd hk (Nat.not_lt_zero k)⟩ (hI.1.2.2.2.1.cg (fun i hi => ne _ (by omega))) (fun i hi => ne _ (by omega))
  refine qx_M_in rfl (Nat.le_of_ble_eq_true rfl) ?_
  refine qy_wp_ok (c := CX11_call) (cuts := []) vX11_call wX11_call 2000 0 _ _ _ ?_
  refine Exists.intro ((-1)) (And.intro (by decide) ?_)
  refine And.intro (fun h2 => ?_) (fun h2 => ?_)
  · skip
    exact absurd (by decide) h2
  · skip
    refine And.intro rfl (Exists.intro 15 (And.intro rfl ?_))
    refine And.intro rfl (Exists.intro 27 (And.intro rfl ?_))
    refine Exists.intro (nI 0) (And.intro rfl ?_)
    obtain ⟨σ1, eσ1⟩ : ∃ zs, zs = (qx_wi σ 27 1 (nI 0)) := ⟨_, rfl⟩
    have fσ1 := qn_wif eσ1
    refine And.intro rfl (Exists.intro 1 (Exists.intro σ1 (And.intro rfl (And.intro eσ1.symm ?_))))
    refine Exists.intro (nI 0) (And.intro rfl ?_)
    refine ⟨rfl, fσ1, hI.ax fσ1 rfl g' (hI.2.1.ot hI.1 ⟨qn_eq eσ1, fun j hj => absurd hj (Nat.not_lt_zero j)⟩ (cTo.tr hI.2.1.2.2.2.2.1 hI.1.2.2.2.1 (fun y j _ _ => qn_ne eσ1 (Or.inl (by omega))) (fun i hi => ne _ (by omega))) (fun p hp => (qn_ne eσ1 (Or.inl (by decide))).trans ((hI.2.1.2.2.2.2.2.1 p hp).trans (ne _ (by omega)).symm)) ((qn_ne eσ1 (Or.inl (by decide))).trans (hI.2.1.2.2.2.2.2.2.2.1.trans (ne _ (by omega)).symm)) ((qn_ne eσ1 (Or.inl (by decide))).trans (hI.2.1.2.2.2.2.2.2.2.2.1.trans (ne _ (by omega)).symm)) ((qn_ne eσ1 (Or.inl (by decide))).trans (hI.2.1.2.2.2.2.2.2.2.2.2.trans (ne _ (by omega)).symm)) (fun y j hy => qn_ne eσ1 (by omega)) (fun i hi => ne _ (by omega))) (fun i hi => ne _ (by omega))⟩
theorem c_call_no {G : qx_G} {σ : qx_S} {S : qS} {rf : Option qR} {e : Nat} (hI : cI σ S rf e) {x : Int32} (hx : ¬ x = -1) (hb : (q_is x (s_n S 1) && !decide (s_n S 4 = 6)) = false) : qx_M G qc_T 1 YX11_call [.ref 3, .int x] σ (qr (-2) σ) := by
  have c6 := hI.1.2.2.1.2.1
  refine qx_M_in rfl (Nat.le_of_ble_eq_true rfl) ?_
  refine qy_wp_ok (c := CX11_call) (cuts := []) vX11_call wX11_call 2000 0 _ _ _ ?_
  refine Exists.intro ((-1)) (And.intro (by decide) ?_)
  refine And.intro (fun h2 => ?_) (fun h2 => ?_)
  · skip
    refine And.intro rfl (Exists.intro _ (And.intro (by decide) (qx_M_mono (c_isPerson hI.2.1.1 hI.1.1.2.1.2.1.1 x) ?_)))
    rintro _ _ ⟨rfl, rfl⟩
    refine And.intro (fun h23 => ?_) (fun h23 => ?_)
    · skip
      have h23 := bI_f h23
      refine Exists.intro ((-2)) (And.intro (by decide) ?_)
      exact ⟨rfl, rfl⟩
    · skip
      have h23 := bI_t h23
      refine And.intro rfl (Exists.intro 15 (And.intro rfl ?_))
      refine And.intro rfl (Exists.intro 27 (And.intro rfl ?_))
      refine And.intro rfl (Exists.intro _ (And.intro (by decide) (qx_M_mono (c_has (f := fun j => S (148 + j)) ⟨rfl, rfl⟩ hI.cl.1 c6 hI.cl.2) ?_)))
      rintro _ _ ⟨rfl, rfl⟩
      refine And.intro (fun h37 => ?_) (fun h37 => ?_)
      · skip
        have h37 := bI_t h37
        refine Exists.intro ((-2)) (And.intro (by decide) ?_)
        exact ⟨rfl, rfl⟩
      · skip
        have h37 := bI_f h37
        refine And.intro rfl (Exists.intro 15 (And.intro rfl ?_))
        refine And.intro rfl (Exists.intro 27 (And.intro rfl ?_))
        refine And.intro rfl (Exists.intro 1 (Exists.intro (nI (s_n S 4)) (And.intro rfl (And.intro hI.cl.1 ?_))))
        refine Exists.intro (nI 6) (And.intro rfl ?_)
        refine And.intro (fun h52 => ?_) (fun h52 => ?_)
        · skip
          have h52 := nI_ltT (a := s_n S 4) (b := 6) (by omega) (by decide) h52
          rw [h23, decide_eq_false (show ¬ s_n S 4 = 6 by omega)] at hb; cases hb
        · skip
          have h52 := nI_ltF (a := s_n S 4) (b := 6) (by omega) (by decide) h52
          refine Exists.intro ((-2)) (And.intro (by decide) ?_)
          exact ⟨rfl, rfl⟩
  · skip
    exact absurd (show x = -1 from h2) hx
theorem c_call_ok {G : qx_G} {σ : qx_S} {S : qS} {rf : Option qR} {e : Nat} (hI : cI σ S rf e) (hc : s_n S 4 < 6) {p : Nat} (hp : p < s_n S 1) : qx_M G qc_T 1 YX11_call [.ref 3, .int (nI p)] σ (fun r s => if q_cl S (nI p) (s_n S 4) = true then r = some (.int (-2)) ∧ σ = s else r = some (.int (nI (s_n S 4 + 1))) ∧ ql [(27, some 1), (28, none)] σ s ∧ cI s (va_up (va_up S (148 + s_n S 4) (nI p)) 4 (nI (s_n S 4 + 1))) rf e) := by
  have hpe := hI.1.pe
  have ne : ∀ i, ¬ i = 4 → ¬ i = 148 + s_n S 4 → va_up (va_up S (148 + s_n S 4) (nI p)) 4 (nI (s_n S 4 + 1)) i = S i := fun i h1 h2 => (va_up_ne _ _ h1).trans (va_up_ne _ _ h2)
  have n4 : s_n (va_up (va_up S (148 + s_n S 4) (nI p)) 4 (nI (s_n S 4 + 1))) 4 = s_n S 4 + 1 := by
    unfold s_n
    rw [va_up_self]
    exact nI_clamp (by unfold s_n at hc; omega)
  have e4 : va_up (va_up S (148 + s_n S 4) (nI p)) 4 (nI (s_n S 4 + 1)) 4 = nI (s_n S 4 + 1) := va_up_self _ _ _
  have ec : va_up (va_up S (148 + s_n S 4) (nI p)) 4 (nI (s_n S 4 + 1)) (148 + s_n S 4) = nI p := (va_up_ne _ _ (by omega)).trans (va_up_self _ _ _)
  have g' : gT (va_up (va_up S (148 + s_n S 4) (nI p)) 4 (nI (s_n S 4 + 1))) := by
    refine hI.1.ot ⟨by rw [n4]; exact e4, by rw [n4]; omega, ?_⟩ (hI.1.2.2.2.1.cg (fun i hi => ne _ (by omega) (by omega))) (fun i hi => ne _ (by omega) (by omega))
    rw [n4, s_n_cg (ne 1 (by omega) (by omega))]
    intro k hk
    by_cases z : k = s_n S 4
    · rw [z]
      have : s_n (va_up (va_up S (148 + s_n S 4) (nI p)) 4 (nI (s_n S 4 + 1))) (148 + s_n S 4) = p := by
        show (_ : Int32).toNatClampNeg = p
        rw [ec]
        exact nI_clamp (by omega)
      rw [this, ec]
      exact ⟨rfl, hp⟩
    · rw [ne _ (by omega) (by omega), s_n_cg (ne (148 + k) (by omega) (by omega))]
      exact hI.1.2.2.1.2.2 k (by omega)
  refine qx_M_in rfl (Nat.le_of_ble_eq_true rfl) ?_
  refine qy_wp_ok (c := CX11_call) (cuts := []) vX11_call wX11_call 2000 0 _ _ _ ?_
  refine Exists.intro ((-1)) (And.intro (by decide) ?_)
  refine And.intro (fun h2 => ?_) (fun h2 => ?_)
  · skip
    refine And.intro rfl (Exists.intro _ (And.intro (by decide) (qx_M_mono (c_isPerson hI.2.1.1 hI.1.1.2.1.2.1.1 (nI p)) ?_)))
    rintro _ _ ⟨rfl, rfl⟩
    refine And.intro (fun h23 => ?_) (fun h23 => ?_)
    · skip
      have h23 := bI_f h23
      exact absurd (h23.symm.trans (q_is_ok hp (by omega))) (by decide)
    · skip
      have h23 := bI_t h23
      refine And.intro rfl (Exists.intro 15 (And.intro rfl ?_))
      refine And.intro rfl (Exists.intro 27 (And.intro rfl ?_))
      refine And.intro rfl (Exists.intro _ (And.intro (by decide) (qx_M_mono (c_has (f := fun j => S (148 + j)) ⟨rfl, rfl⟩ hI.cl.1 (Nat.le_of_lt hc) hI.cl.2) ?_)))
      rintro _ _ ⟨rfl, rfl⟩
      refine And.intro (fun h37 => ?_) (fun h37 => ?_)
      · skip
        have h37 := bI_t h37
        refine Exists.intro ((-2)) (And.intro (by decide) ?_)
        show (if q_cl S (nI p) (s_n S 4) = true then _ else _)
        rw [if_pos (show q_cl S (nI p) (s_n S 4) = true from h37)]; exact ⟨rfl, rfl⟩
      · skip
        have h37 := bI_f h37
        refine And.intro rfl (Exists.intro 15 (And.intro rfl ?_))
        refine And.intro rfl (Exists.intro 27 (And.intro rfl ?_))
        refine And.intro rfl (Exists.intro 1 (Exists.intro (nI (s_n S 4)) (And.intro rfl (And.intro hI.cl.1 ?_))))
        refine Exists.intro (nI 6) (And.intro rfl ?_)
        refine And.intro (fun h52 => ?_) (fun h52 => ?_)
        · skip
          have h52 := nI_ltT (a := s_n S 4) (b := 6) (by omega) (by decide) h52
          refine And.intro rfl (Exists.intro 15 (And.intro rfl ?_))
          refine And.intro rfl (Exists.intro 27 (And.intro rfl ?_))
          refine And.intro rfl (Exists.intro _ (And.intro (by decide) (qx_M_mono (c_add ⟨rfl, rfl⟩ hI.cl.1 hc) ?_)))
          rintro _ σ1 ⟨rfl, fσ1, aσ1, bσ1, cσ1⟩
          refine And.intro rfl (Exists.intro 15 (And.intro rfl ?_))
          refine And.intro rfl (Exists.intro 27 (And.intro rfl ?_))
          refine And.intro rfl (Exists.intro 1 (Exists.intro (nI (s_n S 4 + 1)) (And.intro rfl (And.intro aσ1 ?_))))
          show (if q_cl S (nI p) (s_n S 4) = true then _ else _)
          rw [if_neg (show ¬ q_cl S (nI p) (s_n S 4) = true from fun z => absurd (z.symm.trans h37) (by decide))]
          have m : ∀ y j, y ≠ 27 → y ≠ 28 → qx_mi σ1 y j = qx_mi σ y j := fun y j h1 h2 => fσ1.i _ _ (pL_ne (by simp; omega))
          have m7 : ∀ j, j ≠ 1 → qx_mi σ1 27 j = qx_mi σ 27 j := fun j h1 => fσ1.i _ _ (pL_ne (by simp; omega))
          refine ⟨rfl, fσ1, hI.ax fσ1 rfl g' (hI.2.1.ot hI.1 ⟨aσ1.trans e4.symm, fun j hj => ?_⟩ (cTo.tr hI.2.1.2.2.2.2.1 hI.1.2.2.2.1 (fun y j _ _ => m _ _ (by omega) (by omega)) (fun i hi => ne _ (by omega) (by omega))) (fun p hp => (m _ _ (by omega) (by omega)).trans ((hI.2.1.2.2.2.2.2.1 p hp).trans (ne _ (by omega) (by omega)).symm)) ((m _ _ (by omega) (by omega)).trans (hI.2.1.2.2.2.2.2.2.2.1.trans (ne _ (by omega) (by omega)).symm)) ((m _ _ (by omega) (by omega)).trans (hI.2.1.2.2.2.2.2.2.2.2.1.trans (ne _ (by omega) (by omega)).symm)) ((m _ _ (by omega) (by omega)).trans (hI.2.1.2.2.2.2.2.2.2.2.2.trans (ne _ (by omega) (by omega)).symm)) (fun y j hy => m _ _ (by omega) (by omega)) (fun i hi => ne _ (by omega) (by omega))) (fun i hi => ne _ (by omega) (by omega))⟩
          have hj : j < s_n (va_up (va_up S (148 + s_n S 4) (nI p)) 4 (nI (s_n S 4 + 1))) 4 := hj
          rw [n4] at hj
          by_cases z : j = s_n S 4
          · rw [z]; exact bσ1.trans ec.symm
          · exact (cσ1 j z).trans ((hI.cl.2 j (by omega)).trans (ne _ (by omega) (by omega)).symm)
        · skip
          have h52 := nI_ltF (a := s_n S 4) (b := 6) (by omega) (by decide) h52
          exact absurd h52 (by omega)
  · skip
    exact absurd h2 (nI_nm1 (by omega))

