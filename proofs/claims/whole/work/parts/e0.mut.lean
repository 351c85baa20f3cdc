/-! THE CLASS: calls that change one thing -/
theorem cI.sti {σ s : qx_S} {S : qS} {rf : Option qR} {e : Nat} {l : List (Nat × Option Nat)} (h : cI σ S rf e) (f : ql l σ s) (h2 : kY l = true) : qx_mi s 156 8 = nI e ∧ inF s (qx_mr s 156 7) := by
  refine ⟨(f.i _ _ (kY.n156 h2 _)).trans h.K.1, ?_⟩
  rw [show qx_mr s 156 7 = qx_mr σ 156 7 from f.r _ _]
  exact h.2.2.2.2.2.1.fr f (kY.n15 h2) (kY.n3 h2)
theorem gL.wish {S : qS} (h : gL S) {p q w : Nat} (hp : p < 10) (hq : q < 8) (hw : w ≤ 99) : gL (va_up S (60 + 8 * p + q) (nI w)) := by
  have e : ∀ i, i < 60 → va_up S (60 + 8 * p + q) (nI w) i = S i := fun i hi => va_up_ne _ _ (by omega)
  have n0 := s_n_cg (e 0 (by omega))
  have n1 := s_n_cg (e 1 (by omega))
  have n2 := s_n_cg (e 2 (by omega))
  have b1 := h.1.2.1.2
  refine ⟨⟨by rw [e 0 (by omega), n0]; exact h.1.1, by rw [e 1 (by omega), n1]; exact h.1.2.1, by rw [e 2 (by omega), n2]; exact h.1.2.2⟩, ⟨by rw [e 0 (by omega), n0]; exact h.2.1.1, by rw [e 1 (by omega), n1]; exact h.2.1.2.1, ?_⟩, ?_⟩
  · rw [n1, n0]
    intro p hp
    rw [e (10 + 5 * p) (by omega), s_n_cg (e (10 + 5 * p) (by omega))]
    exact h.2.1.2.2 p hp
  · rw [n1]
    intro p' hp'
    refine ⟨fun q' hq' => ?_, ?_⟩
    · by_cases z : 60 + 8 * p' + q' = 60 + 8 * p + q
      · rw [z, va_up_self]
        exact ⟨w, hw, rfl⟩
      · rw [va_up_ne _ _ z]
        exact (h.2.2 p' hp').1 q' hq'
    · rw [e _ (by omega)]
      exact (h.2.2 p' hp').2
theorem dR.wish {σ s : qx_S} {S : qS} (h : dR σ 16 S) (g : gD S) {p q : Nat} {w : Int32} (hp : p < s_n S 1) (hq : q < 8) (es : s = qx_wi σ 19 (p * 8 + q) w) : dR s 16 (va_up S (60 + 8 * p + q) w) := by
  obtain ⟨a1, a2, a3, a4, a5, a6, a7, bn, a8, a9, a10⟩ := h
  have b1 := g.2.1.2
  have e : ∀ i, ¬ i = 60 + 8 * p + q → va_up S (60 + 8 * p + q) w i = S i := fun i hi => va_up_ne _ _ hi
  have n1 := s_n_cg (e 1 (by omega))
  have n2 := s_n_cg (e 2 (by omega))
  have m : ∀ y j, y ≠ 19 → qx_mi s y j = qx_mi σ y j := fun y j hy => qn_ne es (Or.inl hy)
  refine ⟨(m _ _ (by decide)).trans (a1.trans (e 0 (by omega)).symm), (m _ _ (by decide)).trans (a2.trans (e 1 (by omega)).symm), (m _ _ (by decide)).trans (a3.trans (e 2 (by omega)).symm), ?_, ?_, ?_, ?_, bn, (m _ _ (by decide)).trans a8, by rw [n1]; exact a9, ?_⟩
  · rw [n1]
    exact fun p hp => ⟨(m _ _ (by decide)).trans ((a4 p hp).1.trans (e _ (by omega)).symm), (m _ _ (by decide)).trans ((a4 p hp).2.trans (e _ (by omega)).symm)⟩
  · rw [n1]
    intro p' hp' q' hq'
    by_cases z : 60 + 8 * p' + q' = 60 + 8 * p + q
    · rw [z, va_up_self, show 8 * p' + q' = p * 8 + q by omega]
      exact qn_eq es
    · rw [va_up_ne _ _ z]
      exact (qn_ne es (Or.inr (by omega))).trans (a5 p' hp' q' hq')
  · rw [n1]
    exact fun k h1 h2 => (qn_ne es (Or.inr (by omega))).trans (a6 k h1 h2)
  · rw [n2]
    exact fun q hq => (m _ _ (by decide)).trans ((a7 q hq).trans (congrArg nI (q_ca_cg8 _ _ g.2.2.2 (fun c hc => e _ (by omega))).symm))
  · rw [n1]
    exact fun p hp => by rw [e _ (by omega)]; exact a10 p hp
/-- all but the land -/
theorem cSt.ld {σ s : qx_S} {S S' : qS} (h : cSt σ 15 S) (g : gT S) (d : dR s 16 S') (m : ∀ y j, y < 16 ∨ 20 < y → qx_mi s y j = qx_mi σ y j) (e : ∀ i, i = 1 ∨ (3 ≤ i ∧ i < 60) ∨ 148 ≤ i → S' i = S i) : cSt s 15 S' := by
  have hpe := g.pe
  have h9 := g.U.1.2
  have n1 := s_n_cg (e 1 (by omega))
  have hB := g.2.2.2.1
  have hC := g.2.2.1.2.1
  have hC : (S 4).toNatClampNeg ≤ 6 := hC
  exact cSt.mk d (h.2.1.tr hpe n1 (fun y j _ _ => m _ _ (by omega)) (fun i hi => eNw.q (fun i hi => e _ (by omega)) hi)) (cPa.tr h.2.2.1 hpe h9 (m _ _ (by omega)) (fun y j _ _ => m _ _ (by omega)) (fun i hi => e _ (by omega))) (h.2.2.2.1.tr (e _ (by omega)) (fun z j _ _ => m _ _ (by omega)) (fun j hj => e _ (by omega))) (cTo.tr h.2.2.2.2.1 hB (fun y j _ _ => m _ _ (by omega)) (fun i hi => e _ (by omega))) (fun p hp => by rw [n1] at hp; exact (m _ _ (by omega)).trans ((h.2.2.2.2.2.1 p hp).trans (e _ (by omega)).symm)) ((m _ _ (by omega)).trans (h.2.2.2.2.2.2.1.trans (e _ (by omega)).symm)) ((m _ _ (by omega)).trans (h.2.2.2.2.2.2.2.1.trans (e _ (by omega)).symm)) ((m _ _ (by omega)).trans (h.2.2.2.2.2.2.2.2.1.trans (e _ (by omega)).symm)) ((m _ _ (by omega)).trans (h.2.2.2.2.2.2.2.2.2.trans (e _ (by omega)).symm))
theorem c_desire_no {G : qx_G} {σ : qx_S} {S : qS} {rf : Option qR} {e : Nat} (hI : cI σ S rf e) {x q w : Int32} (hb : (q_is x (s_n S 1) && q_is q (s_n S 0) && q_in64 w.toInt64 (lN 0) (lN 99)) = false) : qx_M G qc_T 2 YX11_desire [.ref 3, .int x, .int q, .int w] σ (qr (-1) σ) := by
  refine qx_M_in rfl (Nat.le_of_ble_eq_true rfl) ?_
  refine qy_wp_ok (c := CX11_desire) (cuts := []) vX11_desire wX11_desire 2000 0 _ _ _ ?_
  refine And.intro rfl (Exists.intro _ (And.intro (by decide) (qx_M_mono (c_isPerson hI.2.1.1 hI.1.1.2.1.2.1.1 x) ?_)))
  rintro _ _ ⟨rfl, rfl⟩
  refine And.intro (fun h5 => ?_) (fun h5 => ?_)
  · skip
    have h5 := bI_f h5
    refine Exists.intro ((-1)) (And.intro (by decide) ?_)
    exact ⟨rfl, rfl⟩
  · skip
    have h5 := bI_t h5
    refine And.intro rfl (Exists.intro _ (And.intro (by decide) (qx_M_mono (c_isPlace hI.2.1.1 hI.1.1.2.1.1.1 q) ?_)))
    rintro _ _ ⟨rfl, rfl⟩
    refine And.intro (fun h13 => ?_) (fun h13 => ?_)
    · skip
      have h13 := bI_f h13
      refine Exists.intro ((-1)) (And.intro (by decide) ?_)
      exact ⟨rfl, rfl⟩
    · skip
      have h13 := bI_t h13
      refine And.intro (fun h17 => ?_) (fun h17 => ?_)
      · skip
        refine Exists.intro ((-1)) (And.intro (by decide) ?_)
        exact ⟨rfl, rfl⟩
      · skip
        refine Exists.intro (nI 99) (And.intro rfl ?_)
        refine And.intro (fun h23 => ?_) (fun h23 => ?_)
        · skip
          rw [h5, h13, q_in_iff w (by decide) (by decide), decide_eq_true ⟨Int32.not_lt.mp h17, h23⟩] at hb; cases hb
        · skip
          refine Exists.intro ((-1)) (And.intro (by decide) ?_)
          exact ⟨rfl, rfl⟩
theorem c_desire_ok {G : qx_G} {σ : qx_S} {S : qS} {rf : Option qR} {e : Nat} (hI : cI σ S rf e) (he : e + 1 ≤ 1000) {p q w : Nat} (hp : p < s_n S 1) (hq : q < s_n S 0) (hw : w ≤ 99) : qx_M G qc_T 2 YX11_desire [.ref 3, .int (nI p), .int (nI q), .int (nI w)] σ (fun r s => r = some (.int (S (60 + 8 * p + q))) ∧ ql [(19, none), (156, some 8)] σ s ∧ cI s (va_up S (60 + 8 * p + q) (nI w)) rf (e + 1)) := by
  have hpe := hI.1.pe
  have hpl := hI.1.pl
  have ne : ∀ i, ¬ i = 60 + 8 * p + q → va_up S (60 + 8 * p + q) (nI w) i = S i := fun i hi => va_up_ne _ _ hi
  have g' : gT (va_up S (60 + 8 * p + q) (nI w)) := gT.mk (hI.1.1.wish (by omega) (by omega) hw) (hI.1.2.1.cg (s_n_cg (ne 1 (by omega))) (fun k hk => eNw.q (fun i hi => ne _ (by omega)) (by omega))) (hI.1.2.2.1.cg (fun i hi => ne _ (by omega))) (hI.1.2.2.2.1.cg (fun i hi => ne _ (by omega))) (hI.1.U.cg hpe (ne _ (by omega)) (fun i hi => ne _ (by omega)))
  refine qx_M_in rfl (Nat.le_of_ble_eq_true rfl) ?_
  refine qy_wp_ok (c := CX11_desire) (cuts := []) vX11_desire wX11_desire 2000 0 _ _ _ ?_
  refine And.intro rfl (Exists.intro _ (And.intro (by decide) (qx_M_mono (c_isPerson hI.2.1.1 hI.1.1.2.1.2.1.1 (nI p)) ?_)))
  rintro _ _ ⟨rfl, rfl⟩
  refine And.intro (fun h5 => ?_) (fun h5 => ?_)
  · skip
    have h5 := bI_f h5
    exact absurd (h5.symm.trans (q_is_ok hp (by omega))) (by decide)
  · skip
    have h5 := bI_t h5
    refine And.intro rfl (Exists.intro _ (And.intro (by decide) (qx_M_mono (c_isPlace hI.2.1.1 hI.1.1.2.1.1.1 (nI q)) ?_)))
    rintro _ _ ⟨rfl, rfl⟩
    refine And.intro (fun h13 => ?_) (fun h13 => ?_)
    · skip
      have h13 := bI_f h13
      exact absurd (h13.symm.trans (q_is_ok hq (by omega))) (by decide)
    · skip
      have h13 := bI_t h13
      refine And.intro (fun h17 => ?_) (fun h17 => ?_)
      · skip
        have h17 := nI_ltT (a := w) (b := 0) (by omega) (by decide) h17
        exact absurd h17 (by omega)
      · skip
        have h17 := nI_ltF (a := w) (b := 0) (by omega) (by decide) h17
        refine Exists.intro (nI 99) (And.intro rfl ?_)
        refine And.intro (fun h23 => ?_) (fun h23 => ?_)
        · skip
          have h23 := nI_leT (a := w) (b := 99) (by omega) (by decide) h23
          refine Exists.intro (nI 8) (And.intro rfl ?_)
          refine Exists.intro (nI (p * 8)) (And.intro (pk_mul _ _) ?_)
          refine Exists.intro (nI (p * 8 + q)) (And.intro (nI_add _ _) ?_)
          refine And.intro rfl (Exists.intro 15 (And.intro rfl ?_))
          refine And.intro rfl (Exists.intro 16 (And.intro rfl ?_))
          refine And.intro rfl (Exists.intro 19 (And.intro rfl ?_))
          refine Exists.intro (p * 8 + q) (Exists.intro (S (60 + 8 * p + q)) (And.intro rfl (And.intro ⟨80, rfl, by omega, by decide⟩ (And.intro ((congrArg (qx_mi σ 19) (by omega)).trans (hI.2.1.1.2.2.2.2.1 p hp q (by omega))) ?_))))
          refine And.intro rfl (Exists.intro 15 (And.intro rfl ?_))
          refine And.intro rfl (Exists.intro 16 (And.intro rfl ?_))
          refine And.intro rfl (Exists.intro 19 (And.intro rfl ?_))
          obtain ⟨σ1, eσ1⟩ : ∃ zs, zs = (qx_wi σ 19 (p * 8 + q) (nI w)) := ⟨_, rfl⟩
          have fσ1 := qn_wi eσ1
          refine Exists.intro (p * 8 + q) (Exists.intro σ1 (And.intro rfl (And.intro ⟨80, rfl, by omega, by decide⟩ (And.intro eσ1.symm ?_))))
          refine And.intro rfl (Exists.intro _ (And.intro (by decide) (qx_M_mono (c_stirS (hI.sti fσ1 rfl).1 (hI.sti fσ1 rfl).2) ?_)))
          rintro _ σ2 ⟨rfl, fσ2, gσ2⟩
          refine ⟨rfl, (fσ1.mn (by decide)).tr (fσ2.mn (by decide)), hI.up fσ1 rfl gσ2 g' (hI.2.1.ld hI.1 (hI.2.1.1.wish hI.1.1.1 hp (by omega) eσ1) (fun y j hy => qn_ne eσ1 (Or.inl (by omega))) (fun i hi => ne _ (by omega))) he⟩
        · skip
          have h23 := nI_leF (a := w) (b := 99) (by omega) (by decide) h23
          exact absurd h23 (by omega)
/-- debts -/
theorem q_sum_add {f g : Nat → Int32} {q : Nat} {v : Int32} : ∀ n, q < n → (∀ k, k < n → k ≠ q → g k = f k) → g q = f q + v → q_sum g n = q_sum f n + v := by
  intro n
  induction n with
  | zero => intro h; omega
  | succ n ih =>
    intro hq h h2
    show q_sum g n + g n = q_sum f n + f n + v
    by_cases z : q = n
    · rw [← z, h2, q_sum_cg (f := g) (g := f) q (fun k hk => h k (by omega) (by omega)), Int32.add_assoc]
    · rw [ih (by omega) (fun k hk hn => h k (by omega) hn) h2, h n (by omega) (by omega), Int32.add_assoc, Int32.add_assoc, Int32.add_comm v]
theorem c_addDebt {G : qx_G} {σ : qx_S} {a pe p q : Nat} {f : Nat → Int32} {v : Int32} (hs : shS σ a) (h : zR σ a pe f) (hp : p < 10) (hq : q < 10) (hpe : pe ≤ 10) : qx_M G qc_T 0 YX7_addDebt [.ref a, .int (nI p), .int (nI q), .int v] σ (fun r s => r = none ∧ ql [(a + 3, none), (a + 4, none)] σ s ∧ zR s a pe (va_up f (10 + 10 * p + q) (f (10 + 10 * p + q) + v))) := by
  have e1 := (h.2.2.2.1 (p * 10 + q) (by omega)).trans (congrArg f (show 10 + (p * 10 + q) = 10 + 10 * p + q by omega))
  have hsum : q_sum (fun k => va_up f (10 + 10 * p + q) (f (10 + 10 * p + q) + v) (10 + 10 * p + k)) 10 = q_sum (fun k => f (10 + 10 * p + k)) 10 + v := by
    refine q_sum_add (f := fun k => f (10 + 10 * p + k)) (g := fun k => va_up f (10 + 10 * p + q) (f (10 + 10 * p + q) + v) (10 + 10 * p + k)) (q := q) (v := v) 10 hq (fun k _ hk => ?_) ?_
    · exact va_up_ne _ _ (by omega)
    · exact va_up_self _ _ _
  refine qx_M_in rfl (Nat.le_of_ble_eq_true rfl) ?_
  refine qy_wp_ok (c := CX7_addDebt) (cuts := []) vX7_addDebt wX7_addDebt 2000 0 _ _ _ ?_
  refine And.intro (by rw [show qx_sh qc_T _ a = _ from hs.1]; rfl) (Exists.intro (a + 3) (And.intro rfl ?_))
  refine Exists.intro (nI 10) (And.intro rfl ?_)
  refine Exists.intro (nI (p * 10)) (And.intro (pk_mul _ _) ?_)
  refine Exists.intro (nI (p * 10 + q)) (And.intro (nI_add _ _) ?_)
  refine Exists.intro (p * 10 + q) (Exists.intro (f (10 + 10 * p + q)) (And.intro rfl (And.intro ⟨100, hs.2.2.2.1, by omega, by decide⟩ (And.intro e1 ?_))))
  refine Exists.intro ((f (10 + 10 * p + q)) + v) (And.intro rfl ?_)
  obtain ⟨σ1, eσ1⟩ : ∃ zs, zs = (qx_wi σ (a + 3) (p * 10 + q) ((f (10 + 10 * p + q)) + v)) := ⟨_, rfl⟩
  have fσ1 := qn_wi eσ1
  refine Exists.intro (p * 10 + q) (Exists.intro σ1 (And.intro rfl (And.intro ⟨100, hs.2.2.2.1, by omega, by decide⟩ (And.intro eσ1.symm ?_))))
  refine And.intro (by rw [show qx_sh qc_T _ a = _ from (fσ1.s _).trans (hs.1)]; rfl) (Exists.intro (a + 4) (And.intro rfl ?_))
  refine Exists.intro (p) (Exists.intro (q_sum (fun k => f (10 + 10 * p + k)) 10) (And.intro rfl (And.intro ⟨10, (fσ1.s _).trans (hs.2.2.2.2), by omega, by decide⟩ (And.intro ((qn_ne eσ1 (Or.inl (by omega))).trans ((h.2.2.2.2 p hp))) ?_))))
  refine Exists.intro ((q_sum (fun k => f (10 + 10 * p + k)) 10) + v) (And.intro rfl ?_)
  obtain ⟨σ2, eσ2⟩ : ∃ zs, zs = (qx_wi σ1 (a + 4) p ((q_sum (fun k => f (10 + 10 * p + k)) 10) + v)) := ⟨_, rfl⟩
  have fσ2 := qn_wi eσ2
  refine Exists.intro (p) (Exists.intro σ2 (And.intro rfl (And.intro ⟨10, (fσ1.s _).trans (hs.2.2.2.2), by omega, by decide⟩ (And.intro eσ2.symm ?_))))
  have n0 : ∀ y j, y ≠ a + 3 → y ≠ a + 4 → qx_mi σ2 y j = qx_mi σ y j := fun y j h1 h2 => (qn_ne eσ2 (Or.inl h2)).trans (qn_ne eσ1 (Or.inl h1))
  refine ⟨rfl, (qf.cv fσ1 (by simp)).tr (qf.cv fσ2 (by simp)), ?_, ?_, ?_, ?_, ?_⟩
  · rw [va_up_ne _ _ (by omega)]; exact (n0 _ _ (by omega) (by omega)).trans h.1
  · rw [va_up_ne _ _ (by omega)]; exact (n0 _ _ (by omega) (by omega)).trans h.2.1
  · intro p' hp'
    rw [va_up_ne _ _ (by omega), va_up_ne _ _ (by omega)]
    exact ⟨(n0 _ _ (by omega) (by omega)).trans (h.2.2.1 p' hp').1, (n0 _ _ (by omega) (by omega)).trans (h.2.2.1 p' hp').2⟩
  · intro k hk
    by_cases z : k = p * 10 + q
    · rw [z, show 10 + (p * 10 + q) = 10 + 10 * p + q by omega, va_up_self]
      exact (qn_ne eσ2 (Or.inl (by omega))).trans (qn_eq eσ1)
    · rw [va_up_ne _ _ (by omega)]
      exact (qn_ne eσ2 (Or.inl (by omega))).trans ((qn_ne eσ1 (Or.inr z)).trans (h.2.2.2.1 k hk))
  · intro p' hp'
    by_cases z : p' = p
    · rw [z]
      refine (qn_eq eσ2).trans ?_
      exact hsum.symm
    · refine (qn_ne eσ2 (Or.inr z)).trans ((qn_ne eσ1 (Or.inl (by omega))).trans ((h.2.2.2.2 p' hp').trans (q_sum_cg _ (fun k hk => (va_up_ne _ _ (by omega)).symm))))
/-- only the standing of now -/
theorem cSt.nw {σ s : qx_S} {S S' : qS} (h : cSt σ 15 S) (g : gT S) (z : zR s 21 (s_n S 1) (q_nw S')) (m : ∀ y j, y < 21 ∨ 25 < y → qx_mi s y j = qx_mi σ y j) (e : ∀ i, i ≤ 2 ∨ (4 ≤ i ∧ i < 10 ∧ i ≠ 6) ∨ (10 ≤ i ∧ i < 60 ∧ (i - 10) % 5 ≠ 0 ∧ (i - 10) % 5 ≠ 4) ∨ (60 ≤ i ∧ i < 154) ∨ 254 ≤ i → S' i = S i) : cSt s 15 S' := by
  have hpe := g.pe
  have h9 := g.U.1.2
  have n1 := s_n_cg (e 1 (by omega))
  have hB := g.2.2.2.1
  have hC : (S 4).toNatClampNeg ≤ 6 := g.2.2.1.2.1
  exact cSt.mk (h.1.tr g.1.1 (fun k hk j => m _ _ (by omega)) (fun i hi => e _ (by omega))) (by rw [n1]; exact z) (cPa.tr h.2.2.1 hpe h9 (m _ _ (by omega)) (fun y j _ _ => m _ _ (by omega)) (fun i hi => e _ (by omega))) (h.2.2.2.1.tr (e _ (by omega)) (fun z j _ _ => m _ _ (by omega)) (fun j hj => e _ (by omega))) (cTo.tr h.2.2.2.2.1 hB (fun y j _ _ => m _ _ (by omega)) (fun i hi => e _ (by omega))) (fun p hp => by rw [n1] at hp; exact (m _ _ (by omega)).trans ((h.2.2.2.2.2.1 p hp).trans (e _ (by omega)).symm)) ((m _ _ (by omega)).trans (h.2.2.2.2.2.2.1.trans (e _ (by omega)).symm)) ((m _ _ (by omega)).trans (h.2.2.2.2.2.2.2.1.trans (e _ (by omega)).symm)) ((m _ _ (by omega)).trans (h.2.2.2.2.2.2.2.2.1.trans (e _ (by omega)).symm)) ((m _ _ (by omega)).trans (h.2.2.2.2.2.2.2.2.2.trans (e _ (by omega)).symm))
theorem q_nw_owup (S : qS) {p q : Nat} (hp : p < 10) (hq : q < 10) (v : Int32) {i : Nat} (hi : i < 122) : q_nw (va_up S (154 + 10 * p + q) v) i = va_up (q_nw S) (10 + 10 * p + q) v i := by
  by_cases z : i = 10 + 10 * p + q
  · rw [z, va_up_self, show 10 + 10 * p + q = 10 + (10 * p + q) by omega, q_nw_ow _ (by omega), show 154 + (10 * p + q) = 154 + 10 * p + q by omega, va_up_self]
  · rw [va_up_ne _ _ z]
    have ne : ∀ j, ¬ j = 154 + 10 * p + q → va_up S (154 + 10 * p + q) v j = S j := fun j hj => va_up_ne _ _ hj
    unfold q_nw
    split
    · exact ne _ (by omega)
    · split
      · exact ne _ (by omega)
      · split
        · exact ne _ (by omega)
        · split
          · exact ne _ (by omega)
          · exact ne _ (by omega)
theorem c_pay_no {G : qx_G} {σ : qx_S} {S : qS} {rf : Option qR} {e : Nat} (hI : cI σ S rf e) {x y n : Int32} (hb : (q_is x (s_n S 1) && q_is y (s_n S 1) && !decide (x = y)) = false) : qx_M G qc_T 2 YX11_pay [.ref 3, .int x, .int y, .int n] σ (qr (-1) σ) := by
  refine qx_M_in rfl (Nat.le_of_ble_eq_true rfl) ?_
  refine qy_wp_ok (c := CX11_pay) (cuts := []) vX11_pay wX11_pay 2000 0 _ _ _ ?_
  refine And.intro rfl (Exists.intro _ (And.intro (by decide) (qx_M_mono (c_isPerson hI.2.1.1 hI.1.1.2.1.2.1.1 x) ?_)))
  rintro _ _ ⟨rfl, rfl⟩
  refine And.intro (fun h5 => ?_) (fun h5 => ?_)
  · skip
    have h5 := bI_f h5
    refine Exists.intro ((-1)) (And.intro (by decide) ?_)
    exact ⟨rfl, rfl⟩
  · skip
    have h5 := bI_t h5
    refine And.intro rfl (Exists.intro _ (And.intro (by decide) (qx_M_mono (c_isPerson hI.2.1.1 hI.1.1.2.1.2.1.1 y) ?_)))
    rintro _ _ ⟨rfl, rfl⟩
    refine And.intro (fun h13 => ?_) (fun h13 => ?_)
    · skip
      have h13 := bI_f h13
      refine Exists.intro ((-1)) (And.intro (by decide) ?_)
      exact ⟨rfl, rfl⟩
    · skip
      have h13 := bI_t h13
      refine And.intro (fun h18 => ?_) (fun h18 => ?_)
      · skip
        rw [h5, h13, decide_eq_false h18] at hb; cases hb
      · skip
        refine Exists.intro ((-1)) (And.intro (by decide) ?_)
        exact ⟨rfl, rfl⟩
theorem c_pay_no2 {G : qx_G} {σ : qx_S} {S : qS} {rf : Option qR} {e : Nat} (hI : cI σ S rf e) {p q : Nat} (hp : p < s_n S 1) (hq : q < s_n S 1) (hne : p ≠ q) {n : Int32} (hn : n < nI 1 ∨ S (154 + 10 * p + q) < n) : qx_M G qc_T 2 YX11_pay [.ref 3, .int (nI p), .int (nI q), .int n] σ (qr (-1) σ) := by
  have hpe := hI.1.pe
  refine qx_M_in rfl (Nat.le_of_ble_eq_true rfl) ?_
  refine qy_wp_ok (c := CX11_pay) (cuts := []) vX11_pay wX11_pay 2000 0 _ _ _ ?_
  refine And.intro rfl (Exists.intro _ (And.intro (by decide) (qx_M_mono (c_isPerson hI.2.1.1 hI.1.1.2.1.2.1.1 (nI p)) ?_)))
  rintro _ _ ⟨rfl, rfl⟩
  refine And.intro (fun h5 => ?_) (fun h5 => ?_)
  · skip
    have h5 := bI_f h5
    exact absurd (h5.symm.trans (q_is_ok (by omega) (by omega))) (by decide)
  · skip
    have h5 := bI_t h5
    refine And.intro rfl (Exists.intro _ (And.intro (by decide) (qx_M_mono (c_isPerson hI.2.1.1 hI.1.1.2.1.2.1.1 (nI q)) ?_)))
    rintro _ _ ⟨rfl, rfl⟩
    refine And.intro (fun h13 => ?_) (fun h13 => ?_)
    · skip
      have h13 := bI_f h13
      exact absurd (h13.symm.trans (q_is_ok (by omega) (by omega))) (by decide)
    · skip
      have h13 := bI_t h13
      refine And.intro (fun h18 => ?_) (fun h18 => ?_)
      · skip
        have h18 := nI_neT (a := p) (b := q) (by omega) (by omega) h18
        refine Exists.intro (nI 10) (And.intro rfl ?_)
        refine Exists.intro (nI (p * 10)) (And.intro (pk_mul _ _) ?_)
        refine Exists.intro (nI (p * 10 + q)) (And.intro (nI_add _ _) ?_)
        refine Exists.intro (nI 1) (And.intro rfl ?_)
        refine And.intro (fun h33 => ?_) (fun h33 => ?_)
        · skip
          refine Exists.intro ((-1)) (And.intro (by decide) ?_)
          exact ⟨rfl, rfl⟩
        · skip
          refine And.intro rfl (Exists.intro 15 (And.intro rfl ?_))
          refine And.intro rfl (Exists.intro 21 (And.intro rfl ?_))
          refine And.intro rfl (Exists.intro 24 (And.intro rfl ?_))
          refine Exists.intro (p * 10 + q) (Exists.intro (S (154 + 10 * p + q)) (And.intro rfl (And.intro ⟨100, rfl, by omega, by decide⟩ (And.intro (hI.ow (by omega) (by omega)) ?_))))
          refine And.intro (fun h50 => ?_) (fun h50 => ?_)
          · skip
            rcases hn with y | y; exact absurd y h33; exact absurd y (Int32.not_lt.mpr h50)
          · skip
            refine Exists.intro ((-1)) (And.intro (by decide) ?_)
            exact ⟨rfl, rfl⟩
      · skip
        have h18 := nI_eqT (a := p) (b := q) (by omega) (by omega) h18
        exact absurd h18 hne
theorem c_pay_ok {G : qx_G} {σ : qx_S} {S : qS} {rf : Option qR} {e : Nat} (hI : cI σ S rf e) (he : e + 1 ≤ 1000) {p q : Nat} (hp : p < s_n S 1) (hq : q < s_n S 1) (hne : p ≠ q) {n : Int32} (hn : ¬ (n < nI 1 ∨ S (154 + 10 * p + q) < n)) : qx_M G qc_T 2 YX11_pay [.ref 3, .int (nI p), .int (nI q), .int n] σ (fun r s => r = some (.int (S (154 + 10 * p + q) - n)) ∧ ql [(24, none), (25, none), (156, some 8)] σ s ∧ cI s (va_up S (154 + 10 * p + q) (S (154 + 10 * p + q) - n)) rf (e + 1)) := by
  have hpe := hI.1.pe
  have eq0 : q_nw S (10 + 10 * p + q) = S (154 + 10 * p + q) := by
    rw [show 10 + 10 * p + q = 10 + (10 * p + q) by omega, q_nw_ow _ (by omega), show 154 + (10 * p + q) = 154 + 10 * p + q by omega]
  have ne : ∀ i, ¬ i = 154 + 10 * p + q → va_up S (154 + 10 * p + q) (S (154 + 10 * p + q) - n) i = S i := fun i hi => va_up_ne _ _ hi
  have g' : gT (va_up S (154 + 10 * p + q) (S (154 + 10 * p + q) - n)) := by
    refine gT.mk (hI.1.1.cg (fun i hi => ne _ (by omega))) ?_ (hI.1.2.2.1.cg (fun i hi => ne _ (by omega))) (hI.1.2.2.2.1.cg (fun i hi => ne _ (by omega))) (hI.1.U.cg hpe (ne _ (by omega)) (fun i hi => ne _ (by omega)))
    rw [s_n_cg (ne 1 (by omega))]
    intro p' k' hp' hk' hz
    rw [q_nw_owup S (by omega) (by omega) _ (by omega), va_up_ne _ _ (by omega)]
    exact hI.1.2.1 p' k' hp' hk' hz
  have zz : ∀ s, zR s 21 (s_n S 1) (va_up (q_nw S) (10 + 10 * p + q) (q_nw S (10 + 10 * p + q) + -n)) → zR s 21 (s_n S 1) (q_nw (va_up S (154 + 10 * p + q) (S (154 + 10 * p + q) - n))) := fun s h => h.cg hpe (fun i hi => by rw [q_nw_owup S (by omega) (by omega) _ hi, eq0, Int32.sub_eq_add_neg])
  have vv : ∀ s, zR s 21 (s_n S 1) (va_up (q_nw S) (10 + 10 * p + q) (q_nw S (10 + 10 * p + q) + -n)) → qx_mi s 24 (p * 10 + q) = S (154 + 10 * p + q) - n := fun s h => by
    refine (h.2.2.2.1 (p * 10 + q) (by omega)).trans ?_
    rw [show 10 + (p * 10 + q) = 10 + 10 * p + q by omega, va_up_self, eq0, Int32.sub_eq_add_neg]
  refine qx_M_in rfl (Nat.le_of_ble_eq_true rfl) ?_
  refine qy_wp_ok (c := CX11_pay) (cuts := []) vX11_pay wX11_pay 2000 0 _ _ _ ?_
  refine And.intro rfl (Exists.intro _ (And.intro (by decide) (qx_M_mono (c_isPerson hI.2.1.1 hI.1.1.2.1.2.1.1 (nI p)) ?_)))
  rintro _ _ ⟨rfl, rfl⟩
  refine And.intro (fun h5 => ?_) (fun h5 => ?_)
  · skip
    have h5 := bI_f h5
    exact absurd (h5.symm.trans (q_is_ok (by omega) (by omega))) (by decide)
  · skip
    have h5 := bI_t h5
    refine And.intro rfl (Exists.intro _ (And.intro (by decide) (qx_M_mono (c_isPerson hI.2.1.1 hI.1.1.2.1.2.1.1 (nI q)) ?_)))
    rintro _ _ ⟨rfl, rfl⟩
    refine And.intro (fun h13 => ?_) (fun h13 => ?_)
    · skip
      have h13 := bI_f h13
      exact absurd (h13.symm.trans (q_is_ok (by omega) (by omega))) (by decide)
    · skip
      have h13 := bI_t h13
      refine And.intro (fun h18 => ?_) (fun h18 => ?_)
      · skip
        have h18 := nI_neT (a := p) (b := q) (by omega) (by omega) h18
        refine Exists.intro (nI 10) (And.intro rfl ?_)
        refine Exists.intro (nI (p * 10)) (And.intro (pk_mul _ _) ?_)
        refine Exists.intro (nI (p * 10 + q)) (And.intro (nI_add _ _) ?_)
        refine Exists.intro (nI 1) (And.intro rfl ?_)
        refine And.intro (fun h33 => ?_) (fun h33 => ?_)
        · skip
          exact absurd (Or.inl h33) hn
        · skip
          refine And.intro rfl (Exists.intro 15 (And.intro rfl ?_))
          refine And.intro rfl (Exists.intro 21 (And.intro rfl ?_))
          refine And.intro rfl (Exists.intro 24 (And.intro rfl ?_))
          refine Exists.intro (p * 10 + q) (Exists.intro (S (154 + 10 * p + q)) (And.intro rfl (And.intro ⟨100, rfl, by omega, by decide⟩ (And.intro (hI.ow (by omega) (by omega)) ?_))))
          refine And.intro (fun h50 => ?_) (fun h50 => ?_)
          · skip
            refine And.intro rfl (Exists.intro 15 (And.intro rfl ?_))
            refine And.intro rfl (Exists.intro 21 (And.intro rfl ?_))
            refine Exists.intro (-n) (And.intro rfl ?_)
            refine And.intro rfl (Exists.intro _ (And.intro (by decide) (qx_M_mono (c_addDebt ⟨rfl, rfl, rfl, rfl, rfl⟩ hI.2.1.2.1 (by omega) (by omega) hpe) ?_)))
            rintro _ σ1 ⟨rfl, fσ1, gσ1⟩
            refine And.intro rfl (Exists.intro _ (And.intro (by decide) (qx_M_mono (c_stirS (hI.sti fσ1 rfl).1 (hI.sti fσ1 rfl).2) ?_)))
            rintro _ σ2 ⟨rfl, fσ2, gσ2⟩
            refine And.intro rfl (Exists.intro 15 (And.intro rfl ?_))
            refine And.intro rfl (Exists.intro 21 (And.intro rfl ?_))
            refine And.intro rfl (Exists.intro 24 (And.intro rfl ?_))
            refine Exists.intro (p * 10 + q) (Exists.intro (S (154 + 10 * p + q) - n) (And.intro rfl (And.intro ⟨100, rfl, by omega, by decide⟩ (And.intro ((fσ2.i _ _ rfl).trans ((vv _ gσ1))) ?_))))
            refine ⟨rfl, (fσ1.mn (by decide)).tr (fσ2.mn (by decide)), hI.up fσ1 rfl gσ2 g' (hI.2.1.nw hI.1 (zz _ gσ1) (fun y j hy => fσ1.i _ _ (pL_ne (by simp; omega))) (fun i hi => ne _ (by omega))) he⟩
          · skip
            exact absurd (Or.inr (Int32.not_le.mp h50)) hn
      · skip
        have h18 := nI_eqT (a := p) (b := q) (by omega) (by omega) h18
        exact absurd h18 hne
theorem c_dawn_no {G : qx_G} {σ : qx_S} {S : qS} {rf : Option qR} {e : Nat} (hI : cI σ S rf e) {dy : Nat} (e3 : S 3 = nI dy) (hdy : dy ≤ 9999) (hb : s_n S 0 = 0 ∨ dy = 9999) : qx_M G qc_T 2 YX11_dawn [.ref 3] σ (qr (-1) σ) := by
  refine qx_M_in rfl (Nat.le_of_ble_eq_true rfl) ?_
  refine qy_wp_ok (c := CX11_dawn) (cuts := []) vX11_dawn wX11_dawn 2000 0 _ _ _ ?_
  refine And.intro rfl (Exists.intro _ (And.intro (by decide) (qx_M_mono (c_hasCountry hI.2.1.1 hI.1.1.2.1.1.1 hI.1.1.2.1.1.2) ?_)))
  rintro _ _ ⟨rfl, rfl⟩
  refine And.intro (fun h4 => ?_) (fun h4 => ?_)
  · skip
    have h4 := bI_f h4
    refine Exists.intro ((-1)) (And.intro (by decide) ?_)
    exact ⟨rfl, rfl⟩
  · skip
    have h4 := bI_t h4
    refine And.intro rfl (Exists.intro 15 (And.intro rfl ?_))
    refine And.intro rfl (Exists.intro 21 (And.intro rfl ?_))
    refine And.intro rfl (Exists.intro 4 (Exists.intro (nI dy) (And.intro rfl (And.intro (hI.2.1.2.1.1.trans e3) ?_))))
    refine Exists.intro (nI 9999) (And.intro rfl ?_)
    refine And.intro (fun h20 => ?_) (fun h20 => ?_)
    · skip
      have h20 := nI_ltT (a := dy) (b := 9999) (by omega) (by decide) h20
      have h4 := of_decide_eq_true h4; omega
    · skip
      have h20 := nI_ltF (a := dy) (b := 9999) (by omega) (by decide) h20
      refine Exists.intro ((-1)) (And.intro (by decide) ?_)
      exact ⟨rfl, rfl⟩
theorem c_dawn_ok {G : qx_G} {σ : qx_S} {S : qS} {rf : Option qR} {e : Nat} (hI : cI σ S rf e) (he : e + 1 ≤ 1000) {dy : Nat} (e3 : S 3 = nI dy) (hdy : dy < 9999) (hb : 0 < s_n S 0) : qx_M G qc_T 2 YX11_dawn [.ref 3] σ (fun r s => r = some (.int (nI (dy + 1))) ∧ ql [(21, some 4), (156, some 8)] σ s ∧ cI s (va_up S 3 (nI (dy + 1))) rf (e + 1)) := by
  have hpe := hI.1.pe
  have ne : ∀ i, ¬ i = 3 → va_up S 3 (nI (dy + 1)) i = S i := fun i hi => va_up_ne _ _ hi
  have qn : ∀ i, i < 122 → ¬ i = 120 → q_nw (va_up S 3 (nI (dy + 1))) i = q_nw S i := by
    intro i hi h1
    unfold q_nw
    split
    · exact ne _ (by omega)
    · split
      · exact ne _ (by omega)
      · split
        · exact ne _ (by omega)
        · split
          · omega
          · exact ne _ (by omega)
  have g' : gT (va_up S 3 (nI (dy + 1))) := gT.mk (hI.1.1.cg (fun i hi => ne _ (by omega))) (hI.1.2.1.cg (s_n_cg (ne 1 (by omega))) (fun k hk => qn _ (by omega) (by omega))) (hI.1.2.2.1.cg (fun i hi => ne _ (by omega))) (hI.1.2.2.2.1.cg (fun i hi => ne _ (by omega))) (hI.1.U.cg hpe (ne _ (by omega)) (fun i hi => ne _ (by omega)))
  have zz : ∀ s, s = qx_wi σ 21 4 (nI (dy + 1)) → zR s 21 (s_n S 1) (q_nw (va_up S 3 (nI (dy + 1)))) := by
    intro s es
    have z := hI.2.1.2.1
    have m : ∀ y j, ¬ (y = 21 ∧ j = 4) → qx_mi s y j = qx_mi σ y j := fun y j hy => qn_ne es (by omega)
    refine ⟨(qn_eq es).trans rfl, (m _ _ (by omega)).trans (z.2.1.trans (qn _ (by omega) (by omega)).symm), fun p hp => ⟨(m _ _ (by omega)).trans ((z.2.2.1 p hp).1.trans (qn _ (by omega) (by omega)).symm), (m _ _ (by omega)).trans ((z.2.2.1 p hp).2.trans (qn _ (by omega) (by omega)).symm)⟩, fun k hk => (m _ _ (by omega)).trans ((z.2.2.2.1 k hk).trans (qn _ (by omega) (by omega)).symm), fun p hp => (m _ _ (by omega)).trans ((z.2.2.2.2 p hp).trans (q_sum_cg _ (fun k hk => (qn _ (by omega) (by omega)).symm)))⟩
  refine qx_M_in rfl (Nat.le_of_ble_eq_true rfl) ?_
  refine qy_wp_ok (c := CX11_dawn) (cuts := []) vX11_dawn wX11_dawn 2000 0 _ _ _ ?_
  refine And.intro rfl (Exists.intro _ (And.intro (by decide) (qx_M_mono (c_hasCountry hI.2.1.1 hI.1.1.2.1.1.1 hI.1.1.2.1.1.2) ?_)))
  rintro _ _ ⟨rfl, rfl⟩
  refine And.intro (fun h4 => ?_) (fun h4 => ?_)
  · skip
    have h4 := bI_f h4
    exact absurd (h4.symm.trans (decide_eq_true hb)) (by decide)
  · skip
    have h4 := bI_t h4
    refine And.intro rfl (Exists.intro 15 (And.intro rfl ?_))
    refine And.intro rfl (Exists.intro 21 (And.intro rfl ?_))
    refine And.intro rfl (Exists.intro 4 (Exists.intro (nI dy) (And.intro rfl (And.intro (hI.2.1.2.1.1.trans e3) ?_))))
    refine Exists.intro (nI 9999) (And.intro rfl ?_)
    refine And.intro (fun h20 => ?_) (fun h20 => ?_)
    · skip
      have h20 := nI_ltT (a := dy) (b := 9999) (by omega) (by decide) h20
      refine And.intro rfl (Exists.intro 15 (And.intro rfl ?_))
      refine And.intro rfl (Exists.intro 21 (And.intro rfl ?_))
      refine And.intro rfl (Exists.intro 4 (Exists.intro (nI dy) (And.intro rfl (And.intro (hI.2.1.2.1.1.trans e3) ?_))))
      refine Exists.intro (nI 1) (And.intro rfl ?_)
      refine Exists.intro (nI (dy + 1)) (And.intro (nI_add _ _) ?_)
      obtain ⟨σ1, eσ1⟩ : ∃ zs, zs = (qx_wi σ 21 4 (nI (dy + 1))) := ⟨_, rfl⟩
      have fσ1 := qn_wif eσ1
      refine And.intro rfl (Exists.intro 4 (Exists.intro σ1 (And.intro rfl (And.intro eσ1.symm ?_))))
      refine And.intro rfl (Exists.intro _ (And.intro (by decide) (qx_M_mono (c_stirS (hI.sti fσ1 rfl).1 (hI.sti fσ1 rfl).2) ?_)))
      rintro _ σ2 ⟨rfl, fσ2, gσ2⟩
      refine And.intro rfl (Exists.intro 15 (And.intro rfl ?_))
      refine And.intro rfl (Exists.intro 21 (And.intro rfl ?_))
      refine And.intro rfl (Exists.intro 4 (Exists.intro (nI (dy + 1)) (And.intro rfl (And.intro ((fσ2.i _ _ rfl).trans (qn_eq eσ1)) ?_))))
      refine ⟨rfl, (fσ1.mn (by decide)).tr (fσ2.mn (by decide)), hI.up fσ1 rfl gσ2 g' (hI.2.1.nw hI.1 (zz _ eσ1) (fun y j hy => qn_ne eσ1 (Or.inl (by omega))) (fun i hi => ne _ (by omega))) he⟩
    · skip
      have h20 := nI_ltF (a := dy) (b := 9999) (by omega) (by decide) h20
      exact absurd h20 (by omega)

