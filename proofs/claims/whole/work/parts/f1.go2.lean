/-! THE CLASS: go -/
theorem q_ch1_ow {rg : Nat → Nat} {n k pe : Nat} {S : qS} (h1 : rg k < pe) (h2 : rg ((k + 1) % n) < pe) (hpe : pe ≤ 10) {p q : Nat} (hp : p < 10) (hq : q < 10) (hz : pe ≤ p ∨ pe ≤ q) : (q_ch1 rg n k S).1 (154 + 10 * p + q) = S (154 + 10 * p + q) := by
  by_cases h : 0 < S (10 + 5 * rg k + 1) - S (10 + 5 * rg ((k + 1) % n) + 1)
  · rw [q_ch1_p h, va_up_ne _ _ (by omega), va_up_ne _ _ (by omega)]
  · rw [q_ch1_n h, va_up_ne _ _ (by omega)]
theorem q_chc_ow {rg : Nat → Nat} {n pe : Nat} (hr : ∀ k, k < n → rg k < pe) (hpe : pe ≤ 10) {p q : Nat} (hp : p < 10) (hq : q < 10) (hz : pe ≤ p ∨ pe ≤ q) : ∀ (m k : Nat) (S : qS) (c : Int32), m + k ≤ n → (q_chc rg n m k S c).1 (154 + 10 * p + q) = S (154 + 10 * p + q)
  | 0, _, _, _, _ => rfl
  | m + 1, k, S, c, h => by
    have s1 := q_ch1_ow (rg := rg) (n := n) (k := k) (S := S) (hr k (by omega)) (hr _ (Nat.mod_lt _ (by omega))) hpe hp hq hz
    unfold q_chc
    split
    · exact (q_chc_ow hr hpe hp hq hz m (k + 1) _ _ (by omega)).trans s1
    · exact (q_chc_ow hr hpe hp hq hz m (k + 1) _ _ (by omega)).trans s1
/-- what a ring leaves -/
theorem q_dne_o {rg : Nat → Nat} {n : Nat} {S : qS} (hr : ∀ k, k < n → rg k < 10) {i : Nat} (h6 : i ≠ 6) (h1 : ¬ (10 ≤ i ∧ i < 60 ∧ ((i - 10) % 5 = 0 ∨ (i - 10) % 5 = 4))) (h2 : ¬ (154 ≤ i ∧ i < 254)) : q_dne rg n S i = S i := by
  unfold q_dne
  rw [va_up_ne _ _ h6, q_gr_sA hr _ (by omega), q_chc_sM hr n 0 S 0 (by omega) _ (by omega) h2]
theorem gS.cg {S S' : qS} (g : gS S) (e : ∀ i, i ≤ 1 ∨ (10 ≤ i ∧ i < 60 ∧ (i - 10) % 5 = 0) → S' i = S i) : gS S' := by
  have n0 := s_n_cg (e 0 (by omega))
  have n1 := s_n_cg (e 1 (by omega))
  have h10 := g.2.1.2
  refine ⟨by rw [e 0 (by omega), n0]; exact g.1, by rw [e 1 (by omega), n1]; exact g.2.1, ?_⟩
  rw [n0, n1]
  intro p hp
  rw [e (10 + 5 * p) (by omega), s_n_cg (e (10 + 5 * p) (by omega))]
  exact g.2.2 p hp
theorem gS.dne {rg : Nat → Nat} {n : Nat} {S : qS} (g : gS S) (h0 : 0 < n) (hr : ∀ k, k < n → rg k < s_n S 1) : gS (q_dne rg n S) := by
  have h10 := g.2.1.2
  have sm := q_chc_sM (rg := rg) (n := n) (fun k hk => Nat.lt_of_lt_of_le (hr k hk) h10) n 0 S 0 (by omega)
  have g1 : gS (q_chc rg n n 0 S 0).1 := g.cg (fun i hi => sm i (by omega) (by omega))
  have n1 : s_n (q_chc rg n n 0 S 0).1 1 = s_n S 1 := s_n_cg (sm 1 (by omega) (by omega))
  have g2 := q_gr_g g1 h0 (fun k hk => by rw [n1]; exact hr k hk)
  exact g2.cg (fun i hi => va_up_ne _ _ (by omega))
theorem gL.mk {S S' : qS} (h : gL S) (g : gS S') (e : ∀ i, i ≤ 2 ∨ (10 ≤ i ∧ i < 60 ∧ (i - 10) % 5 = 3) ∨ (60 ≤ i ∧ i < 140) → S' i = S i) : gL S' := by
  have n0 := s_n_cg (e 0 (by omega))
  have n1 := s_n_cg (e 1 (by omega))
  have n2 := s_n_cg (e 2 (by omega))
  have b1 := h.1.2.1.2
  refine ⟨⟨by rw [e 0 (by omega), n0]; exact h.1.1, by rw [e 1 (by omega), n1]; exact h.1.2.1, by rw [e 2 (by omega), n2]; exact h.1.2.2⟩, g, ?_⟩
  rw [n1]
  intro p hp
  refine ⟨fun q hq => ?_, ?_⟩
  · rw [e _ (by omega)]
    exact (h.2.2 p hp).1 q hq
  · rw [e _ (by omega)]
    exact (h.2.2 p hp).2
theorem q_go_eq (S : qS) (u : Nat) : q_go S u = (q_dne (q_cm S) (s_n S 4) (va_up (q_kp2 S u) 4 (nI 0)), (q_chc (q_cm S) (s_n S 4) (s_n S 4) 0 (va_up (q_kp2 S u) 4 (nI 0)) 0).2) := rfl
theorem gT.go {S : qS} (g : gT S) {u : Nat} (eu : s_n S 9 = u) (h2 : 2 ≤ s_n S 4) : gT (q_go S u).1 := by
  have hpe := g.pe
  have hu : u ≤ 20 := by rw [← eu]; exact g.U.1.2
  have hr : ∀ k, k < s_n S 4 → q_cm S k < s_n S 1 := fun k hk => (g.2.2.1.2.2 k hk).2
  have hr10 : ∀ k, k < s_n S 4 → q_cm S k < 10 := fun k hk => Nat.lt_of_lt_of_le (hr k hk) hpe
  rw [q_go_eq]
  dsimp only
  obtain ⟨S1, e1⟩ : ∃ S1, S1 = va_up (q_kp2 S u) 4 (nI 0) := ⟨_, rfl⟩
  rw [← e1]
  have lo : ∀ i, i < 348 → i ≠ 9 → i ≠ 4 → S1 i = S i := fun i h1 h2 h3 => by rw [e1, va_up_ne _ _ h3, q_kp2_lo h1 h2]
  have hi : ∀ i, i ≠ 4 → S1 i = q_kp2 S u i := fun i h => by rw [e1, va_up_ne _ _ h]
  have x4 : S1 4 = nI 0 := by rw [e1, va_up_self]
  have n1 : s_n S1 1 = s_n S 1 := s_n_cg (lo 1 (by omega) (by omega) (by omega))
  have g1 : gS S1 := g.1.2.1.cg (fun i hi => lo _ (by omega) (by omega) (by omega))
  have g2 := g1.dne (rg := q_cm S) (n := s_n S 4) (by omega) (by rw [n1]; exact hr)
  have o : ∀ i, i ≠ 6 → ¬ (10 ≤ i ∧ i < 60 ∧ ((i - 10) % 5 = 0 ∨ (i - 10) % 5 = 4)) → ¬ (154 ≤ i ∧ i < 254) → q_dne (q_cm S) (s_n S 4) S1 i = S1 i := fun i h6 h7 h8 => q_dne_o hr10 h6 h7 h8
  have oS : ∀ i, i < 348 → i ≠ 9 → i ≠ 4 → i ≠ 6 → ¬ (10 ≤ i ∧ i < 60 ∧ ((i - 10) % 5 = 0 ∨ (i - 10) % 5 = 4)) → ¬ (154 ≤ i ∧ i < 254) → q_dne (q_cm S) (s_n S 4) S1 i = S i := fun i k1 k2 k3 h6 h7 h8 => (o i h6 h7 h8).trans (lo i k1 k2 k3)
  have y4 : q_dne (q_cm S) (s_n S 4) S1 4 = nI 0 := (o 4 (by omega) (by omega) (by omega)).trans x4
  have m1 : s_n (q_dne (q_cm S) (s_n S 4) S1) 1 = s_n S 1 := s_n_cg (oS 1 (by omega) (by omega) (by omega) (by omega) (by omega) (by omega))
  have m4 : s_n (q_dne (q_cm S) (s_n S 4) S1) 4 = 0 := congrArg Int32.toNatClampNeg y4
  refine gT.mk (g.1.mk g2 (fun i hi => oS i (by omega) (by omega) (by omega) (by omega) (by omega) (by omega))) ?_ ⟨by rw [m4]; exact y4, by rw [m4]; omega, fun k hk => by rw [m4] at hk; omega⟩ (g.2.2.2.1.cg (fun i hi => oS i (by omega) (by omega) (by omega) (by omega) (by omega) (by omega))) ?_
  · rw [m1]
    intro p k hp hk hz
    rw [show 10 + 10 * p + k = 10 + (10 * p + k) by omega, q_nw_ow _ (by omega), show 154 + (10 * p + k) = 154 + 10 * p + k by omega]
    unfold q_dne
    rw [va_up_ne _ _ (by omega), q_gr_sA hr10 _ (by omega), q_chc_ow hr hpe hp hk hz _ _ _ _ (by omega), lo _ (by omega) (by omega) (by omega)]
    exact g.ow0 hp hk hz
  · refine (gU.kp g hu eu).cg (by rw [s_n_cg (q_kp2_lo (S := S) (u := u) (i := 1) (by omega) (by omega))]; exact hpe) ?_ (fun i hi2 => ?_)
    · exact (o 0 (by omega) (by omega) (by omega)).trans (hi 0 (by omega))
    · exact (o i (by omega) (by omega) (by omega)).trans (hi i (by omega))
theorem c_go_no {G : qx_G} {σ : qx_S} {S : qS} {rf : Option qR} {e : Nat} (hI : cI σ S rf e) (h2 : s_n S 4 < 2) : qx_M G qc_T 5 YX11_go [.ref 3] σ (qr (-1) σ) := by
  refine qx_M_in rfl (Nat.le_of_ble_eq_true rfl) ?_
  refine qy_wp_ok (c := CX11_go) (cuts := []) vX11_go wX11_go 2000 0 _ _ _ ?_
  refine And.intro rfl (Exists.intro 15 (And.intro rfl ?_))
  refine And.intro rfl (Exists.intro 27 (And.intro rfl ?_))
  refine And.intro rfl (Exists.intro 1 (Exists.intro (nI (s_n S 4)) (And.intro rfl (And.intro hI.cl.1 ?_))))
  refine Exists.intro (nI 2) (And.intro rfl ?_)
  refine And.intro (fun h11 => ?_) (fun h11 => ?_)
  · skip
    have h11 := nI_leT (a := 2) (b := s_n S 4) (by decide) (by omega) h11
    exact absurd h11 (by omega)
  · skip
    have h11 := nI_leF (a := 2) (b := s_n S 4) (by decide) (by omega) h11
    refine Exists.intro ((-1)) (And.intro (by decide) ?_)
    exact ⟨rfl, rfl⟩
theorem c_go_law {G : qx_G} {σ : qx_S} {S : qS} {rf : Option qR} {e : Nat} (hI : cI σ S rf e) (h2 : 2 ≤ s_n S 4) (hl : 0 < q_lb S rf none (q_cm S) (s_n S 4)) : qx_M G qc_T 5 YX11_go [.ref 3] σ (fun r s => r = some (.int (-2 - nI (q_lb S rf none (q_cm S) (s_n S 4)))) ∧ ql kLw σ s ∧ cI s S rf e) := by
  have c6 := hI.1.2.2.1.2.1
  have key := c_brokenByRing (G := G) hI.W hI.K cH_rf c6 (fun k hk => (hI.1.2.2.1.2.2 k hk).2) (Or.inl (by decide)) (Or.inl (by decide)) (Or.inl (by decide)) hI.ring hI.atC
  rw [q_lbg_at] at key
  have l3 : q_lb S rf none (q_cm S) (s_n S 4) ≤ 3 := q_lbc_le _ _ _ _ _ _ _
  refine qx_M_in rfl (Nat.le_of_ble_eq_true rfl) ?_
  refine qy_wp_ok (c := CX11_go) (cuts := []) vX11_go wX11_go 2000 0 _ _ _ ?_
  refine And.intro rfl (Exists.intro 15 (And.intro rfl ?_))
  refine And.intro rfl (Exists.intro 27 (And.intro rfl ?_))
  refine And.intro rfl (Exists.intro 1 (Exists.intro (nI (s_n S 4)) (And.intro rfl (And.intro hI.cl.1 ?_))))
  refine Exists.intro (nI 2) (And.intro rfl ?_)
  refine And.intro (fun h11 => ?_) (fun h11 => ?_)
  · skip
    have h11 := nI_leT (a := 2) (b := s_n S 4) (by decide) (by omega) h11
    refine And.intro rfl (Exists.intro 156 (And.intro rfl ?_))
    refine And.intro rfl (Exists.intro 15 (And.intro rfl ?_))
    refine And.intro rfl (Exists.intro 27 (And.intro rfl ?_))
    refine And.intro rfl (Exists.intro 15 (And.intro rfl ?_))
    refine And.intro rfl (Exists.intro 21 (And.intro rfl ?_))
    refine And.intro rfl (Exists.intro 22 (And.intro rfl ?_))
    refine And.intro rfl (Exists.intro _ (And.intro (by decide) (qx_M_mono (key) ?_)))
    rintro _ σ1 ⟨rfl, fσ1, kσ1⟩
    refine And.intro (fun h42 => ?_) (fun h42 => ?_)
    · skip
      have h42 := nI_eqT (a := q_lb S rf none (q_cm S) (s_n S 4)) (b := 0) (by omega) (by decide) h42
      exact absurd h42 (by omega)
    · skip
      have h42 := nI_neT (a := q_lb S rf none (q_cm S) (s_n S 4)) (b := 0) (by omega) (by decide) h42
      refine Exists.intro ((-2)) (And.intro (by decide) ?_)
      refine Exists.intro ((-2) - (nI (q_lb S rf none (q_cm S) (s_n S 4)))) (And.intro rfl ?_)
      exact ⟨rfl, fσ1, hI.lw fσ1 kσ1⟩
  · skip
    have h11 := nI_leF (a := 2) (b := s_n S 4) (by decide) (by omega) h11
    exact absurd h11 (by omega)
abbrev kGo (j : Nat) : List (Nat × Option Nat) := (27, some 1) :: (15, some 6) :: (15, some 7) :: (kS5 21 ++ kS5 (31 + 5 * j))
theorem kGo_Y {j : Nat} (hj : j < 20) : kY (kGo j) = true := by
  refine List.all_eq_true.mpr (fun q hq => ?_)
  simp only [List.mem_cons, List.mem_append, List.not_mem_nil, or_false] at hq
  rcases hq with z | z | z | (z | z | z | z | z) | (z | z | z | z | z)
  · rw [z]; rfl
  · rw [z]; rfl
  · rw [z]; rfl
  all_goals rw [z]; exact kIq_of (by show 16 ≤ _; omega) (by show _ ≤ 155; omega)
theorem c_go_ok {G : qx_G} {σ : qx_S} {S : qS} {rf : Option qR} {e u : Nat} (hI : cI σ S rf e) (he : e + 1 ≤ 1000) (h2 : 2 ≤ s_n S 4) (hl : q_lb S rf none (q_cm S) (s_n S 4) = 0) (eu : s_n S 9 = u) : qx_M G qc_T 5 YX11_go [.ref 3] σ (fun r s => r = some (.int (q_go S u).2) ∧ (∃ j, j < 20 ∧ ql (kLw ++ (156, some 8) :: kGo j) σ s) ∧ cI s (q_go S u).1 rf (e + 1)) := by
  have c6 := hI.1.2.2.1.2.1
  have hpe := hI.1.pe
  have key := c_brokenByRing (G := G) hI.W hI.K cH_rf c6 (fun k hk => (hI.1.2.2.1.2.2 k hk).2) (Or.inl (by decide)) (Or.inl (by decide)) (Or.inl (by decide)) hI.ring hI.atC
  rw [q_lbg_at] at key
  have key : qx_M G qc_T 4 YX2_brokenByRing [.ref 156, .ref 27, .ref 22] σ (fun r s => r = some (.int (nI 0)) ∧ ql kLw σ s ∧ cK s e true (s_n S 1) (q_lk S rf)) := by
    rw [← hl]
    exact key
  have hr : ∀ k, k < s_n S 4 → q_cm S k < s_n S 1 := fun k hk => (hI.1.2.2.1.2.2 k hk).2
  have hr10 : ∀ k, k < s_n S 4 → q_cm S k < 10 := fun k hk => Nat.lt_of_lt_of_le (hr k hk) hpe
  have g' := hI.1.go eu h2
  rw [q_go_eq] at g' ⊢
  dsimp only at g' ⊢
  obtain ⟨S1, e1⟩ : ∃ S1, S1 = va_up (q_kp2 S u) 4 (nI 0) := ⟨_, rfl⟩
  rw [← e1] at g' ⊢
  have lo : ∀ i, i < 348 → i ≠ 9 → i ≠ 4 → S1 i = S i := fun i h1 h2 h3 => by rw [e1, va_up_ne _ _ h3, q_kp2_lo h1 h2]
  have hi : ∀ i, i ≠ 4 → S1 i = q_kp2 S u i := fun i h => by rw [e1, va_up_ne _ _ h]
  have x4 : S1 4 = nI 0 := by rw [e1, va_up_self]
  have o : ∀ i, i ≠ 6 → ¬ (10 ≤ i ∧ i < 60 ∧ ((i - 10) % 5 = 0 ∨ (i - 10) % 5 = 4)) → ¬ (154 ≤ i ∧ i < 254) → q_dne (q_cm S) (s_n S 4) S1 i = S1 i := fun i h6 h7 h8 => q_dne_o hr10 h6 h7 h8
  have oS : ∀ i, i < 348 → i ≠ 9 → i ≠ 4 → i ≠ 6 → ¬ (10 ≤ i ∧ i < 60 ∧ ((i - 10) % 5 = 0 ∨ (i - 10) % 5 = 4)) → ¬ (154 ≤ i ∧ i < 254) → q_dne (q_cm S) (s_n S 4) S1 i = S i := fun i k1 k2 k3 h6 h7 h8 => (o i h6 h7 h8).trans (lo i k1 k2 k3)
  have m1 : s_n (q_dne (q_cm S) (s_n S 4) S1) 1 = s_n S 1 := s_n_cg (oS 1 (by omega) (by omega) (by omega) (by omega) (by omega) (by omega))
  have m9 : s_n (q_kp2 S u) 9 ≤ 20 := (gU.kp hI.1 (by rw [← eu]; exact hI.1.U.1.2) eu).1.2
  have zk : ∀ s j, cI s S rf e → j < 20 → ∀ s2, ql (kP j) s s2 → zR s2 21 (s_n S 1) (q_nw S1) := fun s j i1 hj s2 f => i1.2.1.2.1.tr hpe rfl (fun y k h1 h2 => f.i _ _ (kP_ne (by omega) (by omega))) (fun i hi => eNw.q (fun i hi => lo _ (by omega) (by omega) (by omega)) hi)
  have rk : ∀ s j, cI s S rf e → j < 20 → ∀ s2, ql (kP j) s s2 → rgC s2 27 (q_cm S) (s_n S 4) := fun s j i1 hj s2 f => i1.ring.fr f (kP_ne (by omega) (by omega)) (fun k => kP_ne (by omega) (by omega))
  have wk : ∀ s j, cI s S rf e → j < 20 → ∀ s2, ql (kP j) s s2 → ∀ p, p < s_n S 1 → qx_mi s2 17 p = S1 (10 + 5 * p + 1) := fun s j i1 hj s2 f p hp => (f.i _ _ (kP_ne (by omega) (by omega))).trans ((i1.2.1.1.2.2.2.1 p hp).1.trans (lo _ (by omega) (by omega) (by omega)).symm)
  have fin : ∀ s1 s2 s3 s4 s j, cI s1 S rf e → ql kLw σ s1 → j < 20 → ql (kP j) s1 s2 → cPa s2 15 (q_kp2 S u) → qx_mi s2 15 7 = q_kp2 S u 9 → ql (kS5 21) s2 s3 → zR s3 21 (s_n S 1) (q_nw (q_dne (q_cm S) (s_n S 4) S1)) → s4 = qx_wi s3 27 1 (nI 0) → s = qx_wi s4 156 8 (nI (e + 1)) → (∃ j, j < 20 ∧ ql (kLw ++ (156, some 8) :: kGo j) σ s) ∧ cI s (q_dne (q_cm S) (s_n S 4) S1) rf (e + 1) := by
    intro s1 s2 s3 s4 s j i1 f1 hj f2 pa p7 f3 z3 e4 e5
    have f4 := qn_wif e4
    have f5 := qn_wif e5
    have f : ql (kGo j) s1 s4 := by
      refine (qf.mono f2 (fun x k hx => ?_)).tr ((cv5 f3 (fun q hq => ?_)).tr (cv1 f4 (List.mem_cons_self ..)))
      · have hx := (Bool.or_eq_false_iff.mp hx).2
        cases hp : pL (kP j) x k with
        | false => rfl
        | true =>
          exfalso
          obtain ⟨q, hq, w⟩ := List.any_eq_true.mp hp
          have h2 : pL ((15, some 6) :: (15, some 7) :: (kS5 21 ++ kS5 (31 + 5 * j))) x k = true := List.any_eq_true.mpr ⟨q, by
            rcases List.mem_cons.mp hq with z | z
            · exact List.mem_cons.mpr (Or.inl z)
            · rcases List.mem_cons.mp z with z | z
              · exact List.mem_cons_of_mem _ (List.mem_cons.mpr (Or.inl z))
              · exact List.mem_cons_of_mem _ (List.mem_cons_of_mem _ (List.mem_append_right _ z)), w⟩
          exact absurd (h2.symm.trans hx) (by decide)
      · exact List.mem_cons_of_mem _ (List.mem_cons_of_mem _ (List.mem_cons_of_mem _ (List.mem_append_left _ hq)))
    have m24 : ∀ y k, ¬ (21 ≤ y ∧ y ≤ 25) → ¬ (y = 27 ∧ k = 1) → qx_mi s4 y k = qx_mi s2 y k := fun y k h1 h2 => (qn_ne e4 (by omega)).trans (f3.i _ _ (kS5_ne (by omega)))
    have m14 : ∀ y k, ¬ (21 ≤ y ∧ y ≤ 25) → ¬ (y = 27 ∧ k = 1) → ¬ (y = 15 ∧ (k = 6 ∨ k = 7)) → ¬ (31 ≤ y ∧ y ≤ 130) → qx_mi s4 y k = qx_mi s1 y k := fun y k h1 h2 h3 h4 => (m24 y k h1 h2).trans (f2.i _ _ (kP_ne h3 (by omega)))
    refine ⟨⟨j, hj, ?_⟩, i1.up f (kGo_Y hj) e5 g' (cSt.mk (i1.2.1.1.tr hI.1.1.1 (fun k hk y => m14 _ _ (by omega) (by omega) (by omega) (by omega)) (fun i hi => oS i (by omega) (by omega) (by omega) (by omega) (by omega) (by omega))) ?_ ?_ ⟨?_, fun y hy => ?_⟩ (cTo.tr i1.2.1.2.2.2.2.1 hI.1.2.2.2.1 (fun y k _ _ => m14 _ _ (by omega) (by omega) (by omega) (by omega)) (fun i hi => oS i (by omega) (by omega) (by omega) (by omega) (by omega) (by omega))) (fun p hp => ?_) ?_ ?_ ?_ ?_) he⟩
    · refine (qf.mono f1 (fun x k hx => ?_)).tr ((qf.mono f (fun x k hx => ?_)).tr (cv1 f5 (List.mem_append_right _ (List.mem_cons_self ..))))
      · unfold pL at hx ⊢
        rw [List.any_append, Bool.or_eq_false_iff] at hx
        exact hx.1
      · unfold pL at hx ⊢
        rw [List.any_append, Bool.or_eq_false_iff] at hx
        exact (Bool.or_eq_false_iff.mp hx.2).2
    · rw [m1]
      exact z3.fb (fun y k h1 h2 => qn_ne e4 (by omega))
    · exact cPa.tr pa (by rw [s_n_cg (q_kp2_lo (S := S) (u := u) (i := 1) (by omega) (by omega))]; exact hpe) m9 (m24 _ _ (by omega) (by omega)) (fun y k h1 h2 => m24 _ _ (by omega) (by omega)) (fun i hi2 => (o i (by omega) (by omega) (by omega)).trans (hi i (by omega)))
    · exact (qn_eq e4).trans ((o 4 (by omega) (by omega) (by omega)).trans x4).symm
    · rw [(o 4 (by omega) (by omega) (by omega)).trans x4] at hy
      exact absurd hy (Nat.not_lt_zero _)
    · rw [m1] at hp
      rw [oS _ (by omega) (by omega) (by omega) (by omega) (by omega) (by omega)]
      exact (m14 _ _ (by omega) (by omega) (by omega) (by omega)).trans (i1.2.1.2.2.2.2.2.1 p hp)
    · rw [o 9 (by omega) (by omega) (by omega), hi 9 (by omega)]
      exact (m24 _ _ (by omega) (by omega)).trans p7
    · rw [oS 5 (by omega) (by omega) (by omega) (by omega) (by omega) (by omega)]
      exact (m14 _ _ (by omega) (by omega) (by omega) (by omega)).trans i1.2.1.2.2.2.2.2.2.2.1
    · rw [oS 7 (by omega) (by omega) (by omega) (by omega) (by omega) (by omega)]
      exact (m14 _ _ (by omega) (by omega) (by omega) (by omega)).trans i1.2.1.2.2.2.2.2.2.2.2.1
    · rw [oS 8 (by omega) (by omega) (by omega) (by omega) (by omega) (by omega)]
      exact (m14 _ _ (by omega) (by omega) (by omega) (by omega)).trans i1.2.1.2.2.2.2.2.2.2.2.2
  have sti : ∀ s1 s2 s3 s4 j, cI s1 S rf e → j < 20 → ql (kP j) s1 s2 → ql (kS5 21) s2 s3 → s4 = qx_wi s3 27 1 (nI 0) → qx_mi s4 156 8 = nI e ∧ inF s4 (qx_mr s4 156 7) := by
    intro s1 s2 s3 s4 j i1 hj f2 f3 e4
    have f4 := qn_wif e4
    have mi : ∀ y k, (y = 156 ∧ k = 8) ∨ (y = 15 ∧ k = 9) ∨ (y = 3 ∧ k = 15) → qx_mi s4 y k = qx_mi s1 y k := fun y k h => (qn_ne e4 (by omega)).trans ((f3.i _ _ (kS5_ne (by omega))).trans (f2.i _ _ (kP_ne (by omega) (by omega))))
    have mr : ∀ y k, qx_mr s4 y k = qx_mr s1 y k := fun y k => (f4.r _ _).trans ((f3.r _ _).trans (f2.r _ _))
    refine ⟨(mi _ _ (by omega)).trans i1.K.1, ?_⟩
    rw [mr]
    rcases i1.2.2.2.2.2.1 with ⟨a, b⟩ | ⟨g, nr, x, c1, c2, c3, c4, c5, c6⟩
    · exact Or.inl ⟨a, (mi _ _ (by omega)).trans b⟩
    · exact Or.inr ⟨g, nr, x, c1, (mi _ _ (by omega)).trans c2, (mi _ _ (by omega)).trans c3, c4, c5, (mr _ _).trans c6⟩
  refine qx_M_in rfl (Nat.le_of_ble_eq_true rfl) ?_
  refine qy_wp_ok (c := CX11_go) (cuts := []) vX11_go wX11_go 2000 0 _ _ _ ?_
  refine And.intro rfl (Exists.intro 15 (And.intro rfl ?_))
  refine And.intro rfl (Exists.intro 27 (And.intro rfl ?_))
  refine And.intro rfl (Exists.intro 1 (Exists.intro (nI (s_n S 4)) (And.intro rfl (And.intro hI.cl.1 ?_))))
  refine Exists.intro (nI 2) (And.intro rfl ?_)
  refine And.intro (fun h11 => ?_) (fun h11 => ?_)
  · skip
    have h11 := nI_leT (a := 2) (b := s_n S 4) (by decide) (by omega) h11
    refine And.intro rfl (Exists.intro 156 (And.intro rfl ?_))
    refine And.intro rfl (Exists.intro 15 (And.intro rfl ?_))
    refine And.intro rfl (Exists.intro 27 (And.intro rfl ?_))
    refine And.intro rfl (Exists.intro 15 (And.intro rfl ?_))
    refine And.intro rfl (Exists.intro 21 (And.intro rfl ?_))
    refine And.intro rfl (Exists.intro 22 (And.intro rfl ?_))
    refine And.intro rfl (Exists.intro _ (And.intro (by decide) (qx_M_mono (key) ?_)))
    rintro _ σ1 ⟨rfl, fσ1, kσ1⟩
    refine And.intro (fun h42 => ?_) (fun h42 => ?_)
    · skip
      refine And.intro rfl (Exists.intro 15 (And.intro rfl ?_))
      refine And.intro rfl (Exists.intro _ (And.intro (by decide) (qx_M_mono (c_keepPast (hI.lw fσ1 kσ1) eu) ?_)))
      rintro _ ρ ⟨rfl, j, hj, fρ, pρ, qρ⟩
      refine And.intro rfl (Exists.intro 15 (And.intro rfl ?_))
      refine And.intro rfl (Exists.intro 21 (And.intro rfl ?_))
      refine And.intro rfl (Exists.intro 15 (And.intro rfl ?_))
      refine And.intro rfl (Exists.intro 27 (And.intro rfl ?_))
      refine And.intro rfl (Exists.intro 15 (And.intro rfl ?_))
      refine And.intro rfl (Exists.intro 16 (And.intro rfl ?_))
      refine And.intro rfl (Exists.intro _ (And.intro (by decide) (qx_M_mono (c_change hpe (by omega) c6 hr ⟨rfl, rfl, rfl, rfl, rfl⟩ (rk _ _ (hI.lw fσ1 kσ1) hj _ fρ) (by omega) (wk _ _ (hI.lw fσ1 kσ1) hj _ fρ) (by omega) (zk _ _ (hI.lw fσ1 kσ1) hj _ fρ)) ?_)))
      rintro _ τ ⟨rfl, fτ, zτ⟩
      refine And.intro rfl (Exists.intro 15 (And.intro rfl ?_))
      refine And.intro rfl (Exists.intro 27 (And.intro rfl ?_))
      refine Exists.intro (nI 0) (And.intro rfl ?_)
      obtain ⟨σ4, eσ4⟩ : ∃ zs, zs = (qx_wi τ 27 1 (nI 0)) := ⟨_, rfl⟩
      have fσ4 := qn_wif eσ4
      refine And.intro rfl (Exists.intro 1 (Exists.intro σ4 (And.intro rfl (And.intro eσ4.symm ?_))))
      have eFIN := eσ4
      refine And.intro rfl (Exists.intro _ (And.intro (by decide) (qx_M_mono (c_stirS (sti _ _ _ _ _ (hI.lw fσ1 kσ1) hj fρ fτ eσ4).1 (sti _ _ _ _ _ (hI.lw fσ1 kσ1) hj fρ fτ eσ4).2) ?_)))
      rintro _ μ ⟨rfl, fμ, gμ⟩
      exact ⟨rfl, fin _ _ _ _ _ _ (hI.lw fσ1 kσ1) fσ1 hj fρ pρ qρ fτ zτ eFIN gμ⟩
    · skip
      exact absurd (by decide) h42
  · skip
    have h11 := nI_leF (a := 2) (b := s_n S 4) (by decide) (by omega) h11
    exact absurd h11 (by omega)

