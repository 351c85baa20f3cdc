/-! go -/
def iWp (S : qS) (pe : Nat) : Prop := (∀ a b, a < pe → b < pe → 0 < S (154 + 10 * a + b) → S (10 + 5 * b + 1) < S (10 + 5 * a + 1)) ∧ ∀ p, p < pe → ∃ v, v ≤ 99 ∧ S (10 + 5 * p + 1) = nI v
theorem q_w_pos {v w : Nat} (hv : v ≤ 99) (hw : w ≤ 99) (h : 0 < nI v - nI w) : nI w < nI v := by
  rw [Int32.lt_iff_toInt_lt] at h ⊢
  rw [Int32.toInt_sub, nI_toInt (by omega), nI_toInt (by omega)] at h
  rw [nI_toInt (by omega), nI_toInt (by omega)]
  have k4 : (0 : Int32).toInt = 0 := by decide
  rw [k4] at h
  have hb : ((v : Int) - (w : Int)).bmod (2 ^ 32) = (v : Int) - (w : Int) := by
    apply Int.bmod_eq_of_le <;> omega
  rw [hb] at h
  omega
theorem iWp.ch1 {rg : Nat → Nat} {n k pe : Nat} {S : qS} (h : iWp S pe) (hpe : pe ≤ 10) (h1 : rg k < pe) (h2 : rg ((k + 1) % n) < pe) : iWp (q_ch1 rg n k S).1 pe := by
  by_cases z : 0 < S (10 + 5 * rg k + 1) - S (10 + 5 * rg ((k + 1) % n) + 1)
  · rw [q_ch1_p z]
    have o : ∀ p, p < pe → ∀ x y, va_up (va_up S (10 + 5 * rg k + 4) x) (154 + 10 * rg k + rg ((k + 1) % n)) y (10 + 5 * p + 1) = S (10 + 5 * p + 1) := fun p hp x y => by
      rw [va_up_ne _ _ (by omega), va_up_ne _ _ (by omega)]
    refine ⟨fun a b ha hb h0 => ?_, fun p hp => ?_⟩
    · rw [o a ha, o b hb]
      by_cases w : 154 + 10 * a + b = 154 + 10 * rg k + rg ((k + 1) % n)
      · have wa : a = rg k := by omega
        have wb : b = rg ((k + 1) % n) := by omega
        rw [wa, wb]
        obtain ⟨v1, v2, v3⟩ := h.2 _ h1
        obtain ⟨w1, w2, w3⟩ := h.2 _ h2
        rw [v3, w3] at z ⊢
        exact q_w_pos v2 w2 z
      · rw [va_up_ne _ _ w, va_up_ne _ _ (by omega)] at h0
        exact h.1 a b ha hb h0
    · rw [o p hp]
      exact h.2 p hp
  · rw [q_ch1_n z]
    refine ⟨fun a b ha hb h0 => ?_, fun p hp => ?_⟩
    · rw [va_up_ne _ _ (by omega)] at h0
      rw [va_up_ne _ _ (by omega), va_up_ne _ _ (by omega)]
      exact h.1 a b ha hb h0
    · rw [va_up_ne _ _ (by omega)]
      exact h.2 p hp
theorem iWp.chc {rg : Nat → Nat} {n pe : Nat} (hpe : pe ≤ 10) (hn : 0 < n) (hr : ∀ k, k < n → rg k < pe) : ∀ (m k : Nat) (S : qS) (c : Int32), m + k ≤ n → iWp S pe → iWp (q_chc rg n m k S c).1 pe
  | 0, _, _, _, _, h => h
  | m + 1, k, S, c, hm, h => by
    have h1 := h.ch1 (rg := rg) (n := n) (k := k) hpe (hr k (by omega)) (hr _ (Nat.mod_lt _ hn))
    unfold q_chc
    split
    · exact iWp.chc hpe hn hr m (k + 1) _ _ (by omega) h1
    · exact iWp.chc hpe hn hr m (k + 1) _ _ (by omega) h1
theorem iWp.dne {rg : Nat → Nat} {n pe : Nat} {S : qS} (hpe : pe ≤ 10) (hn : 0 < n) (hr : ∀ k, k < n → rg k < pe) (h : iWp S pe) : iWp (q_dne rg n S) pe := by
  have h1 := iWp.chc hpe hn hr n 0 S 0 (by omega) h
  have sa := q_gr_sA (rg := rg) (n := n) (S := (q_chc rg n n 0 S 0).1) (fun k hk => Nat.lt_of_lt_of_le (hr k hk) hpe)
  have e : ∀ i, i ≠ 6 → ¬ (10 ≤ i ∧ i < 60 ∧ (i - 10) % 5 = 0) → q_dne rg n S i = (q_chc rg n n 0 S 0).1 i := fun i h6 hi => (va_up_ne _ _ h6).trans (sa i hi)
  refine ⟨fun a b ha hb h0 => ?_, fun p hp => ?_⟩
  · rw [e _ (by omega) (by omega)] at h0
    rw [e _ (by omega) (by omega), e _ (by omega) (by omega)]
    exact h1.1 a b ha hb h0
  · rw [e _ (by omega) (by omega)]
    exact h1.2 p hp
theorem q_kp2_hi {S : qS} {u j : Nat} (hu : u ≤ 20) (hj : 2788 ≤ j) : q_kp2 S u j = S j := by
  unfold q_kp2
  split
  · rw [va_up_ne _ _ (by omega), q_kr_o (Or.inr (by omega)), va_up_ne _ _ (by omega)]
    unfold q_sh
    rw [if_neg (by omega)]
  · rw [va_up_ne _ _ (by omega), q_kr_o (Or.inr (by omega))]
theorem gX.go {S : qS} {nr u : Nat} (h : gX S nr) (g : gT S) (eu : s_n S 9 = u) (h2 : 2 ≤ s_n S 4) : gX (q_go S u).1 nr := by
  obtain ⟨a, b, c, d, f, gg, dd, i⟩ := h
  have hpe := g.pe
  have hu : u ≤ 20 := by rw [← eu]; exact g.U.1.2
  have hr : ∀ k, k < s_n S 4 → q_cm S k < s_n S 1 := fun k hk => (g.2.2.1.2.2 k hk).2
  have hr10 : ∀ k, k < s_n S 4 → q_cm S k < 10 := fun k hk => Nat.lt_of_lt_of_le (hr k hk) hpe
  rw [q_go_eq]
  dsimp only
  obtain ⟨S1, e1⟩ : ∃ S1, S1 = va_up (q_kp2 S u) 4 (nI 0) := ⟨_, rfl⟩
  rw [← e1]
  have lo : ∀ i, i < 348 → i ≠ 9 → i ≠ 4 → S1 i = S i := fun i h1 h2 h3 => by rw [e1, va_up_ne _ _ h3, q_kp2_lo h1 h2]
  have hi : ∀ i, i ≠ 4 → S1 i = q_kp2 S u i := fun i h => by rw [e1, va_up_ne _ _ h]
  have o : ∀ i, i < 348 → i ≠ 6 → i ≠ 9 → i ≠ 4 → ¬ (10 ≤ i ∧ i < 60 ∧ ((i - 10) % 5 = 0 ∨ (i - 10) % 5 = 4)) → ¬ (154 ≤ i ∧ i < 254) → q_dne (q_cm S) (s_n S 4) S1 i = S i := fun i h1 h2 h3 h4 h5 h6 => (q_dne_o hr10 h2 h5 h6).trans (lo i h1 h3 h4)
  have oh : ∀ i, 348 ≤ i → q_dne (q_cm S) (s_n S 4) S1 i = q_kp2 S u i := fun i h1 => (q_dne_o hr10 (by omega) (by omega) (by omega)).trans (hi i (by omega))
  have n0 : s_n (q_dne (q_cm S) (s_n S 4) S1) 0 = s_n S 0 := s_n_cg (o 0 (by omega) (by omega) (by omega) (by omega) (by omega) (by omega))
  have n1 : s_n (q_dne (q_cm S) (s_n S 4) S1) 1 = s_n S 1 := s_n_cg (o 1 (by omega) (by omega) (by omega) (by omega) (by omega) (by omega))
  have n2 : s_n (q_dne (q_cm S) (s_n S 4) S1) 2 = s_n S 2 := s_n_cg (o 2 (by omega) (by omega) (by omega) (by omega) (by omega) (by omega))
  have e9 : q_dne (q_cm S) (s_n S 4) S1 9 = nI (if u = 20 then 20 else u + 1) := (q_dne_o hr10 (by omega) (by omega) (by omega)).trans ((hi 9 (by omega)).trans q_kp2_9)
  have n9 : s_n (q_dne (q_cm S) (s_n S 4) S1) 9 = if u = 20 then 20 else u + 1 := by
    refine (congrArg Int32.toNatClampNeg e9).trans ?_
    exact nI_clamp (by split <;> omega)
  have w1 : iWp S1 (s_n S 1) := ⟨fun x y hx hy h0 => by
    rw [lo _ (by omega) (by omega) (by omega)] at h0
    rw [lo _ (by omega) (by omega) (by omega), lo _ (by omega) (by omega) (by omega)]
    exact a x y hx hy h0, fun p hp => by
    rw [lo _ (by omega) (by omega) (by omega)]
    exact b.2.1 p hp⟩
  have w2 := w1.dne hpe (by omega : 0 < s_n S 4) hr
  have slot : ∀ v, v < (if u = 20 then 20 else u + 1) → (∀ j, j < 122 → q_slt (q_kp2 S u) v j = q_nw S j) ∨ ∃ v', v' < u ∧ ∀ j, j < 122 → q_slt (q_kp2 S u) v j = q_slt S v' j := fun v hv => by
    by_cases z : u = 20
    · subst z
      rw [if_pos rfl] at hv
      by_cases z2 : v = 19
      · subst z2
        exact Or.inl (fun j hj => q_kp2_n20 hj)
      · exact Or.inr ⟨v + 1, by omega, fun j hj => q_kp2_s20 (by omega) hj⟩
    · rw [if_neg z] at hv
      by_cases z2 : v = u
      · subst z2
        exact Or.inl (fun j hj => q_kp2_n (by omega) hj)
      · exact Or.inr ⟨v, by omega, fun j hj => q_kp2_s (by omega) (by omega) hj⟩
  have wt : ∀ p, p < s_n S 1 → q_dne (q_cm S) (s_n S 4) S1 (10 + 5 * p + 1) = S (10 + 5 * p + 1) := fun p hp => o _ (by omega) (by omega) (by omega) (by omega) (by omega) (by omega)
  refine ⟨fun x y hx hy h0 => ?_, ⟨fun v hv => ?_, fun p hp => ?_, fun j hj => (oh j (by omega)).trans ((q_kp2_hi hu hj).trans (b.2.2 j hj))⟩, ⟨?_, by rw [n2]; exact c.2.1, fun q hq => ?_⟩, fun p hp => ?_, fun p hp => ?_, ?_, ?_, ?_⟩
  · rw [n1] at hx hy
    exact w2.1 x y hx hy h0
  · rw [n9] at hv
    have s10 : ∀ x y, q_dne (q_cm S) (s_n S 4) S1 (348 + 122 * v + 10 + 10 * x + y) = q_slt (q_kp2 S u) v (10 + 10 * x + y) := fun x y => by
      rw [oh _ (by omega)]
      unfold q_slt
      rw [show 348 + 122 * v + 10 + 10 * x + y = 348 + 122 * v + (10 + 10 * x + y) by omega]
    have s120 : q_dne (q_cm S) (s_n S 4) S1 (348 + 122 * v + 120) = q_slt (q_kp2 S u) v 120 := oh _ (by omega)
    rcases slot v hv with z | ⟨v', hv', z⟩
    · obtain ⟨dy, d1, d2⟩ := dd
      refine ⟨fun x y hx hy h0 => ?_, dy, d1, ?_⟩
      · rw [n1] at hx hy
        rw [wt x hx, wt y hy]
        rw [s10, z _ (by omega), show q_nw S (10 + 10 * x + y) = S (154 + (10 + 10 * x + y - 10)) by unfold q_nw; rw [if_neg (by omega), if_pos (by omega)]] at h0
        refine a x y hx hy ?_
        rw [show 154 + 10 * x + y = 154 + (10 + 10 * x + y - 10) by omega]
        exact h0
      · rw [s120, z 120 (by omega)]
        exact d2
    · obtain ⟨v1, d2, v2, v3⟩ := b.1 v' (by omega)
      refine ⟨fun x y hx hy h0 => ?_, d2, v2, ?_⟩
      · rw [n1] at hx hy
        rw [wt x hx, wt y hy]
        rw [s10, z _ (by omega)] at h0
        refine v1 x y hx hy ?_
        unfold q_slt at h0
        rw [show 348 + 122 * v' + 10 + 10 * x + y = 348 + 122 * v' + (10 + 10 * x + y) by omega]
        exact h0
      · rw [s120, z 120 (by omega)]
        exact v3
  · rw [n1] at hp
    rw [wt p hp]
    exact b.2.1 p hp
  · rw [n2, o 2 (by omega) (by omega) (by omega) (by omega) (by omega) (by omega)]
    exact c.1
  · rw [n2] at hq
    have c8 := c.2.1
    have z := o (140 + q) (by omega) (by omega) (by omega) (by omega) (by omega) (by omega)
    rw [s_n_cg z, z, n0]
    exact c.2.2 q hq
  · rw [n1] at hp
    have z := o (10 + 5 * p + 2) (by omega) (by omega) (by omega) (by omega) (by omega) (by omega)
    rw [s_n_cg z, z, n0]
    exact d p hp
  · rw [n1] at hp
    rw [o _ (by omega) (by omega) (by omega) (by omega) (by omega) (by omega)]
    exact f p hp
  · rw [o 8 (by omega) (by omega) (by omega) (by omega) (by omega) (by omega)]
    exact gg
  · rw [o 3 (by omega) (by omega) (by omega) (by omega) (by omega) (by omega)]
    exact dd
  · rw [o 7 (by omega) (by omega) (by omega) (by omega) (by omega) (by omega)]
    exact i
theorem z_go {G : qx_G} {n : Nat} {σ : qx_S} (h : zZ n σ) (hn : n ≤ 900) : zO G YX11_go YX12_go [] n σ := by
  obtain ⟨S, nr, Rs, T, J, e, ow, k⟩ := h.k
  have g := k.g
  have xx := k.2.2.1
  have he := k.2.2.2.2.1
  have hC := k.I.1.2.2.1
  have hU := k.I.1.2.2.2.2.1
  rcases Nat.lt_or_ge (s_n S 4) 2 with z | z
  · exact zPair0 h (by decide) (by decide) (c_go_no k.I z) (m_go_no k.2.1.1 hC z)
  · by_cases hl : q_lb S (q_rf nr Rs (S 7)) none (q_cm S) (s_n S 4) = 0
    · have g1 := xx.go k.I.1 rfl z
      have e7 : (q_go S (s_n S 9)).1 7 = S 7 := by
        have hpe := k.I.1.pe
        rw [q_go_eq]
        show q_dne (q_cm S) (s_n S 4) (va_up (q_kp2 S (s_n S 9)) 4 (nI 0)) 7 = S 7
        exact (q_dne_o (fun q hq => Nat.lt_of_lt_of_le (hC.2.2 q hq).2 hpe) (by omega) (by omega) (by omega)).trans ((va_up_ne _ _ (by omega)).trans (q_kp2_lo (by omega) (by omega)))
      have c1 := c_go_ok (G := G) k.I (by omega) z hl rfl
      rw [← e7] at c1
      refine k.ul (v := (q_go S (s_n S 9)).2) g1 (by decide) (by decide) (qx_M_mono c1 (fun r s w => ?_)) (fun s hM hX => qx_M_mono (m_go_ok hX g hC z hU.2 hU.1) (fun r s' w => ?_))
      · obtain ⟨w1, ⟨j, j1, j2⟩, w3⟩ := w
        refine ⟨w1, ⟨_, j2, ?_, ?_⟩, w3⟩
        · rcases (show j = 0 ∨ j = 1 ∨ j = 2 ∨ j = 3 ∨ j = 4 ∨ j = 5 ∨ j = 6 ∨ j = 7 ∨ j = 8 ∨ j = 9 ∨ j = 10 ∨ j = 11 ∨ j = 12 ∨ j = 13 ∨ j = 14 ∨ j = 15 ∨ j = 16 ∨ j = 17 ∨ j = 18 ∨ j = 19 by omega) with z | z | z | z | z | z | z | z | z | z | z | z | z | z | z | z | z | z | z | z <;> (rw [z]; rfl)
        · exact ⟨pL_ne (by simp; omega), fun j' => pL_ne (by simp; omega), fun x j' h => pL_ne (by simp; omega), fun x j' h => pL_ne (by simp; omega)⟩
      · obtain ⟨-, w2, w3⟩ := w
        obtain ⟨y1, y2⟩ := w2 hl
        exact ⟨y1, ⟨_, w3, rfl⟩, y2, (w3.i _ _ rfl).trans hM.2.1, (w3.i _ _ rfl).trans hM.2.2.1, fun t ht => (hM.2.2.2.1 t ht).fr w3 (fun _ => rfl) (fun _ => rfl) (fun _ => rfl), hM.2.2.2.2.1.fr w3 rfl (fun _ => rfl), fun q hq => ⟨fun y => (w3.i _ _ rfl).trans ((hM.2.2.2.2.2 q hq).1 y), fun I y => ⟨(w3.i _ _ rfl).trans ((hM.2.2.2.2.2 q hq).2 I y).1, fun j hj => (w3.i _ _ rfl).trans (((hM.2.2.2.2.2 q hq).2 I y).2 j hj)⟩⟩⟩
    · exact k.a (v := -2 - nI (q_lb S (q_rf nr Rs (S 7)) none (q_cm S) (s_n S 4))) (by decide) (by decide) (qx_M_mono (c_go_law k.I z (by omega)) (fun r s w => ⟨w.1, k.q w.2.1 rfl kLw_k w.2.2⟩)) (fun s hM hX => qx_M_mono (m_go_ok hX g hC z hU.2 hU.1) (fun r s' w => ⟨(w.1 (by omega)).1, hM.q w.2.2 rfl (w.1 (by omega)).2 ((w.2.2.i _ _ rfl).trans hM.2.2.1)⟩))
