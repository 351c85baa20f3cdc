/-! force, strike, undo -/
theorem qk.rfl' {P R : Nat → Nat → Bool} {σ : qx_S} : qk P R σ σ := ⟨Nat.le_refl _, fun _ _ => rfl, fun _ _ _ _ _ => rfl, fun _ _ _ _ => rfl⟩
/-- the rule in force and the edition written -/
theorem po_f {σ s : qx_S} {v : Option Nat} {w : Int32} (e : s = qx_wi (qx_wr σ 156 7 v) 156 8 w) : po s = po σ ∧ pcl s = pcl σ := by
  have r1 : qx_mr s 156 5 = qx_mr σ 156 5 := by rw [e]; exact (if_neg (show ¬ (156 = 156 ∧ 5 = 7) by decide) : (if 156 = 156 ∧ 5 = 7 then v else σ.2.2.2.2.2 156 5) = σ.2.2.2.2.2 156 5)
  have r2 : qx_mr s 3 17 = qx_mr σ 3 17 := by rw [e]; exact (if_neg (show ¬ (3 = 156 ∧ 17 = 7) by decide) : (if 3 = 156 ∧ 17 = 7 then v else σ.2.2.2.2.2 3 17) = σ.2.2.2.2.2 3 17)
  have r3 : qx_mr s 3 18 = qx_mr σ 3 18 := by rw [e]; exact (if_neg (show ¬ (3 = 156 ∧ 18 = 7) by decide) : (if 3 = 156 ∧ 18 = 7 then v else σ.2.2.2.2.2 3 18) = σ.2.2.2.2.2 3 18)
  have a1 : s.1 = σ.1 := by rw [e]; rfl
  have a2 : s.2.1 = σ.2.1 := by rw [e]; rfl
  unfold po pcl qq
  rw [r1, r2, r3, a1, a2]
  exact ⟨rfl, rfl⟩
theorem kR_f : kR0 (fun a j => decide (a = 156 ∧ j = 7)) := ⟨rfl, rfl, rfl, fun i => decide_eq_false (by omega), fun k => decide_eq_false (by omega), fun x j hx => decide_eq_false (by omega)⟩
theorem z_force {G : qx_G} {n : Nat} {σ : qx_S} (h : zZ n σ) (hn : n ≤ 900) (x : Int32) : zO G YX11_force YX12_force [.int x] n σ := by
  obtain ⟨S, nr, Rs, T, J, e, ow, k⟩ := h.k
  have g := k.g
  have xx := k.2.2.1
  have he := k.2.2.2.2.1
  by_cases hx : x = -1 ∨ q_is x nr = true
  · have e7 : va_up S 7 x 7 = x := va_up_self _ _ _
    have c1 := c_force_ok (G := G) k.I (by omega) k.1.2.2.2.1.1 hx
    rw [show q_rf nr Rs x = q_rf nr Rs (va_up S 7 x 7) by rw [e7]] at c1
    refine k.up (xx.st g (fun i hi => va_up_ne _ _ (by omega)) (xx.1.cg g (fun i hi => va_up_ne _ _ (by omega))) (by rw [va_up_ne _ _ (by omega)]; exact xx.2.2.2.2.2.2.1) (by rw [e7]; exact hx)) (by decide) (by decide) (qx_M_mono c1 (fun r s z => ?_)) (fun s hM hX => qx_M_mono (m_force_ok hM.1 hM.2.1 hx) (fun r s' z => ⟨z.1, hM.w z.2.1 z.2.2⟩))
    obtain ⟨z1, ⟨v, z2⟩, z3⟩ := z
    have f0 : qk (pL [(15, some 9), (156, some 8)]) (fun a j => decide (a = 156 ∧ j = 7)) σ (qx_wi σ 15 9 x) := qk.wi qk.rfl' rfl rfl
    have f1 : qk (pL [(15, some 9), (156, some 8)]) (fun a j => decide (a = 156 ∧ j = 7)) σ s := qk.wi (qk.wr f0 rfl rfl) z2 rfl
    obtain ⟨p1, p2⟩ := po_f z2
    have q1 : po (qx_wi σ 15 9 x) = po σ := rfl
    have q2 : pcl (qx_wi σ 15 9 x) = pcl σ := rfl
    have no : ∀ x j, x ≠ 15 → x ≠ 156 → pL [(15, some 9), (156, some 8)] x j = false := fun x j h1 h2 => pL_ne (by simp; omega)
    exact ⟨z1, ⟨_, _, f1, ⟨rfl, fun x j h _ => no x j (by omega) (by omega)⟩, ⟨rfl, fun _ => rfl, fun x j h => no x j (by omega) (by omega), fun x j h => no x j (by omega) (by omega)⟩, kR_f⟩, by omega, by omega, k.1.2.2.2.2.2.1.k k.I.2.2.2.2.2.2.2.2 f1 rfl (fun _ => rfl), z3⟩
  · have h1 : ¬ x = -1 := fun z => hx (Or.inl z)
    have h2 : q_is x nr = false := Bool.eq_false_iff.mpr (fun z => hx (Or.inr z))
    exact zPair0 h (by decide) (by decide) (c_force_no k.1.2.2.2.1.1 h1 h2) (m_force_no k.2.1.2.1 h1 h2)
theorem z_strike {G : qx_G} {n : Nat} {σ : qx_S} (h : zZ n σ) (hn : n ≤ 900) : zO G YX11_strike YX12_strike [] n σ := by
  obtain ⟨S, nr, Rs, T, J, e, ow, k⟩ := h.k
  have g := k.g
  have xx := k.2.2.1
  have he := k.2.2.2.2.1
  have h9 := k.I.2.2.2.2.2.2.2.2
  by_cases h0 : s_n S 0 = 0
  · exact zPair0 h (by decide) (by decide) (c_strike_no k.I h0) (m_strike_no k.2.1.1 (by rw [g.1.1, h0]))
  · refine k.up xx (by decide) (by decide) (qx_M_mono (c_strike_ok k.I (by omega) (by omega) xx.1) (fun r s z => ?_)) (fun s hM hX => qx_M_mono (m_strike_ok hM.1 g xx.1 (by omega)) (fun r s' z => ⟨z.1, hM.q1 z.2 rfl (fun _ => rfl) rfl⟩))
    obtain ⟨z1, ⟨s1, q, n1, m1, f⟩, z3⟩ := z
    have f0 : qk (pL [(156, some 8)]) (fun _ _ => false) σ s1 := ⟨q.1, q.2.1, fun a j ha _ _ => (q.2.2 a j ha).2.1, fun a j ha _ => (q.2.2 a j ha).1⟩
    have f1 : qk (pL [(156, some 8)]) (fun _ _ => false) σ s := f0.tr (qf.k f)
    have r := qf.rm f
    have q1 : ∀ a j m, a < 229 → qq s1 a j m = qq σ a j m := fun a j m ha => by
      unfold qq
      rw [(q.2.2 a j (by omega)).1]
    have r1 : po s1 = po σ + 20 ∧ pcl s1 = pcl σ + 2 := by
      unfold po pcl
      rw [q1 _ _ _ (by omega), q1 _ _ _ (by omega), q1 _ _ _ (by omega), q1 _ _ _ (by omega), q1 _ _ _ (by omega), q1 _ _ _ (by omega), n1, m1]
      omega
    have no : ∀ x j, x ≠ 156 → pL [(156, some 8)] x j = false := fun x j h2 => pL_ne (by simp; omega)
    exact ⟨z1, ⟨_, _, f1, ⟨rfl, fun x j h _ => no x j (by omega)⟩, ⟨rfl, fun _ => rfl, fun x j h => no x j (by omega), fun x j h => no x j (by omega)⟩, ⟨rfl, rfl, rfl, fun _ => rfl, fun _ => rfl, fun _ _ _ => rfl⟩⟩, by omega, by omega, k.1.2.2.2.2.2.1.k h9 f1 rfl (fun _ => rfl), z3⟩
theorem gX.un {S : qS} {nr u : Nat} (h : gX S nr) (gs : gS S) (eu : s_n S 9 = u + 1) (hu : u < 20) : gX (q_un S u) nr := by
  obtain ⟨a, b, c, d, f, g, -, i⟩ := h
  have h10 := gs.2.1.2
  have o : ∀ i, i ≠ 3 → i ≠ 6 → i ≠ 9 → ¬ (10 ≤ i ∧ i < 60 ∧ ((i - 10) % 5 = 0 ∨ (i - 10) % 5 = 4)) → ¬ (154 ≤ i ∧ i < 254) → q_un S u i = S i := fun i h3 h6 h9 h1 h2 => q_un_o h3 h6 h9 h1 h2
  have n0 : s_n (q_un S u) 0 = s_n S 0 := s_n_cg (o 0 (by omega) (by omega) (by omega) (by omega) (by omega))
  have n1 : s_n (q_un S u) 1 = s_n S 1 := s_n_cg (o 1 (by omega) (by omega) (by omega) (by omega) (by omega))
  have n2 : s_n (q_un S u) 2 = s_n S 2 := s_n_cg (o 2 (by omega) (by omega) (by omega) (by omega) (by omega))
  have n9 : s_n (q_un S u) 9 = u := by unfold s_n; rw [q_un_9]; exact nI_clamp (by omega)
  obtain ⟨w1, dd, w2, w3⟩ := b.1 u (by omega)
  refine ⟨fun x y hx hy h0 => ?_, ⟨fun v hv => ?_, fun p hp => ?_, fun j hj => (o j (by omega) (by omega) (by omega) (by omega) (by omega)).trans (b.2.2 j hj)⟩, ⟨?_, by rw [n2]; exact c.2.1, fun q hq => ?_⟩, fun p hp => ?_, fun p hp => ?_, ?_, ⟨dd, w2, ?_⟩, ?_⟩
  · rw [n1] at hx hy
    rw [o (10 + 5 * y + 1) (by omega) (by omega) (by omega) (by omega) (by omega), o (10 + 5 * x + 1) (by omega) (by omega) (by omega) (by omega) (by omega)]
    refine w1 x y hx hy ?_
    have e := q_un_nw (S := S) (u := u) (j := 10 + 10 * x + y) (by omega)
    rw [show q_nw (q_un S u) (10 + 10 * x + y) = q_un S u (154 + (10 + 10 * x + y - 10)) by unfold q_nw; rw [if_neg (by omega), if_pos (by omega)], show 154 + (10 + 10 * x + y - 10) = 154 + 10 * x + y by omega] at e
    rw [e] at h0
    unfold q_slt at h0
    rw [show 348 + 122 * u + 10 + 10 * x + y = 348 + 122 * u + (10 + 10 * x + y) by omega]
    exact h0
  · rw [n9] at hv
    obtain ⟨v1, d2, v2, v3⟩ := b.1 v (by omega)
    refine ⟨fun x y hx hy => ?_, d2, v2, (o _ (by omega) (by omega) (by omega) (by omega) (by omega)).trans v3⟩
    rw [n1] at hx hy
    rw [o (10 + 5 * y + 1) (by omega) (by omega) (by omega) (by omega) (by omega), o (10 + 5 * x + 1) (by omega) (by omega) (by omega) (by omega) (by omega), o (348 + 122 * v + 10 + 10 * x + y) (by omega) (by omega) (by omega) (by omega) (by omega)]
    exact v1 x y hx hy
  · rw [n1] at hp
    rw [o _ (by omega) (by omega) (by omega) (by omega) (by omega)]
    exact b.2.1 p hp
  · rw [n2, o 2 (by omega) (by omega) (by omega) (by omega) (by omega)]
    exact c.1
  · rw [n2] at hq
    have c8 := c.2.1
    have z := o (140 + q) (by omega) (by omega) (by omega) (by omega) (by omega)
    rw [s_n_cg z, z, n0]
    exact c.2.2 q hq
  · rw [n1] at hp
    have z := o (10 + 5 * p + 2) (by omega) (by omega) (by omega) (by omega) (by omega)
    rw [s_n_cg z, z, n0]
    exact d p hp
  · rw [n1] at hp
    rw [o _ (by omega) (by omega) (by omega) (by omega) (by omega)]
    exact f p hp
  · rw [o 8 (by omega) (by omega) (by omega) (by omega) (by omega)]
    exact g
  · exact w3
  · rw [o 7 (by omega) (by omega) (by omega) (by omega) (by omega)]
    exact i
theorem z_undo {G : qx_G} {n : Nat} {σ : qx_S} (h : zZ n σ) (hn : n ≤ 900) : zO G YX11_undo YX12_undo [] n σ := by
  obtain ⟨S, nr, Rs, T, J, e, ow, k⟩ := h.k
  have g := k.g
  have xx := k.2.2.1
  have he := k.2.2.2.2.1
  have hU := k.I.1.2.2.2.2.1
  cases eu : s_n S 9 with
  | zero => exact zPair0 h (by decide) (by decide) (c_undo_no k.I eu) (m_undo_no k.2.1.1 (by rw [hU.1, eu]))
  | succ u =>
    have hu := hU.2
    have e7 : q_un S u 7 = S 7 := q_un_o (by omega) (by omega) (by omega) (by omega) (by omega)
    have c1 := c_undo_ok (G := G) k.I (by omega) eu
    rw [← e7] at c1
    exact k.ul (xx.un g eu (by omega)) (by decide) (by decide) (qx_M_mono c1 (fun r s z => ⟨z.1, ⟨_, z.2.1, rfl, rfl, fun _ => rfl, fun x j h => pL_ne (by simp; omega), fun x j h => pL_ne (by simp; omega)⟩, z.2.2⟩)) (fun s hM hX => qx_M_mono (m_undo_ok hM.1 (by omega) (by rw [hU.1, eu])) (fun r s' z => ⟨z.1, hM.w z.2.1 z.2.2⟩))
