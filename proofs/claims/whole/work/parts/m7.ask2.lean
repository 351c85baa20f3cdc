/-! THE ASKING CALLS: most, core, blocks, doctors, lies, years, count -/
theorem kYa_k : kWk (pL kYa) := ⟨rfl, fun _ => rfl, fun x j h => pL_ne (by simp; omega), fun x j h => pL_ne (by simp; omega)⟩
theorem z_most {G : qx_G} {n : Nat} {σ : qx_S} (h : zZ n σ) (x w : Int32) : zO G YX11_most YX12_most [.int x, .int w] n σ := by
  obtain ⟨S, nr, Rs, T, J, e, ow, k⟩ := h.k
  have g := k.g
  have h9 := k.I.2.2.2.2.2.2.2.2
  cases hb : (decide (0 < s_n S 0) && q_in64 x.toInt64 (lN 2) (lN 4) && q_in64 w.toInt64 (lN 0) (lN 1)) with
  | false => exact zPair0 h (by decide) (by decide) (c_most_no k.I hb) (m_most_no k.2.1.1 g.1.1 g.1.2 hb)
  | true =>
    rw [Bool.and_eq_true, Bool.and_eq_true] at hb
    have hc := of_decide_eq_true hb.1.1
    obtain ⟨p, hp, hp2, rfl⟩ := q_in_t (by decide) (by decide) hb.1.2
    obtain ⟨m, -, hm, rfl⟩ := q_in_t (by decide) (by decide) hb.2
    exact k.a (by decide) (by decide) (qx_M_mono (c_most_ok k.I k.1.1.2.1 k.1.1.2.2.1 hc hp hp2 hm) (fun r s z => ⟨z.1, k.1.q1 k.2.1 z.2.1 rfl ⟨z.2.2.1, z.2.2.2.1, z.2.2.2.2, k.1.1.2.2.2.1.fr z.2.1 (fun _ => rfl) (fun _ => rfl), k.1.1.2.2.2.2.fr z.2.1 (fun _ => rfl) (fun _ => rfl)⟩⟩)) (fun s hM hX => qx_M_mono (m_most_ok hX g hc hp hp2 hm) (fun r s' z => ⟨z.1, hM.q1 z.2 rfl (fun _ => rfl) rfl⟩))
theorem z_mostOf {G : qx_G} {n : Nat} {σ : qx_S} (h : zZ n σ) (x w : Int32) : zO G YX11_mostOf YX12_mostOf [.int x, .int w] n σ := by
  obtain ⟨S, nr, Rs, T, J, e, ow, k⟩ := h.k
  have g := k.g
  have h10 := g.2.1.2
  cases hb : (q_is w (s_n S 1) && q_in64 x.toInt64 (lN 2) (lN 4)) with
  | false => exact zPair0 h (by decide) (by decide) (c_mostOf_no k.I hb) (m_mostOf_no k.2.1.1 g.2.1.1 hb)
  | true =>
    rw [Bool.and_eq_true] at hb
    obtain ⟨p, hp, hp2, rfl⟩ := q_in_t (by decide) (by decide) hb.2
    obtain ⟨m, hm, rfl⟩ := q_is_t hb.1 (by omega)
    exact k.a (by decide) (by decide) (qx_M_mono (c_mostOf_ok k.I k.1.1.2.1 k.1.1.2.2.1 hp hp2 hm) (fun r s z => ⟨z.1, k.1.q1 k.2.1 z.2.1 rfl ⟨z.2.2.1, z.2.2.2.1, z.2.2.2.2, k.1.1.2.2.2.1.fr z.2.1 (fun _ => rfl) (fun _ => rfl), k.1.1.2.2.2.2.fr z.2.1 (fun _ => rfl) (fun _ => rfl)⟩⟩)) (fun s hM hX => qx_M_mono (m_mostOf_ok hX g hp hp2 hm) (fun r s' z => ⟨z.1, hM.q1 z.2 rfl (fun _ => rfl) rfl⟩))
theorem z_core {G : qx_G} {n : Nat} {σ : qx_S} (h : zZ n σ) (x : Int32) : zO G YX11_core YX12_core [.int x] n σ := by
  obtain ⟨S, nr, Rs, T, J, e, ow, k⟩ := h.k
  have g := k.g
  have h10 := g.2.1.2
  cases hb : q_is x (s_n S 1) with
  | false => exact zPair0 h (by decide) (by decide) (c_core_no k.I hb) (m_core_no k.2.1.1 g.2.1.1 hb)
  | true =>
    obtain ⟨m, hm, rfl⟩ := q_is_t hb (by omega)
    exact k.a (by decide) (by decide) (qx_M_mono (c_core_ok k.I k.1.1.2.1 hm) (fun r s z => ⟨z.1, k.1.q1 k.2.1 z.2.1 rfl ⟨z.2.2.1, z.2.2.2, k.1.1.2.2.1.fr z.2.1 (fun x j h => pL_ne (by simp; omega)), k.1.1.2.2.2.1.fr z.2.1 (fun _ => rfl) (fun _ => rfl), k.1.1.2.2.2.2.fr z.2.1 (fun _ => rfl) (fun _ => rfl)⟩⟩)) (fun s hM hX => qx_M_mono (m_core_ok hX g hm) (fun r s' z => ⟨z.1, hM.q1 z.2 rfl (fun _ => rfl) rfl⟩))
theorem z_blocks {G : qx_G} {n : Nat} {σ : qx_S} (h : zZ n σ) (x : Int32) : zO G YX11_blocks YX12_blocks [.int x] n σ := by
  obtain ⟨S, nr, Rs, T, J, e, ow, k⟩ := h.k
  have g := k.g
  cases hb : (decide (0 < s_n S 0) && (decide (x = 0) || q_in64 x.toInt64 (lN 2) (lN 4))) with
  | false => exact zPair0 h (by decide) (by decide) (c_blocks_no k.I hb) (m_blocks_no k.2.1.1 g.1.1 g.1.2 hb)
  | true =>
    rw [Bool.and_eq_true, Bool.or_eq_true] at hb
    have hc := of_decide_eq_true hb.1
    rcases hb.2 with z | z
    · have z := of_decide_eq_true z
      subst z
      exact k.a (by decide) (by decide) (qx_M_mono (c_blocks_0 k.I k.1.1.2.1 k.1.1.2.2.1 hc) (fun r s z => ⟨z.1, k.1.q1 k.2.1 z.2.1 rfl ⟨z.2.2.1, z.2.2.2.1, z.2.2.2.2, k.1.1.2.2.2.1.fr z.2.1 (fun _ => rfl) (fun _ => rfl), k.1.1.2.2.2.2.fr z.2.1 (fun _ => rfl) (fun _ => rfl)⟩⟩)) (fun s hM hX => qx_M_mono (m_blocks_0 hX g hc) (fun r s' z => ⟨z.1, hM.q1 z.2 rfl (fun _ => rfl) rfl⟩))
    · obtain ⟨p, hp, hp2, rfl⟩ := q_in_t (by decide) (by decide) z
      exact k.a (by decide) (by decide) (qx_M_mono (c_blocks_k k.I k.1.1.2.1 k.1.1.2.2.1 hc hp hp2) (fun r s z => ⟨z.1, k.1.q1 k.2.1 z.2.1 rfl ⟨z.2.2.1, z.2.2.2.1, z.2.2.2.2, k.1.1.2.2.2.1.fr z.2.1 (fun _ => rfl) (fun _ => rfl), k.1.1.2.2.2.2.fr z.2.1 (fun _ => rfl) (fun _ => rfl)⟩⟩)) (fun s hM hX => qx_M_mono (m_blocks_k hX g hc hp hp2) (fun r s' z => ⟨z.1, hM.q1 z.2 rfl (fun _ => rfl) rfl⟩))
theorem z_doctors {G : qx_G} {n : Nat} {σ : qx_S} (h : zZ n σ) (x : Int32) : zO G YX11_doctors YX12_doctors [.int x] n σ := by
  obtain ⟨S, nr, Rs, T, J, e, ow, k⟩ := h.k
  have g := k.g
  have hL := k.2.2.1.2.2.1
  cases hb : (decide (0 < s_n S 0) && (decide (x = -1) || q_in64 x.toInt64 (lN 0) (lN 8))) with
  | false => exact zPair0 h (by decide) (by decide) (c_doctors_no k.I hb) (m_doctors_no k.2.1.1 g.1.1 g.1.2 hb)
  | true =>
    rw [Bool.and_eq_true, Bool.or_eq_true] at hb
    have hc := of_decide_eq_true hb.1
    rcases hb.2 with z | z
    · have z := of_decide_eq_true z
      subst z
      exact k.a (by decide) (by decide) (qx_M_mono (c_doctors_m1 k.I hL hc) (fun r s z => ⟨z.1, k.q z.2.1 rfl kFs_k z.2.2⟩)) (fun s hM hX => qx_M_mono (m_doctors_m1 hX g hL hc) (fun r s' z => ⟨z.1, hM.q1 z.2 rfl (fun _ => rfl) rfl⟩))
    · obtain ⟨p, -, hp2, rfl⟩ := q_in_t (by decide) (by decide) z
      exact k.a (by decide) (by decide) (qx_M_mono (c_doctors_ok k.I hL hc hp2) (fun r s z => ⟨z.1, k.q z.2.1 rfl kFs_k z.2.2⟩)) (fun s hM hX => qx_M_mono (m_doctors_ok hX g hL hc hp2) (fun r s' z => ⟨z.1, hM.q1 z.2 rfl (fun _ => rfl) rfl⟩))
theorem z_served {G : qx_G} {n : Nat} {σ : qx_S} (h : zZ n σ) (x : Int32) : zO G YX11_served YX12_served [.int x] n σ := by
  obtain ⟨S, nr, Rs, T, J, e, ow, k⟩ := h.k
  have g := k.g
  have hL := k.2.2.1.2.2.1
  have h8 : 2 ^ s_n S 0 ≤ 2 ^ 8 := Nat.pow_le_pow_right (by decide) g.1.2
  cases hb : (decide (0 < s_n S 0) && q_is x (2 ^ s_n S 0)) with
  | false => exact zPair0 h (by decide) (by decide) (c_served_no k.I hb) (m_served_no k.2.1.1 g.1.1 g.1.2 hb)
  | true =>
    rw [Bool.and_eq_true] at hb
    have hc := of_decide_eq_true hb.1
    obtain ⟨p, hp, rfl⟩ := q_is_t hb.2 (by omega)
    exact k.a (by decide) (by decide) (qx_M_mono (c_served_ok k.I hL hc hp) (fun r s z => ⟨z.1, k.q z.2.1 rfl kFs_k z.2.2⟩)) (fun s hM hX => qx_M_mono (m_served_ok hX g hL hc hp) (fun r s' z => ⟨z.1, hM.q1 z.2 rfl (fun _ => rfl) rfl⟩))
theorem z_liars {G : qx_G} {n : Nat} {σ : qx_S} (h : zZ n σ) (x : Int32) : zO G YX11_liars YX12_liars [.int x] n σ := by
  obtain ⟨S, nr, Rs, T, J, e, ow, k⟩ := h.k
  have g := k.g
  cases hb : (decide (0 < s_n S 0) && q_in64 x.toInt64 (lN 0) (lN 1)) with
  | false => exact zPair0 h (by decide) (by decide) (c_liars_no k.I hb) (m_liars_no k.2.1.1 g.1.1 g.1.2 hb)
  | true =>
    rw [Bool.and_eq_true] at hb
    have hc := of_decide_eq_true hb.1
    obtain ⟨p, -, hp, rfl⟩ := q_in_t (by decide) (by decide) hb.2
    rcases (show p = 0 ∨ p = 1 by omega) with rfl | rfl
    · exact k.a (by decide) (by decide) (qx_M_mono (c_liars0_ok k.1.1 hc) (fun r s z => ⟨z.1, k.1.q1 k.2.1 z.2.1 rfl z.2.2⟩)) (fun s hM hX => qx_M_mono (m_liars_ok hX g hc hp) (fun r s' z => ⟨z.1, hM.q2 z.2.1 rfl z.2.2⟩))
    · exact k.a (by decide) (by decide) (qx_M_mono (c_liars1_ok k.1.1 hc) (fun r s z => ⟨z.1, k.1.q1 k.2.1 z.2.1 rfl z.2.2⟩)) (fun s hM hX => qx_M_mono (m_liars_ok hX g hc hp) (fun r s' z => ⟨z.1, hM.q2 z.2.1 rfl z.2.2⟩))
theorem z_lie {G : qx_G} {n : Nat} {σ : qx_S} (h : zZ n σ) (w x : Int32) : zO G YX11_lie YX12_lie [.int w, .int x] n σ := by
  obtain ⟨S, nr, Rs, T, J, e, ow, k⟩ := h.k
  have g := k.g
  have h10 := g.2.1.2
  cases hb : (q_in64 w.toInt64 (lN 0) (lN 1) && q_is x (s_n S 1)) with
  | false => exact zPair0 h (by decide) (by decide) (c_lie_no k.I hb) (m_lie_no k.2.1.1 g.2.1.1 hb)
  | true =>
    rw [Bool.and_eq_true] at hb
    obtain ⟨m, hm, rfl⟩ := q_is_t hb.2 (by omega)
    obtain ⟨p, -, hp, rfl⟩ := q_in_t (by decide) (by decide) hb.1
    rcases (show p = 0 ∨ p = 1 by omega) with rfl | rfl
    · exact k.a (by decide) (by decide) (qx_M_mono (c_lie0_ok k.1.1 hm) (fun r s z => ⟨z.1, k.1.q1 k.2.1 z.2.1 rfl z.2.2⟩)) (fun s hM hX => qx_M_mono (m_lie_ok hX g hp hm) (fun r s' z => ⟨z.1, hM.q2 z.2.1 rfl z.2.2⟩))
    · exact k.a (by decide) (by decide) (qx_M_mono (c_lie1_ok k.1.1 hm) (fun r s z => ⟨z.1, k.1.q1 k.2.1 z.2.1 rfl z.2.2⟩)) (fun s hM hX => qx_M_mono (m_lie_ok hX g hp hm) (fun r s' z => ⟨z.1, hM.q2 z.2.1 rfl z.2.2⟩))
theorem z_years {G : qx_G} {n : Nat} {σ : qx_S} (h : zZ n σ) (x y w : Int32) : zO G YX11_years YX12_years [.int x, .int y, .int w] n σ := by
  obtain ⟨S, nr, Rs, T, J, e, ow, k⟩ := h.k
  have g := k.g
  have h10 := g.2.1.2
  obtain ⟨sd, hsd, e8⟩ := k.2.2.1.2.2.2.2.2.1
  cases hb : (!decide (s_n S 1 = 0) && q_in64 x.toInt64 (lN 1) (lN 20) && q_in64 y.toInt64 (lN 1) (lN 200) && q_in64 w.toInt64 (lN 0) (lN 2)) with
  | false => exact zPair0 h (by decide) (by decide) (c_years_no k.I hb) (m_years_no k.2.1.1 g.2.1.1 h10 hb)
  | true =>
    rw [Bool.and_eq_true, Bool.and_eq_true, Bool.and_eq_true] at hb
    have h0 : ¬ s_n S 1 = 0 := fun z => by have w := hb.1.1.1; rw [decide_eq_true z] at w; cases w
    obtain ⟨a, a1, a2, rfl⟩ := q_in_t (by decide) (by decide) hb.1.1.2
    obtain ⟨b, b1, b2, rfl⟩ := q_in_t (by decide) (by decide) hb.1.2
    obtain ⟨c, -, c2, rfl⟩ := q_in_t (by decide) (by decide) hb.2
    exact k.a (by decide) (by decide) (qx_M_mono (c_years_ok k.I (by omega) hsd e8 a1 a2 b1 b2 c2) (fun r s z => ⟨z.1, k.1.q2 k.2.1 z.2.1 rfl (k.1.1.k z.2.1.k kYa_k z.2.2)⟩)) (fun s hM hX => qx_M_mono (m_years_ok hX g (by omega) hsd e8 a1 a2 b1 b2 c2) (fun r s' z => ⟨z.1, hM.q2 z.2.1 rfl z.2.2⟩))
theorem z_count {G : qx_G} {n : Nat} {σ : qx_S} (h : zZ n σ) (x : Int32) : zO G YX11_count YX12_count [.int x] n σ := by
  obtain ⟨S, nr, Rs, T, J, e, ow, k⟩ := h.k
  have g := k.g
  have hS := k.2.1.1
  have h10 := g.2.1.2
  have e1 := g.2.1.1
  by_cases z : ∃ w, w ≤ 13 ∧ x = nI w
  · obtain ⟨w, hw, rfl⟩ := z
    rcases (show w = 0 ∨ w = 1 ∨ w = 2 ∨ w = 3 ∨ w = 4 ∨ w = 5 ∨ w = 6 ∨ w = 7 ∨ w = 8 ∨ w = 9 ∨ w = 10 ∨ w = 11 ∨ w = 12 ∨ w = 13 by omega) with rfl | rfl | rfl | rfl | rfl | rfl | rfl | rfl | rfl | rfl | rfl | rfl | rfl | rfl
    · exact zPair0 h (by decide) (by decide) (c_count_0 k.I) (m_count_0 hS)
    · exact zPair0 h (by decide) (by decide) (c_count_1 k.I) (m_count_1 hS)
    · exact zPair0 h (by decide) (by decide) (c_count_2 k.I) (m_count_2 hS)
    · exact zPair0 h (by decide) (by decide) (c_count_3 k.1.2.2.2.1.1.1) (m_count_3 k.2.1.2.1)
    · exact zPair0 h (by decide) (by decide) (c_count_4 k.I) (m_count_4 hS)
    · exact zPair0 h (by decide) (by decide) (c_count_5 k.I) (m_count_5 hS)
    · exact zPair0 h (by decide) (by decide) (c_count_6 k.I) (m_count_6 hS)
    · exact zPair0 h (by decide) (by decide) (c_count_7 k.I) (m_count_7 hS)
    · exact zPair0 h (by decide) (by decide) (c_count_8 k.I) (m_count_8 hS)
    · exact zPair0 h (by decide) (by decide) (c_count_9 k.I) (m_count_9 hS e1 h10)
    · exact zPair0 h (by decide) (by decide) (c_count_10 k.I k.2.2.1.2.2.2.2.1) (m_count_10 hS e1 h10)
    · exact zPair0 h (by decide) (by decide) (c_count_11 k.I) (m_count_11 hS)
    · exact zPair0 h (by decide) (by decide) (c_count_12 k.I) (m_count_12 hS)
    · exact zPair0 h (by decide) (by decide) (c_count_13 k.1.2.2.2.2.2.1.1) (m_count_13 k.2.1.2.2.2.2.1.1)
  · have z2 : ∀ w, w ≤ 13 → ¬ x = nI w := fun w hw e => z ⟨w, hw, e⟩
    exact zPair0 h (by decide) (by decide) (c_count_no z2) (m_count_no z2)
