/-! THE ASKING CALLS: the searches -/
theorem kQJ_no {b x j : Nat} (hb : 229 ≤ b) (h : (191 ≤ x ∧ ¬ (b ≤ x ∧ x ≤ b + 6)) ∨ (x ≤ 190 ∧ x ≠ 188 ∧ x ≠ 157 ∧ x ≠ 158 ∧ x ≠ 159)) : pL (kQJ b) x j = false := pL_ne (by simp; omega)
theorem zC.j {σ s : qx_S} {S : qS} {rf : Option qR} {e fld w t : Nat} {ow : Nat → Nat} (hft : fld = 17 ∨ fld = 18) (h2 : cSw σ ow S rf e fld w t) (h9 : 229 ≤ σ.1) (h : jF σ S rf e fld w s) : ∃ P, qk P (fun a j => decide ((a = 156 ∧ j = 5) ∨ (a = 3 ∧ j = fld))) σ s ∧ (∀ x j, 191 ≤ x → x < σ.1 → ow x ≠ t → P x j = false) ∧ (∀ x j, x ≤ 190 ∧ x ≠ 188 ∧ x ≠ 157 ∧ x ≠ 158 ∧ x ≠ 159 → P x j = false) ∧ cSw s (fun x => if σ.1 ≤ x then t else ow x) S rf e fld w t ∧ cI s S rf e ∧ po s = po σ ∧ pcl s = pcl σ := by
  obtain ⟨b, n, ⟨a1, a2, a3, a4⟩, b1, f, hI, hm, h9e⟩ := h
  have hin : ∀ x, x < σ.1 → b ≤ x → x < b + 7 → ow x = t := fun x hx x1 x2 => by
    rcases a1 with z | ⟨z, -⟩
    · exact h2.2 b z x x1 x2
    · omega
  refine ⟨pL (kQJ b), ⟨f.2.1, f.2.2.2.2.1, fun a j ha hs hp => f.iv ha hs hp, fun a j ha hr => ?_⟩, fun x j x1 x2 x3 => kQJ_no a4 (Or.inl ⟨x1, fun z => x3 (hin x x2 z.1 (by omega))⟩), fun x j hx => kQJ_no a4 (Or.inr hx), ⟨?_, fun b' hb' x x1 x2 => ?_⟩, hI, f.2.2.1, f.2.2.2.1⟩
  · have hr := of_decide_eq_false hr
    by_cases z : a = 3
    · rw [z]
      exact a2 j (fun w => hr (Or.inr ⟨z, w⟩))
    · refine f.2.2.2.2.2.1 a j ha ?_
      have z3 : Nat.beq 3 a = false := Bool.eq_false_iff.mpr (fun w => z (Nat.eq_of_beq_eq_true w).symm)
      have z5 : (Nat.beq 156 a && Nat.beq 5 j) = false := Bool.eq_false_iff.mpr (fun w => by
        rw [Bool.and_eq_true] at w
        exact hr (Or.inl ⟨(Nat.eq_of_beq_eq_true w.1).symm, (Nat.eq_of_beq_eq_true w.2).symm⟩))
      show (Nat.beq 156 a && Nat.beq 5 j || (Nat.beq 3 a && Nat.beq 17 j || (Nat.beq 3 a && Nat.beq 18 j || false))) = false
      rw [z5, z3]
      rfl
  · exact Or.inr ⟨b, b1, ⟨a4, a3⟩, hm.1, e, h9e, Nat.le_refl _, fun _ => ⟨n, hm⟩⟩
  · have eb : b = b' := by rw [b1] at hb'; exact Option.some.inj hb'
    subst eb
    show (if σ.1 ≤ x then t else ow x) = t
    split
    · rfl
    · exact hin x (by omega) x1 x2
theorem zK.j {n : Nat} {σ s : qx_S} {S : qS} {nr : Nat} {Rs : Nat → qR} {T : q_T} {J : Nat → Option qS} {e : Nat} {ow : Nat → Nat} (k : zK n σ S nr Rs T J e ow) (h : jF σ S (q_rf nr Rs (S 7)) e 17 (q_en (s_at S) (s_n S 1)) s ∨ jF σ S (q_rf nr Rs (S 7)) e 18 (q_en (fun p => s_n S (10 + 5 * p + 2)) (s_n S 1)) s) : (∃ ow', zC s S nr Rs T J e ow') ∧ zM s S nr Rs T J ∧ po s ≤ po σ + 3200 ∧ pcl s ≤ pcl σ + 140 := by
  obtain ⟨⟨h1, h2, h3, h4, h5, h6, h7, h8⟩, hM, -⟩ := k
  have h9 := h1.1.2.2.2.2.2.2.2.2
  have main : ∀ (fld t : Nat) (P : Nat → Nat → Bool), (t = 1 ∨ t = 2) → qk P (fun a j => decide ((a = 156 ∧ j = 5) ∨ (a = 3 ∧ j = fld))) σ s → (fld = 17 ∨ fld = 18) → (∀ x j, 191 ≤ x → x < σ.1 → ow x ≠ t → P x j = false) → (∀ x j, x ≤ 190 ∧ x ≠ 188 ∧ x ≠ 157 ∧ x ≠ 158 ∧ x ≠ 159 → P x j = false) → cI s S (q_rf nr Rs (S 7)) e → cWy s S (q_rf nr Rs (S 7)) e ∧ cRs s (fun x => if σ.1 ≤ x then t else ow x) nr Rs ∧ cDr s (fun x => if σ.1 ≤ x then t else ow x) ∧ tC s T ∧ cJm s (fun x => if σ.1 ≤ x then t else ow x) J ∧ (∀ x, 197 ≤ x → x < 229 → (if σ.1 ≤ x then t else ow x) = 0) ∧ zM s S nr Rs T J := by
    intro fld t P ht fk hfl p1 p2 hI
    have ho : ∀ x, x < σ.1 → (if σ.1 ≤ x then t else ow x) = ow x := fun x hx => if_neg (by omega)
    have rn : ∀ a j, a ≠ 3 → a ≠ 156 → decide ((a = 156 ∧ j = 5) ∨ (a = 3 ∧ j = fld)) = false := fun a j z1 z2 => decide_eq_false (by omega)
    refine ⟨h1.k fk ⟨p2 _ _ (by omega), fun j => p2 _ _ (by omega), fun x j hx => p2 _ _ (by omega), fun x j hx => p2 _ _ (by omega)⟩ hI, h4.k h9 fk ho (p2 _ _ (by omega)) (fun i _ => rn _ _ (by omega) (by omega)) (fun x j x1 x2 x3 _ => p1 x j x1 x2 (by omega)), h5.k h9 fk ho (decide_eq_false (by omega)), h6.k h9 fk (p2 _ _ (by omega)) (fun j => p2 _ _ (by omega)), h7.k h9 fk ho (fun i => rn _ _ (by omega) (by omega)) (fun x j hx => rn _ _ (by omega) (by omega)) (fun x j x1 x2 x3 => p1 x j x1 x2 (by omega)), fun x x1 x2 => (ho x (by omega)).trans (h8 x x1 x2), hM.k h9 fk (fun a j q1 q2 => p1 a j (by omega) (by omega) (by rw [h8 a q1 q2]; omega))⟩
  rcases h with h | h
  · obtain ⟨P, fk, p1, p2, c, hI, r1, r2⟩ := zC.j (Or.inl rfl) h2 h9 h
    obtain ⟨m1, m2, m3, m4, m5, m6, m7⟩ := main 17 1 P (Or.inl rfl) fk (Or.inl rfl) p1 p2 hI
    exact ⟨⟨fun x => if σ.1 ≤ x then 1 else ow x, m1, c, h3.k h9 fk (fun x hx => if_neg (by omega)) (by decide) (fun x j x1 x2 x3 => p1 x j x1 x2 (by omega)), m2, m3, m4, m5, m6⟩, m7, by omega, by omega⟩
  · obtain ⟨P, fk, p1, p2, c, hI, r1, r2⟩ := zC.j (Or.inr rfl) h3 h9 h
    obtain ⟨m1, m2, m3, m4, m5, m6, m7⟩ := main 18 2 P (Or.inr rfl) fk (Or.inr rfl) p1 p2 hI
    exact ⟨⟨fun x => if σ.1 ≤ x then 2 else ow x, m1, h2.k h9 fk (fun x hx => if_neg (by omega)) (by decide) (fun x j x1 x2 x3 => p1 x j x1 x2 (by omega)), c, m2, m3, m4, m5, m6⟩, m7, by omega, by omega⟩
theorem z_journey {G : qx_G} {n : Nat} {σ : qx_S} (h : zZ n σ) (x y : Int32) : zO G YX11_journey YX12_journey [.int x, .int y] n σ := by
  obtain ⟨S, nr, Rs, T, J, e, ow, k⟩ := h.k
  have g := k.g
  have h10 := g.2.1.2
  have h8 := g.1.2
  cases hb : (q_is x (s_n S 1) && q_is y (s_n S 0)) with
  | false => exact zPair0 h (by decide) (by decide) (c_journey_no k.I hb) (m_journey_no k.2.1.1 g.1.1 g.2.1.1 hb)
  | true =>
    rw [Bool.and_eq_true] at hb
    obtain ⟨p, hp, rfl⟩ := q_is_t hb.1 (by omega)
    obtain ⟨m, hm, rfl⟩ := q_is_t hb.2 (by omega)
    exact k.a (by decide) (by decide) (qx_M_mono (c_journey_ok k.I k.1.2.1.1 hp hm) (fun r s z => ⟨z.1, k.j (Or.inl z.2)⟩)) (fun s hM hX => qx_M_mono (m_journey_ok hX g hp hm) (fun r s' z => ⟨z.1, hM.q2 z.2.1 rfl z.2.2⟩))
theorem z_row {G : qx_G} {n : Nat} {σ : qx_S} (h : zZ n σ) (x y q w : Int32) : zO G YX11_row YX12_row [.int x, .int y, .int q, .int w] n σ := by
  obtain ⟨S, nr, Rs, T, J, e, ow, k⟩ := h.k
  have g := k.g
  have h10 := g.2.1.2
  have h8 := g.1.2
  cases hb : (q_is x (s_n S 1) && (q_is y (s_n S 0) && (decide (0 ≤ q) && q_in64 w.toInt64 (lN 0) (lN 1)))) with
  | false => exact zPair0 h (by decide) (by decide) (c_row_no k.I hb) (m_row_no k.2.1.1 g.1.1 g.2.1.1 hb)
  | true =>
    rw [Bool.and_eq_true, Bool.and_eq_true, Bool.and_eq_true] at hb
    obtain ⟨p, hp, rfl⟩ := q_is_t hb.1 (by omega)
    obtain ⟨m, hm, rfl⟩ := q_is_t hb.2.1 (by omega)
    obtain ⟨c, -, hc, rfl⟩ := q_in_t (by decide) (by decide) hb.2.2.2
    obtain ⟨z, hz, rfl⟩ : ∃ z, z < 2147483648 ∧ q = nI z := by
      have k0 : (0 : Int32).toInt ≤ q.toInt := Int32.le_iff_toInt_le.mp (of_decide_eq_true hb.2.2.1)
      have k1 : q.toInt < 2147483648 := by have := Int32.toInt_lt q; omega
      have k2 : (0 : Int32).toInt = 0 := by decide
      refine ⟨q.toInt.toNat, by omega, ?_⟩
      apply Int32.toInt_inj.mp
      rw [nI_toInt (by omega)]
      omega
    exact k.a (by decide) (by decide) (qx_M_mono (c_row_ok k.I k.1.2.1.1 hp hm hz hc) (fun r s z => ⟨z.1, k.j (Or.inl z.2)⟩)) (fun s hM hX => qx_M_mono (m_row_ok hX g hp hm hz hc) (fun r s' z => ⟨z.1, hM.q2 z.2.1 rfl z.2.2⟩))
theorem z_reached {G : qx_G} {n : Nat} {σ : qx_S} (h : zZ n σ) (x : Int32) : zO G YX11_reached YX12_reached [.int x] n σ := by
  obtain ⟨S, nr, Rs, T, J, e, ow, k⟩ := h.k
  have g := k.g
  have h10 := g.2.1.2
  have h8 := g.1.2
  cases hb : (decide (0 < s_n S 0) && (decide (x = -1) || q_is x (s_n S 1))) with
  | false => exact zPair0 h (by decide) (by decide) (c_reached_no k.I hb) (m_reached_no k.2.1.1 g.1.1 h8 g.2.1.1 hb)
  | true =>
    rw [Bool.and_eq_true, Bool.or_eq_true] at hb
    have hc := of_decide_eq_true hb.1
    rcases hb.2 with z | z
    · have z := of_decide_eq_true z
      subst z
      exact k.a (by decide) (by decide) (qx_M_mono (c_reached_all k.I k.1.2.1.1 hc) (fun r s z => ⟨z.1, k.j (Or.inl z.2)⟩)) (fun s hM hX => qx_M_mono (m_reached_all hX g hc) (fun r s' z => ⟨z.1, hM.q2 z.2.1 rfl z.2.2⟩))
    · obtain ⟨p, hp, rfl⟩ := q_is_t z (by omega)
      exact k.a (by decide) (by decide) (qx_M_mono (c_reached_ok k.I k.1.2.1.1 hc hp) (fun r s z => ⟨z.1, k.j (Or.inl z.2)⟩)) (fun s hM hX => qx_M_mono (m_reached_ok hX g hc hp) (fun r s' z => ⟨z.1, hM.q2 z.2.1 rfl z.2.2⟩))
theorem z_done {G : qx_G} {n : Nat} {σ : qx_S} (h : zZ n σ) (x : Int32) : zO G YX11_done YX12_done [.int x] n σ := by
  obtain ⟨S, nr, Rs, T, J, e, ow, k⟩ := h.k
  have g := k.g
  have h8 := g.1.2
  cases hb : (decide (0 < s_n S 0) && q_in64 x.toInt64 (lN 0) (lN 2)) with
  | false => exact zPair0 h (by decide) (by decide) (c_done_no k.I hb) (m_done_no k.2.1.1 g.1.1 h8 hb)
  | true =>
    rw [Bool.and_eq_true] at hb
    have hc := of_decide_eq_true hb.1
    obtain ⟨c, -, hc2, rfl⟩ := q_in_t (by decide) (by decide) hb.2
    exact k.a (by decide) (by decide) (qx_M_mono (c_done_ok k.I k.2.2.1.2.2.2.1 k.2.2.1.2.2.2.2.1 k.1.2.2.1.1 hc hc2) (fun r s z => ⟨z.1, k.j (Or.inr z.2)⟩)) (fun s hM hX => qx_M_mono (m_done_ok hX g hc k.2.2.1.2.2.2.1 hc2) (fun r s' z => ⟨z.1, hM.q2 z.2.1 rfl z.2.2⟩))
