/-! what is kept of a ring that can be undone -/
def q_kp2 (S : qS) (u : Nat) : qS := if u = 20 then va_up (q_kr (va_up (q_sh S) 9 (nI 19)) 19) 9 (nI 20) else va_up (q_kr S u) 9 (nI (u + 1))
theorem q_kr_lo {S : qS} {u i : Nat} (h : i < 348) : q_kr S u i = S i := by
  unfold q_kr
  rw [if_neg (by omega)]
theorem q_kr_o {S : qS} {u i : Nat} (h : i < 348 + 122 * u ∨ 348 + 122 * u + 122 ≤ i) : q_kr S u i = S i := by
  unfold q_kr
  rw [if_neg (by omega)]
theorem q_kr_nw {S : qS} {u j : Nat} (h : j < 122) : q_kr S u (348 + 122 * u + j) = q_nw S j := by
  unfold q_kr q_nw
  rw [if_pos (by omega)]
  by_cases h1 : j < 10
  · rw [if_pos (by omega), if_pos h1]
    exact congrArg S (by omega)
  · rw [if_neg (by omega), if_neg h1]
    by_cases h2 : j < 110
    · rw [if_pos (by omega), if_pos h2]
      exact congrArg S (by omega)
    · rw [if_neg (by omega), if_neg h2]
      by_cases h3 : j < 120
      · rw [if_pos (by omega), if_pos h3]
        exact congrArg S (by omega)
      · rw [if_neg (by omega), if_neg h3]
        by_cases h4 : j < 121
        · rw [if_pos (by omega), if_pos h4]
        · rw [if_neg (by omega), if_neg h4]
theorem q_sh_lo {S : qS} {i : Nat} (h : i < 348) : q_sh S i = S i := if_neg (by omega)
theorem q_kp2_lo {S : qS} {u i : Nat} (h : i < 348) (h9 : i ≠ 9) : q_kp2 S u i = S i := by
  unfold q_kp2
  split
  · rw [va_up_ne _ _ h9, q_kr_lo h, va_up_ne _ _ h9, q_sh_lo h]
  · rw [va_up_ne _ _ h9, q_kr_lo h]
theorem q_kp2_9 {S : qS} {u : Nat} : q_kp2 S u 9 = nI (if u = 20 then 20 else u + 1) := by
  unfold q_kp2
  split
  · exact va_up_self _ _ _
  · exact va_up_self _ _ _
theorem q_kp2_s {S : qS} {u i j : Nat} (hu : u < 20) (hi : i < u) (hj : j < 122) : q_slt (q_kp2 S u) i j = q_slt S i j := by
  unfold q_slt q_kp2
  rw [if_neg (by omega), va_up_ne _ _ (by omega), q_kr_o (by omega)]
theorem q_kp2_n {S : qS} {u j : Nat} (hu : u < 20) (hj : j < 122) : q_slt (q_kp2 S u) u j = q_nw S j := by
  unfold q_slt q_kp2
  rw [if_neg (by omega), va_up_ne _ _ (by omega), q_kr_nw hj]
theorem q_kp2_s20 {S : qS} {i j : Nat} (hi : i < 19) (hj : j < 122) : q_slt (q_kp2 S 20) i j = q_slt S (i + 1) j := by
  unfold q_slt q_kp2
  rw [if_pos rfl, va_up_ne _ _ (by omega), q_kr_o (by omega), va_up_ne _ _ (by omega)]
  unfold q_sh
  rw [if_pos (by omega)]
  exact congrArg S (by omega)
theorem q_kp2_n20 {S : qS} {j : Nat} (hj : j < 122) : q_slt (q_kp2 S 20) 19 j = q_nw S j := by
  unfold q_slt q_kp2
  rw [if_pos rfl, va_up_ne _ _ (by omega), q_kr_nw hj]
  exact eNw.q (fun i hi => by rw [va_up_ne _ _ (by omega), q_sh_lo (by omega)]) hj
theorem kIq_of {q : Nat × Option Nat} (h1 : 16 ≤ q.1) (h2 : q.1 ≤ 155) : kIq q = true := by
  have b1 : Nat.blt q.1 191 = true := Nat.ble_eq_true_of_le (by omega)
  have b2 : ∀ y, (y = 156 ∨ y = 157 ∨ y = 3 ∨ y = 15) → Nat.beq q.1 y = false := fun y hy => Bool.eq_false_iff.mpr (fun w => by have := Nat.eq_of_beq_eq_true w; omega)
  unfold kIq
  rw [b1, b2 156 (by omega), b2 157 (by omega), b2 3 (by omega), b2 15 (by omega)]
  rfl
theorem gO.nw {S : qS} (g : gT S) : gO (q_nw S) (s_n S 1) := g.2.1
/-- the kept state is sound -/
theorem gU.kp {S : qS} (g : gT S) {u : Nat} (hu : u ≤ 20) (e9 : s_n S 9 = u) : gU (q_kp2 S u) := by
  have hpe := g.pe
  have n0 := s_n_cg (q_kp2_lo (S := S) (u := u) (i := 0) (by omega) (by omega))
  have n1 := s_n_cg (q_kp2_lo (S := S) (u := u) (i := 1) (by omega) (by omega))
  have n9 : s_n (q_kp2 S u) 9 = if u = 20 then 20 else u + 1 := by
    unfold s_n
    rw [q_kp2_9]
    exact nI_clamp (by split <;> omega)
  have w : ∀ p, p < s_n S 1 → ∃ v, v < s_n S 0 ∧ q_nw S p = nI v := fun p hp => ⟨s_at S p, (g.1.2.1.2.2 p hp).2, (q_nw_at S (by omega)).trans (g.1.2.1.2.2 p hp).1⟩
  refine ⟨⟨by rw [n9]; exact q_kp2_9, by rw [n9]; split <;> omega⟩, ?_⟩
  rw [n9, n0, n1]
  intro i hi
  have old := g.U.2
  rw [e9] at old
  have cp : ∀ (f f' : Nat → Int32), (∀ j, j < 122 → f' j = f j) → (gO f (s_n S 1) ∧ ∀ p, p < s_n S 1 → ∃ v, v < s_n S 0 ∧ f p = nI v) → gO f' (s_n S 1) ∧ ∀ p, p < s_n S 1 → ∃ v, v < s_n S 0 ∧ f' p = nI v := fun f f' e h => ⟨h.1.cg rfl (fun k hk => e _ (by omega)), fun p hp => by rw [e p (by omega)]; exact h.2 p hp⟩
  by_cases z : u = 20
  · rw [if_pos z] at hi
    subst z
    by_cases y : i = 19
    · rw [y]
      exact cp _ _ (fun j hj => q_kp2_n20 hj) ⟨g.2.1, w⟩
    · exact cp _ _ (fun j hj => q_kp2_s20 (by omega) hj) (old (i + 1) (by omega))
  · rw [if_neg z] at hi
    by_cases y : i = u
    · rw [y]
      exact cp _ _ (fun j hj => q_kp2_n (by omega) hj) ⟨g.2.1, w⟩
    · exact cp _ _ (fun j hj => q_kp2_s (by omega) (by omega) hj) (old i (by omega))
