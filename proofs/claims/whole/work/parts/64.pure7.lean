/-! SITUATIONS: where all are, in one number -/
def q_dg (n p : Nat) : Nat := n / 8 ^ p % 8
/-- from the last down -/
def q_hr (f : Nat → Nat) : Nat → Nat → Nat
  | 0, n => n
  | p + 1, n => q_hr f p (8 * n + f p)
def q_en (f : Nat → Nat) (pe : Nat) : Nat := q_hr f pe 0
theorem q_hr_eq (f : Nat → Nat) : ∀ (p n : Nat), q_hr f p n = n * 8 ^ p + q_hr f p 0
  | 0, n => by show n = n * 1 + 0; omega
  | p + 1, n => by
    show q_hr f p (8 * n + f p) = n * 8 ^ (p + 1) + q_hr f p (8 * 0 + f p)
    rw [q_hr_eq f p (8 * n + f p), q_hr_eq f p (8 * 0 + f p), Nat.pow_succ, Nat.add_mul, Nat.mul_zero, Nat.zero_add, show 8 * n * 8 ^ p = n * (8 ^ p * 8) by rw [Nat.mul_comm (8 ^ p) 8, ← Nat.mul_assoc, Nat.mul_comm n 8]]
    omega
theorem q_hr_lt (f : Nat → Nat) : ∀ p, (∀ i, i < p → f i < 8) → q_hr f p 0 < 8 ^ p
  | 0, _ => by show 0 < 1; omega
  | p + 1, h => by
    show q_hr f p (8 * 0 + f p) < 8 ^ (p + 1)
    rw [q_hr_eq, Nat.pow_succ]
    have h1 := q_hr_lt f p (fun i hi => h i (by omega))
    have h2 := h p (by omega)
    have h3 : (8 * 0 + f p) * 8 ^ p ≤ 7 * 8 ^ p := Nat.mul_le_mul_right _ (by omega)
    omega
theorem q_en_lt {f : Nat → Nat} {pe : Nat} (h : ∀ i, i < pe → f i < 8) (hpe : pe ≤ 10) : q_en f pe < 1073741824 := Nat.lt_of_lt_of_le (q_hr_lt f pe h) (Nat.pow_le_pow_right (by decide) hpe)
theorem q_dg_en (f : Nat → Nat) : ∀ (pe p : Nat), (∀ i, i < pe → f i < 8) → p < pe → q_dg (q_en f pe) p = f p
  | 0, _, _, h => absurd h (by omega)
  | pe + 1, p, h, hp => by
    unfold q_en
    show q_dg (q_hr f pe (8 * 0 + f pe)) p = f p
    rw [q_hr_eq]
    have hl := q_hr_lt f pe (fun i hi => h i (by omega))
    have hf := h pe (by omega)
    by_cases e : p = pe
    · subst e
      unfold q_dg
      rw [Nat.add_comm, Nat.add_mul_div_right _ _ (Nat.pow_pos (by decide)), Nat.div_eq_of_lt hl]
      omega
    · have ih := q_dg_en f pe p (fun i hi => h i (by omega)) (by omega)
      unfold q_dg at ih ⊢
      have hpp : 8 ^ pe = 8 ^ (pe - p) * 8 ^ p := by rw [← Nat.pow_add, Nat.sub_add_cancel (by omega)]
      rw [hpp, ← Nat.mul_assoc, Nat.add_comm, Nat.add_mul_div_right _ _ (Nat.pow_pos (by decide))]
      have h8 : 8 ^ (pe - p) = 8 * 8 ^ (pe - p - 1) := by rw [Nat.mul_comm, ← Nat.pow_succ, Nat.succ_eq_add_one, Nat.sub_add_cancel (by omega)]
      rw [h8]
      have : (8 * 0 + f pe) * (8 * 8 ^ (pe - p - 1)) = 8 * ((8 * 0 + f pe) * 8 ^ (pe - p - 1)) := by rw [Nat.mul_left_comm]
      rw [this]
      have ih2 : q_hr f pe 0 / 8 ^ p % 8 = f p := ih
      omega
theorem q_dg_lt (n p : Nat) : q_dg n p < 8 := Nat.mod_lt _ (by decide)
/-- a situation is its digits -/
theorem q_en_dg : ∀ (pe n : Nat), n < 8 ^ pe → q_en (q_dg n) pe = n
  | 0, n, h => by
    have : n = 0 := by have : (8 : Nat) ^ 0 = 1 := rfl; omega
    subst this
    rfl
  | pe + 1, n, h => by
    unfold q_en
    show q_hr (q_dg n) pe (8 * 0 + q_dg n pe) = n
    rw [q_hr_eq]
    have hc : ∀ m k, q_hr (q_dg (n % 8 ^ pe)) m k = q_hr (q_dg n) m k ∨ pe < m := by
      intro m
      induction m with
      | zero => intro k; exact Or.inl rfl
      | succ m ih =>
        intro k
        rcases Nat.lt_or_ge pe (m + 1) with z | z
        · exact Or.inr z
        · left
          have e : q_dg (n % 8 ^ pe) m = q_dg n m := by
            unfold q_dg
            have hpp : 8 ^ pe = 8 ^ m * 8 ^ (pe - m) := by rw [← Nat.pow_add]; congr 1; omega
            have h8 : 8 ^ (pe - m) = 8 * 8 ^ (pe - m - 1) := by rw [Nat.mul_comm, ← Nat.pow_succ, Nat.succ_eq_add_one, Nat.sub_add_cancel (by omega)]
            rw [hpp, Nat.mod_mul_right_div_self, h8, Nat.mod_mul_right_mod]
          show q_hr (q_dg (n % 8 ^ pe)) m (8 * k + q_dg (n % 8 ^ pe) m) = q_hr (q_dg n) m (8 * k + q_dg n m)
          rw [e]
          rcases ih (8 * k + q_dg n m) with y | y
          · exact y
          · omega
    have e0 : q_hr (q_dg n) pe 0 = n % 8 ^ pe := by
      rcases hc pe 0 with y | y
      · rw [← y]
        exact q_en_dg pe (n % 8 ^ pe) (Nat.mod_lt _ (Nat.pow_pos (by decide)))
      · omega
    rw [e0]
    have hd : q_dg n pe = n / 8 ^ pe := by
      unfold q_dg
      apply Nat.mod_eq_of_lt
      rw [Nat.div_lt_iff_lt_mul (Nat.pow_pos (by decide)), ← Nat.pow_succ']
      exact h
    rw [hd, Nat.mul_zero, Nat.zero_add, Nat.mul_comm]
    exact Nat.div_add_mod n (8 ^ pe)
