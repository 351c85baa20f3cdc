/-! SLOTS: open addressing with 4096 slots -/
/-- the slots sl hold the numbers of size situations, hashed by h -/
def hI (h : Nat → Nat) (code : Nat → Nat) (size : Nat) (sl : Nat → Nat) : Prop := (∀ j, j < 4096 → sl j ≤ size) ∧ (∀ i, i < size → ∃ d, d < 4096 ∧ sl ((h (code i) + d) % 4096) = i + 1 ∧ ∀ t, t < d → sl ((h (code i) + t) % 4096) ≠ 0) ∧ (∀ j j', j < 4096 → j' < 4096 → sl j ≠ 0 → sl j = sl j' → j = j') ∧ (∀ i i', i < size → i' < size → code i = code i' → i = i')
/-- where a search for n ends -/
def hE (h : Nat → Nat) (code : Nat → Nat) (sl : Nat → Nat) (n j : Nat) : Prop := ∃ d, d < 4096 ∧ j = (h n + d) % 4096 ∧ (∀ t, t < d → sl ((h n + t) % 4096) ≠ 0 ∧ code (sl ((h n + t) % 4096) - 1) ≠ n) ∧ (sl j = 0 ∨ code (sl j - 1) = n)
theorem hI.empty {h code sl : Nat → Nat} {size : Nat} (H : hI h code size sl) (hs : size ≤ 2001) (n : Nat) : ∃ d, d < 4096 ∧ sl ((h n + d) % 4096) = 0 := by
  by_cases hx : ∃ j, j < 4096 ∧ sl j = 0
  · obtain ⟨j, h1, h2⟩ := hx
    refine ⟨(j + 4096 - h n % 4096) % 4096, Nat.mod_lt _ (by decide), ?_⟩
    have e : (h n + (j + 4096 - h n % 4096) % 4096) % 4096 = j := by omega
    rw [e]
    exact h2
  · exfalso
    have hne : ∀ j, j < 4096 → sl j ≠ 0 := fun j hj e => hx ⟨j, hj, e⟩
    obtain ⟨i, j, h1, h2, h3⟩ := q_ph 2001 (fun j => sl j - 1) (fun i hi => by
      have a := hne i (by omega)
      have b := H.1 i (by omega)
      show sl i - 1 < 2001
      omega)
    have a := hne i (by omega)
    have b := hne j (by omega)
    have h4 : sl i - 1 = sl j - 1 := h3
    have := H.2.2.1 i j (by omega) (by omega) a (by omega)
    omega
theorem hE.none {h code sl : Nat → Nat} {size n j : Nat} (H : hI h code size sl) (E : hE h code sl n j) (h0 : sl j = 0) : ∀ i, i < size → code i ≠ n := by
  intro i hi e
  obtain ⟨d, h1, h2, h3, -⟩ := E
  obtain ⟨d', k1, k2, k3⟩ := H.2.1 i hi
  rw [e] at k2 k3
  rcases Nat.lt_trichotomy d d' with z | z | z
  · exact k3 d z (h2 ▸ h0)
  · subst z
    rw [← h2, h0] at k2
    omega
  · have := (h3 d' z).2
    rw [k2] at this
    exact this e
theorem hE.some {h code sl : Nat → Nat} {size n j : Nat} (H : hI h code size sl) (E : hE h code sl n j) (h0 : sl j ≠ 0) : sl j - 1 < size ∧ code (sl j - 1) = n := by
  obtain ⟨d, h1, h2, -, h4⟩ := E
  have hj : j < 4096 := by rw [h2]; exact Nat.mod_lt _ (by decide)
  have := H.1 j hj
  exact ⟨by omega, h4.resolve_left h0⟩
theorem hI.add {h code sl : Nat → Nat} {size n j : Nat} (H : hI h code size sl) (E : hE h code sl n j) (h0 : sl j = 0) : hI h (va_up code size n) (size + 1) (va_up sl j (size + 1)) := by
  have hn := E.none H h0
  obtain ⟨d, h1, h2, h3, -⟩ := E
  have hj : j < 4096 := by rw [h2]; exact Nat.mod_lt _ (by decide)
  refine ⟨fun i hi => ?_, fun i hi => ?_, fun a b ha hb hz e => ?_, fun a b ha hb e => ?_⟩
  · by_cases e : i = j
    · rw [e, va_up_self]; omega
    · rw [va_up_ne _ _ e]
      have := H.1 i hi
      omega
  · by_cases e : i = size
    · subst e
      rw [va_up_self]
      refine ⟨d, h1, by rw [← h2, va_up_self], fun t ht => ?_⟩
      have hne := (h3 t ht).1
      have hz : (h n + t) % 4096 ≠ j := fun z => hne (by rw [z]; exact h0)
      rw [va_up_ne _ _ hz]
      exact hne
    · rw [va_up_ne _ _ e]
      obtain ⟨d', k1, k2, k3⟩ := H.2.1 i (by omega)
      refine ⟨d', k1, ?_, fun t ht => ?_⟩
      · rw [va_up_ne _ _ (fun z => by rw [z, h0] at k2; omega)]
        exact k2
      · have hne := k3 t ht
        have hz : (h (code i) + t) % 4096 ≠ j := fun z => hne (by rw [z]; exact h0)
        rw [va_up_ne _ _ hz]
        exact hne
  · by_cases ea : a = j
    · by_cases eb : b = j
      · rw [ea, eb]
      · exfalso
        rw [ea, va_up_self, va_up_ne _ _ eb] at e
        have := H.1 b hb
        omega
    · by_cases eb : b = j
      · exfalso
        rw [eb, va_up_self, va_up_ne _ _ ea] at e
        have := H.1 a ha
        omega
      · rw [va_up_ne _ _ ea, va_up_ne _ _ eb] at e
        rw [va_up_ne _ _ ea] at hz
        exact H.2.2.1 a b ha hb hz e
  · by_cases ea : a = size
    · by_cases eb : b = size
      · rw [ea, eb]
      · exfalso
        rw [ea, va_up_self, va_up_ne _ _ eb] at e
        exact hn b (by omega) e.symm
    · by_cases eb : b = size
      · exfalso
        rw [eb, va_up_self, va_up_ne _ _ ea] at e
        exact hn a (by omega) e
      · rw [va_up_ne _ _ ea, va_up_ne _ _ eb] at e
        exact H.2.2.2 a b (by omega) (by omega) e
theorem hI.zero (h code : Nat → Nat) : hI h code 0 (fun _ => 0) := ⟨fun _ _ => Nat.le_refl _, fun i hi => absurd hi (by omega), fun _ _ _ _ hz => absurd rfl hz, fun i _ hi => absurd hi (by omega)⟩
/-- the reference's hash -/
def q_h1 (n : Nat) : Nat := (n ^^^ (n / 2 ^ 11) ^^^ (n / 2 ^ 21)) % 4096
