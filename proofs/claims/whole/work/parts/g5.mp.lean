/-! MOST: rings, offers, notes -/
/-- a ring whose least is p: its set, gain, size, number -/
def q_RG (can : Nat → Nat → Nat → Bool) (gn : Nat → Nat → Int32) (pe k p s : Nat) (g : Int32) (n num : Nat) : Prop :=
  (n = 2 ∧ ∃ b, p < b ∧ b < pe ∧ can 2 p b = true ∧ can 2 b p = true ∧ s = 2 ^ p ||| 2 ^ b ∧ g = gn p b + gn b p ∧ num = 2 + 8 * b) ∨
  (n = 3 ∧ 2 < k ∧ ∃ b c, p < b ∧ b < pe ∧ p < c ∧ c < pe ∧ c ≠ b ∧ can 3 p b = true ∧ can 3 b c = true ∧ can 3 c p = true ∧ s = 2 ^ p ||| 2 ^ b ||| 2 ^ c ∧ g = gn p b + gn b c + gn c p ∧ num = 3 + 8 * b + 128 * c) ∨
  (n = 4 ∧ 3 < k ∧ ∃ b c d, p < b ∧ b < pe ∧ p < c ∧ c < pe ∧ c ≠ b ∧ p < d ∧ d < pe ∧ d ≠ b ∧ d ≠ c ∧ can 4 p b = true ∧ can 4 b c = true ∧ can 4 c d = true ∧ can 4 d p = true ∧ s = 2 ^ p ||| 2 ^ b ||| 2 ^ c ||| 2 ^ d ∧ g = gn p b + gn b c + gn c d + gn d p ∧ num = 4 + 8 * b + 128 * c + 2048 * d)
theorem q_xn_mem {rec : Nat → Nat → Int32 → List (Nat × Int32)} {can : Nat → Nat → Bool} {gn : Nat → Nat → Int32} {last set : Nat} {sum : Int32} {x : Nat × Int32} : ∀ (m nx : Nat), x ∈ q_xn rec can gn last set sum m nx ↔ ∃ t, nx ≤ t ∧ t < nx + m ∧ set.testBit t = false ∧ can last t = true ∧ x ∈ rec t (set ||| 2 ^ t) (sum + gn last t)
  | 0, nx => by
    constructor
    · intro h; cases h
    · rintro ⟨t, h1, h2, -⟩; omega
  | m + 1, nx => by
    show x ∈ (if (!set.testBit nx && can last nx) = true then _ else []) ++ q_xn rec can gn last set sum m (nx + 1) ↔ _
    rw [List.mem_append, q_xn_mem m (nx + 1)]
    constructor
    · rintro (h | ⟨t, h1, h2, h3⟩)
      · by_cases z : (!set.testBit nx && can last nx) = true
        · rw [if_pos z] at h
          rw [Bool.and_eq_true, Bool.not_eq_true'] at z
          exact ⟨nx, Nat.le_refl _, by omega, z.1, z.2, h⟩
        · rw [if_neg z] at h
          cases h
      · exact ⟨t, by omega, by omega, h3⟩
    · rintro ⟨t, h1, h2, h3, h4, h5⟩
      by_cases z : t = nx
      · left
        rw [z] at h3 h4 h5
        rw [if_pos (by rw [h3, h4]; rfl)]
        exact h5
      · exact Or.inr ⟨t, by omega, by omega, h3, h4, h5⟩
theorem q_bit1 (p i : Nat) : (2 ^ p).testBit i = decide (p = i) := Nat.testBit_two_pow ..
theorem q_bit2 (p b i : Nat) : (2 ^ p ||| 2 ^ b).testBit i = (decide (p = i) || decide (b = i)) := by rw [Nat.testBit_or, q_bit1, q_bit1]
theorem q_bit3 (p b c i : Nat) : (2 ^ p ||| 2 ^ b ||| 2 ^ c).testBit i = (decide (p = i) || decide (b = i) || decide (c = i)) := by rw [Nat.testBit_or, q_bit2, q_bit1]
theorem q_bit4 (p b c d i : Nat) : (2 ^ p ||| 2 ^ b ||| 2 ^ c ||| 2 ^ d).testBit i = (decide (p = i) || decide (b = i) || decide (c = i) || decide (d = i)) := by rw [Nat.testBit_or, q_bit3, q_bit1]
theorem q_szs_mem {can : Nat → Nat → Nat → Bool} {gn : Nat → Nat → Int32} {pe k p : Nat} (h2 : 2 ≤ k) (hk : k ≤ 4) (hp : p < pe) {x : Nat × Int32} : x ∈ q_szs can gn pe p (k - 1) 2 ↔ ∃ g n num, q_RG can gn pe k p x.1 g n num ∧ x.2 = g * nI 16 - nI n := by
  have m2 : x ∈ q_xl (can 2) gn pe p 2 1 p (2 ^ p) 0 ↔ ∃ b, p < b ∧ b < pe ∧ can 2 p b = true ∧ can 2 b p = true ∧ x = (2 ^ p ||| 2 ^ b, (gn p b + gn b p) * nI 16 - nI 2) := by
    show x ∈ q_xn (q_xl (can 2) gn pe p 2 0) (can 2) gn p (2 ^ p) 0 (pe - (p + 1)) (p + 1) ↔ _
    rw [q_xn_mem]
    constructor
    · rintro ⟨b, h1, h2, h3, h4, h5⟩
      unfold q_xl at h5
      by_cases z : can 2 b p = true
      · rw [if_pos z, List.mem_singleton, Int32.zero_add] at h5
        exact ⟨b, by omega, by omega, h4, z, h5⟩
      · rw [if_neg z] at h5
        cases h5
    · rintro ⟨b, h1, h2, h3, h4, h5⟩
      refine ⟨b, by omega, by omega, by rw [q_bit1]; exact decide_eq_false (by omega), h3, ?_⟩
      unfold q_xl
      rw [if_pos h4, List.mem_singleton, Int32.zero_add]
      exact h5
  have m3 : x ∈ q_xl (can 3) gn pe p 3 2 p (2 ^ p) 0 ↔ ∃ b c, p < b ∧ b < pe ∧ p < c ∧ c < pe ∧ c ≠ b ∧ can 3 p b = true ∧ can 3 b c = true ∧ can 3 c p = true ∧ x = (2 ^ p ||| 2 ^ b ||| 2 ^ c, (gn p b + gn b c + gn c p) * nI 16 - nI 3) := by
    show x ∈ q_xn (q_xl (can 3) gn pe p 3 1) (can 3) gn p (2 ^ p) 0 (pe - (p + 1)) (p + 1) ↔ _
    rw [q_xn_mem]
    constructor
    · rintro ⟨b, h1, h2, h3, h4, h5⟩
      have h5 : x ∈ q_xn (q_xl (can 3) gn pe p 3 0) (can 3) gn b (2 ^ p ||| 2 ^ b) (0 + gn p b) (pe - (p + 1)) (p + 1) := h5
      obtain ⟨c, g1, g2, g3, g4, g5⟩ := (q_xn_mem _ _).mp h5
      rw [q_bit2, Bool.or_eq_false_iff] at g3
      have g3 := of_decide_eq_false g3.2
      unfold q_xl at g5
      by_cases z : can 3 c p = true
      · rw [if_pos z, List.mem_singleton, Int32.zero_add] at g5
        exact ⟨b, c, by omega, by omega, by omega, by omega, fun w => g3 w.symm, h4, g4, z, g5⟩
      · rw [if_neg z] at g5
        cases g5
    · rintro ⟨b, c, h1, h2, h3, h4, h5, h6, h7, h8, h9⟩
      refine ⟨b, by omega, by omega, by rw [q_bit1]; exact decide_eq_false (by omega), h6, ?_⟩
      show x ∈ q_xn (q_xl (can 3) gn pe p 3 0) (can 3) gn b (2 ^ p ||| 2 ^ b) (0 + gn p b) (pe - (p + 1)) (p + 1)
      refine (q_xn_mem _ _).mpr ⟨c, by omega, by omega, by rw [q_bit2, decide_eq_false (show ¬ p = c by omega), decide_eq_false (fun w => h5 w.symm)]; rfl, h7, ?_⟩
      unfold q_xl
      rw [if_pos h8, List.mem_singleton, Int32.zero_add]
      exact h9
  have m4 : x ∈ q_xl (can 4) gn pe p 4 3 p (2 ^ p) 0 ↔ ∃ b c d, p < b ∧ b < pe ∧ p < c ∧ c < pe ∧ c ≠ b ∧ p < d ∧ d < pe ∧ d ≠ b ∧ d ≠ c ∧ can 4 p b = true ∧ can 4 b c = true ∧ can 4 c d = true ∧ can 4 d p = true ∧ x = (2 ^ p ||| 2 ^ b ||| 2 ^ c ||| 2 ^ d, (gn p b + gn b c + gn c d + gn d p) * nI 16 - nI 4) := by
    show x ∈ q_xn (q_xl (can 4) gn pe p 4 2) (can 4) gn p (2 ^ p) 0 (pe - (p + 1)) (p + 1) ↔ _
    rw [q_xn_mem]
    constructor
    · rintro ⟨b, h1, h2, h3, h4, h5⟩
      have h5 : x ∈ q_xn (q_xl (can 4) gn pe p 4 1) (can 4) gn b (2 ^ p ||| 2 ^ b) (0 + gn p b) (pe - (p + 1)) (p + 1) := h5
      obtain ⟨c, g1, g2, g3, g4, g5⟩ := (q_xn_mem _ _).mp h5
      have g5 : x ∈ q_xn (q_xl (can 4) gn pe p 4 0) (can 4) gn c (2 ^ p ||| 2 ^ b ||| 2 ^ c) (0 + gn p b + gn b c) (pe - (p + 1)) (p + 1) := g5
      obtain ⟨d, f1, f2, f3, f4, f5⟩ := (q_xn_mem _ _).mp g5
      rw [q_bit2, Bool.or_eq_false_iff] at g3
      have g3 := of_decide_eq_false g3.2
      rw [q_bit3, Bool.or_eq_false_iff, Bool.or_eq_false_iff] at f3
      have f6 := of_decide_eq_false f3.1.2
      have f7 := of_decide_eq_false f3.2
      unfold q_xl at f5
      by_cases z : can 4 d p = true
      · rw [if_pos z, List.mem_singleton, Int32.zero_add] at f5
        exact ⟨b, c, d, by omega, by omega, by omega, by omega, fun w => g3 w.symm, by omega, by omega, fun w => f6 w.symm, fun w => f7 w.symm, h4, g4, f4, z, f5⟩
      · rw [if_neg z] at f5
        cases f5
    · rintro ⟨b, c, d, h1, h2, h3, h4, h5, h6, h7, h8, h9, i1, i2, i3, i4, i5⟩
      refine ⟨b, by omega, by omega, by rw [q_bit1]; exact decide_eq_false (by omega), i1, ?_⟩
      show x ∈ q_xn (q_xl (can 4) gn pe p 4 1) (can 4) gn b (2 ^ p ||| 2 ^ b) (0 + gn p b) (pe - (p + 1)) (p + 1)
      refine (q_xn_mem _ _).mpr ⟨c, by omega, by omega, by rw [q_bit2, decide_eq_false (show ¬ p = c by omega), decide_eq_false (fun w => h5 w.symm)]; rfl, i2, ?_⟩
      show x ∈ q_xn (q_xl (can 4) gn pe p 4 0) (can 4) gn c (2 ^ p ||| 2 ^ b ||| 2 ^ c) (0 + gn p b + gn b c) (pe - (p + 1)) (p + 1)
      refine (q_xn_mem _ _).mpr ⟨d, by omega, by omega, by rw [q_bit3, decide_eq_false (show ¬ p = d by omega), decide_eq_false (show ¬ b = d from fun w => h8 w.symm), decide_eq_false (show ¬ c = d from fun w => h9 w.symm)]; rfl, i3, ?_⟩
      unfold q_xl
      rw [if_pos i4, List.mem_singleton, Int32.zero_add]
      exact i5
  have e2 : x ∈ q_szs can gn pe p (k - 1) 2 ↔ x ∈ q_xl (can 2) gn pe p 2 1 p (2 ^ p) 0 ∨ (2 < k ∧ x ∈ q_xl (can 3) gn pe p 3 2 p (2 ^ p) 0) ∨ (3 < k ∧ x ∈ q_xl (can 4) gn pe p 4 3 p (2 ^ p) 0) := by
    rcases (show k = 2 ∨ k = 3 ∨ k = 4 by omega) with z | z | z
    · subst z
      show x ∈ q_xl (can 2) gn pe p 2 1 p (2 ^ p) 0 ++ [] ↔ _
      rw [List.append_nil]
      exact ⟨Or.inl, fun h => h.elim id (fun h => h.elim (fun h => absurd h.1 (by decide)) (fun h => absurd h.1 (by decide)))⟩
    · subst z
      show x ∈ q_xl (can 2) gn pe p 2 1 p (2 ^ p) 0 ++ (q_xl (can 3) gn pe p 3 2 p (2 ^ p) 0 ++ []) ↔ _
      rw [List.append_nil, List.mem_append]
      exact ⟨fun h => h.elim Or.inl (fun h => Or.inr (Or.inl ⟨by decide, h⟩)), fun h => h.elim Or.inl (fun h => h.elim (fun h => Or.inr h.2) (fun h => absurd h.1 (by decide)))⟩
    · subst z
      show x ∈ q_xl (can 2) gn pe p 2 1 p (2 ^ p) 0 ++ (q_xl (can 3) gn pe p 3 2 p (2 ^ p) 0 ++ (q_xl (can 4) gn pe p 4 3 p (2 ^ p) 0 ++ [])) ↔ _
      rw [List.append_nil, List.mem_append, List.mem_append]
      exact ⟨fun h => h.elim Or.inl (fun h => h.elim (fun h => Or.inr (Or.inl ⟨by decide, h⟩)) (fun h => Or.inr (Or.inr ⟨by decide, h⟩))), fun h => h.elim Or.inl (fun h => h.elim (fun h => Or.inr (Or.inl h.2)) (fun h => Or.inr (Or.inr h.2)))⟩
  rw [e2, m2, m3, m4]
  constructor
  · rintro (⟨b, h1, h2, h3, h4, h5⟩ | ⟨h0, b, c, h1, h2, h3, h4, h5, h6, h7, h8, h9⟩ | ⟨h0, b, c, d, h1, h2, h3, h4, h5, h6, h7, h8, h9, i1, i2, i3, i4, i5⟩)
    · exact ⟨_, 2, _, Or.inl ⟨rfl, b, h1, h2, h3, h4, by rw [h5], rfl, rfl⟩, by rw [h5]⟩
    · exact ⟨_, 3, _, Or.inr (Or.inl ⟨rfl, h0, b, c, h1, h2, h3, h4, h5, h6, h7, h8, by rw [h9], rfl, rfl⟩), by rw [h9]⟩
    · exact ⟨_, 4, _, Or.inr (Or.inr ⟨rfl, h0, b, c, d, h1, h2, h3, h4, h5, h6, h7, h8, h9, i1, i2, i3, i4, by rw [i5], rfl, rfl⟩), by rw [i5]⟩
  · rintro ⟨g, n, num, hr, hv⟩
    rcases hr with ⟨hn, b, h1, h2, h3, h4, h5, h6, h7⟩ | ⟨hn, h0, b, c, h1, h2, h3, h4, h5, h6, h7, h8, h9, i1, i2⟩ | ⟨hn, h0, b, c, d, h1, h2, h3, h4, h5, h6, h7, h8, h9, i1, i2, i3, i4, i5, i6, i7⟩
    · exact Or.inl ⟨b, h1, h2, h3, h4, Prod.ext h5 (by rw [hv, h6, hn])⟩
    · exact Or.inr (Or.inl ⟨h0, b, c, h1, h2, h3, h4, h5, h6, h7, h8, Prod.ext h9 (by rw [hv, i1, hn])⟩)
    · exact Or.inr (Or.inr ⟨h0, b, c, d, h1, h2, h3, h4, h5, h6, h7, h8, h9, i1, i2, i3, i4, Prod.ext i5 (by rw [hv, i6, hn])⟩)
/-- all but the least are of the set -/
def q_ss (p s set : Nat) : Prop := ∀ i, s.testBit i = true → i = p ∨ set.testBit i = true
theorem q_o4_mem {can : Nat → Nat → Nat → Bool} {gn : Nat → Nat → Int32} {set p b c : Nat} {o : q_O} : ∀ (m d : Nat), o ∈ q_o4 can gn set p b c m d ↔ ∃ t, d ≤ t ∧ t < d + m ∧ set.testBit t = true ∧ t ≠ b ∧ t ≠ c ∧ can 4 p b = true ∧ can 4 b c = true ∧ can 4 c t = true ∧ can 4 t p = true ∧ o = (2 ^ p ||| 2 ^ b ||| 2 ^ c ||| 2 ^ t, gn p b + gn b c + gn c t + gn t p, 4, 4 + 8 * b + 128 * c + 2048 * t)
  | 0, d => by
    constructor
    · intro h; cases h
    · rintro ⟨t, h1, h2, -⟩; omega
  | m + 1, d => by
    unfold q_o4
    by_cases z : (set.testBit d && !decide (d = b) && !decide (d = c) && can 4 p b && can 4 b c && can 4 c d && can 4 d p) = true
    · rw [if_pos z, List.mem_cons, q_o4_mem m (d + 1)]
      simp only [Bool.and_eq_true, Bool.not_eq_true', decide_eq_false_iff_not] at z
      obtain ⟨⟨⟨⟨⟨⟨z1, z2⟩, z3⟩, z4⟩, z5⟩, z6⟩, z7⟩ := z
      constructor
      · rintro (h | ⟨t, h1, h2, h3⟩)
        · exact ⟨d, Nat.le_refl _, by omega, z1, z2, z3, z4, z5, z6, z7, h⟩
        · exact ⟨t, by omega, by omega, h3⟩
      · rintro ⟨t, h1, h2, h3⟩
        by_cases w : t = d
        · left
          rw [w] at h3
          exact h3.2.2.2.2.2.2.2
        · exact Or.inr ⟨t, by omega, by omega, h3⟩
    · rw [if_neg z, q_o4_mem m (d + 1)]
      constructor
      · rintro ⟨t, h1, h2, h3⟩
        exact ⟨t, by omega, by omega, h3⟩
      · rintro ⟨t, h1, h2, h3⟩
        by_cases w : t = d
        · exfalso
          rw [w] at h3
          obtain ⟨y1, y2, y3, y4, y5, y6, y7, -⟩ := h3
          exact z (by rw [y1, decide_eq_false y2, decide_eq_false y3, y4, y5, y6, y7]; rfl)
        · exact ⟨t, by omega, by omega, h3⟩
theorem q_o3_mem {can : Nat → Nat → Nat → Bool} {gn : Nat → Nat → Int32} {pe k set p b : Nat} {o : q_O} : ∀ (m c : Nat), o ∈ q_o3 can gn pe k set p b m c ↔ ∃ t, c ≤ t ∧ t < c + m ∧ set.testBit t = true ∧ t ≠ b ∧ ((can 3 p b = true ∧ can 3 b t = true ∧ can 3 t p = true ∧ o = (2 ^ p ||| 2 ^ b ||| 2 ^ t, gn p b + gn b t + gn t p, 3, 3 + 8 * b + 128 * t)) ∨ (3 < k ∧ o ∈ q_o4 can gn set p b t (pe - (p + 1)) (p + 1)))
  | 0, c => by
    constructor
    · intro h; cases h
    · rintro ⟨t, h1, h2, -⟩; omega
  | m + 1, c => by
    unfold q_o3
    by_cases z : (set.testBit c && !decide (c = b)) = true
    · rw [if_pos z, List.mem_append, List.mem_append, q_o3_mem m (c + 1)]
      simp only [Bool.and_eq_true, Bool.not_eq_true', decide_eq_false_iff_not] at z
      constructor
      · rintro ((h | h) | ⟨t, h1, h2, h3⟩)
        · by_cases y : (can 3 p b && can 3 b c && can 3 c p) = true
          · rw [if_pos y, List.mem_singleton] at h
            simp only [Bool.and_eq_true] at y
            exact ⟨c, Nat.le_refl _, by omega, z.1, z.2, Or.inl ⟨y.1.1, y.1.2, y.2, h⟩⟩
          · rw [if_neg y] at h
            cases h
        · by_cases y : 3 < k
          · rw [if_pos y] at h
            exact ⟨c, Nat.le_refl _, by omega, z.1, z.2, Or.inr ⟨y, h⟩⟩
          · rw [if_neg y] at h
            cases h
        · exact ⟨t, by omega, by omega, h3⟩
      · rintro ⟨t, h1, h2, h3⟩
        by_cases w : t = c
        · left
          rw [w] at h3
          rcases h3.2.2 with ⟨y1, y2, y3, y4⟩ | ⟨y1, y2⟩
          · left
            rw [if_pos (by rw [y1, y2, y3]; rfl), List.mem_singleton]
            exact y4
          · right
            rw [if_pos y1]
            exact y2
        · exact Or.inr ⟨t, by omega, by omega, h3⟩
    · rw [if_neg z, q_o3_mem m (c + 1)]
      constructor
      · rintro ⟨t, h1, h2, h3⟩
        exact ⟨t, by omega, by omega, h3⟩
      · rintro ⟨t, h1, h2, h3⟩
        by_cases w : t = c
        · exfalso
          rw [w] at h3
          exact z (by rw [h3.1, decide_eq_false h3.2.1]; rfl)
        · exact ⟨t, by omega, by omega, h3⟩
theorem q_o2_mem {can : Nat → Nat → Nat → Bool} {gn : Nat → Nat → Int32} {pe k set p : Nat} {o : q_O} : ∀ (m b : Nat), o ∈ q_o2 can gn pe k set p m b ↔ ∃ t, b ≤ t ∧ t < b + m ∧ set.testBit t = true ∧ ((can 2 p t = true ∧ can 2 t p = true ∧ o = (2 ^ p ||| 2 ^ t, gn p t + gn t p, 2, 2 + 8 * t)) ∨ (2 < k ∧ o ∈ q_o3 can gn pe k set p t (pe - (p + 1)) (p + 1)))
  | 0, b => by
    constructor
    · intro h; cases h
    · rintro ⟨t, h1, h2, -⟩; omega
  | m + 1, b => by
    unfold q_o2
    by_cases z : set.testBit b = true
    · rw [if_pos z, List.mem_append, List.mem_append, q_o2_mem m (b + 1)]
      constructor
      · rintro ((h | h) | ⟨t, h1, h2, h3⟩)
        · by_cases y : (can 2 p b && can 2 b p) = true
          · rw [if_pos y, List.mem_singleton] at h
            simp only [Bool.and_eq_true] at y
            exact ⟨b, Nat.le_refl _, by omega, z, Or.inl ⟨y.1, y.2, h⟩⟩
          · rw [if_neg y] at h
            cases h
        · by_cases y : 2 < k
          · rw [if_pos y] at h
            exact ⟨b, Nat.le_refl _, by omega, z, Or.inr ⟨y, h⟩⟩
          · rw [if_neg y] at h
            cases h
        · exact ⟨t, by omega, by omega, h3⟩
      · rintro ⟨t, h1, h2, h3⟩
        by_cases w : t = b
        · left
          rw [w] at h3
          rcases h3.2 with ⟨y1, y2, y3⟩ | ⟨y1, y2⟩
          · left
            rw [if_pos (by rw [y1, y2]; rfl), List.mem_singleton]
            exact y3
          · right
            rw [if_pos y1]
            exact y2
        · exact Or.inr ⟨t, by omega, by omega, h3⟩
    · rw [if_neg z, q_o2_mem m (b + 1)]
      constructor
      · rintro ⟨t, h1, h2, h3⟩
        exact ⟨t, by omega, by omega, h3⟩
      · rintro ⟨t, h1, h2, h3⟩
        by_cases w : t = b
        · exfalso
          rw [w] at h3
          exact z h3.1
        · exact ⟨t, by omega, by omega, h3⟩
/-- the offers of a set are its rings -/
theorem q_o2_RG {can : Nat → Nat → Nat → Bool} {gn : Nat → Nat → Int32} {pe k set p : Nat} (hk : k ≤ 4) (hp : p < pe) {o : q_O} : o ∈ q_o2 can gn pe k set p (pe - (p + 1)) (p + 1) ↔ q_RG can gn pe k p o.1 o.2.1 o.2.2.1 o.2.2.2 ∧ q_ss p o.1 set := by
  obtain ⟨s, g, n, num⟩ := o
  rw [q_o2_mem]
  dsimp only
  constructor
  · rintro ⟨b, h1, h2, h3, h4⟩
    rcases h4 with ⟨y1, y2, y3⟩ | ⟨y1, y2⟩
    · simp only [Prod.mk.injEq] at y3
      obtain ⟨rfl, rfl, rfl, rfl⟩ := y3
      refine ⟨Or.inl ⟨rfl, b, by omega, by omega, y1, y2, rfl, rfl, rfl⟩, fun i hi => ?_⟩
      rw [q_bit2, Bool.or_eq_true] at hi
      rcases hi with z | z
      · exact Or.inl (of_decide_eq_true z).symm
      · rw [← of_decide_eq_true z]; exact Or.inr h3
    · obtain ⟨c, g1, g2, g3, g4, g5⟩ := (q_o3_mem _ _).mp y2
      rcases g5 with ⟨w1, w2, w3, w4⟩ | ⟨w1, w2⟩
      · simp only [Prod.mk.injEq] at w4
        obtain ⟨rfl, rfl, rfl, rfl⟩ := w4
        refine ⟨Or.inr (Or.inl ⟨rfl, y1, b, c, by omega, by omega, by omega, by omega, g4, w1, w2, w3, rfl, rfl, rfl⟩), fun i hi => ?_⟩
        rw [q_bit3, Bool.or_eq_true, Bool.or_eq_true] at hi
        rcases hi with (z | z) | z
        · exact Or.inl (of_decide_eq_true z).symm
        · rw [← of_decide_eq_true z]; exact Or.inr h3
        · rw [← of_decide_eq_true z]; exact Or.inr g3
      · obtain ⟨d, f1, f2, f3, f4, f5, f6, f7, f8, f9, fe⟩ := (q_o4_mem _ _).mp w2
        simp only [Prod.mk.injEq] at fe
        obtain ⟨rfl, rfl, rfl, rfl⟩ := fe
        refine ⟨Or.inr (Or.inr ⟨rfl, w1, b, c, d, by omega, by omega, by omega, by omega, g4, by omega, by omega, f4, f5, f6, f7, f8, f9, rfl, rfl, rfl⟩), fun i hi => ?_⟩
        rw [q_bit4, Bool.or_eq_true, Bool.or_eq_true, Bool.or_eq_true] at hi
        rcases hi with ((z | z) | z) | z
        · exact Or.inl (of_decide_eq_true z).symm
        · rw [← of_decide_eq_true z]; exact Or.inr h3
        · rw [← of_decide_eq_true z]; exact Or.inr g3
        · rw [← of_decide_eq_true z]; exact Or.inr f3
  · rintro ⟨hr, hs⟩
    rcases hr with ⟨hn, b, h1, h2, h3, h4, h5, h6, h7⟩ | ⟨hn, h0, b, c, h1, h2, h3, h4, h5, h6, h7, h8, h9, i1, i2⟩ | ⟨hn, h0, b, c, d, h1, h2, h3, h4, h5, h6, h7, h8, h9, i1, i2, i3, i4, i5, i6, i7⟩
    · subst hn h5 h6 h7
      have sb := (hs b (by rw [q_bit2, decide_eq_true (show b = b from rfl), Bool.or_true])).resolve_left (by omega)
      exact ⟨b, by omega, by omega, sb, Or.inl ⟨h3, h4, rfl⟩⟩
    · subst hn h9 i1 i2
      have sb := (hs b (by rw [q_bit3, decide_eq_true (show b = b from rfl), Bool.or_true, Bool.true_or])).resolve_left (by omega)
      have sc := (hs c (by rw [q_bit3, decide_eq_true (show c = c from rfl), Bool.or_true])).resolve_left (by omega)
      exact ⟨b, by omega, by omega, sb, Or.inr ⟨h0, (q_o3_mem _ _).mpr ⟨c, by omega, by omega, sc, h5, Or.inl ⟨h6, h7, h8, rfl⟩⟩⟩⟩
    · subst hn i5 i6 i7
      have sb := (hs b (by rw [q_bit4, decide_eq_true (show b = b from rfl), Bool.or_true, Bool.true_or, Bool.true_or])).resolve_left (by omega)
      have sc := (hs c (by rw [q_bit4, decide_eq_true (show c = c from rfl), Bool.or_true, Bool.true_or])).resolve_left (by omega)
      have sd := (hs d (by rw [q_bit4, decide_eq_true (show d = d from rfl), Bool.or_true])).resolve_left (by omega)
      exact ⟨b, by omega, by omega, sb, Or.inr ⟨by omega, (q_o3_mem _ _).mpr ⟨c, by omega, by omega, sc, h5, Or.inr ⟨h0, (q_o4_mem _ _).mpr ⟨d, by omega, by omega, sd, h8, h9, i1, i2, i3, i4, rfl⟩⟩⟩⟩⟩

