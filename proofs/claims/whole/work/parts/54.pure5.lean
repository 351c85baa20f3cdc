/-! CORE as the reference finds it -/
theorem q_ph : ∀ (n : Nat) (f : Nat → Nat), (∀ i, i ≤ n → f i < n) → ∃ i j, i < j ∧ j ≤ n ∧ f i = f j
  | 0, f, h => absurd (h 0 (Nat.le_refl _)) (by omega)
  | n + 1, f, h => by
    by_cases hx : ∃ i, i ≤ n ∧ f i = f (n + 1)
    · obtain ⟨i, h1, h2⟩ := hx
      exact ⟨i, n + 1, by omega, Nat.le_refl _, h2⟩
    · have hne : ∀ i, i ≤ n → f i ≠ f (n + 1) := fun i hi e => hx ⟨i, hi, e⟩
      have hl := h (n + 1) (Nat.le_refl _)
      obtain ⟨i, j, h1, h2, h3⟩ := q_ph n (fun i => if f (n + 1) < f i then f i - 1 else f i) (fun i hi => by
        have a := h i (by omega)
        have b := hne i hi
        show (if f (n + 1) < f i then f i - 1 else f i) < n
        split <;> omega)
      refine ⟨i, j, h1, by omega, ?_⟩
      have a := hne i (by omega)
      have b := hne j h2
      split at h3 <;> split at h3 <;> omega
theorem q_ex_snoc (f : Nat → Bool) : ∀ n i, q_ex f (n + 1) i = (q_ex f n i || f (i + n))
  | 0, i => by show (f i || false) = (false || f (i + 0)); cases f i <;> simp_all
  | n + 1, i => by
    show (f i || q_ex f (n + 1) (i + 1)) = ((f i || q_ex f n (i + 1)) || f (i + (n + 1)))
    rw [q_ex_snoc f n (i + 1), show i + 1 + n = i + (n + 1) by omega, Bool.or_assoc]
/-- the best place of those where one is left -/
def q_pb (lf : Nat → Bool) (lk : Nat → Int32) : Nat → Nat → Nat × Int32 → Nat × Int32
  | 0, _, b => b
  | m + 1, q, b => if lf q = true ∧ b.2 < lk q then q_pb lf lk m (q + 1) (q, lk q) else q_pb lf lk m (q + 1) b
def q_fst (f : Nat → Bool) (d : Nat) : Nat → Nat → Nat
  | 0, _ => d
  | m + 1, o => if f o = true then o else q_fst f d m (o + 1)
theorem q_fst_in (f : Nat → Bool) (d : Nat) : ∀ m o, q_fst f d m o = d ∨ (o ≤ q_fst f d m o ∧ q_fst f d m o < o + m ∧ f (q_fst f d m o) = true)
  | 0, _ => Or.inl rfl
  | m + 1, o => by
    unfold q_fst
    split
    · next h => exact Or.inr ⟨Nat.le_refl _, by omega, h⟩
    · rcases q_fst_in f d m (o + 1) with h | ⟨h1, h2, h3⟩
      · exact Or.inl h
      · exact Or.inr ⟨by omega, by omega, h3⟩
def q_lf (S : qS) (left q : Nat) : Bool := q_ex (fun o => left.testBit o && decide (s_at S o = q)) (s_n S 1) 0
def q_pa (S : qS) (rf : Option qR) (ly : Option (Nat × Nat)) (left p : Nat) : Nat :=
  let b := q_pb (q_lf S left) (q_ll S rf ly p (s_at S p)) (s_n S 0) 0 (s_at S p, q_ll S rf ly p (s_at S p) (s_at S p))
  if b.1 = s_at S p then p else q_fst (fun o => left.testBit o && decide (s_at S o = b.1)) p (s_n S 1) 0
/-- who comes back by pointing -/
def q_cb (pts : Nat → Nat) (p : Nat) : Nat → Nat → Bool
  | 0, o => decide (o = p)
  | m + 1, o => if o = p then true else q_cb pts p m (pts o)
def q_pt (S : qS) (rf : Option qR) (ly : Option (Nat × Nat)) (left p : Nat) : Nat := if left.testBit p = true then q_pa S rf ly left p else p
def q_gone (S : qS) (rf : Option qR) (ly : Option (Nat × Nat)) (left p : Nat) : Bool := left.testBit p && q_cb (q_pt S rf ly left) p (s_n S 1) (q_pt S rf ly left p)
/-- rounds -/
def q_cr (S : qS) (rf : Option qR) (ly : Option (Nat × Nat)) : Nat → Nat → (Nat → Nat) → Nat → Nat
  | 0, _, t => t
  | f + 1, left, t => if left = 0 then t else q_cr S rf ly f (q_wo left (q_set (q_gone S rf ly left) (s_n S 1))) (fun i => if i < s_n S 1 ∧ q_gone S rf ly left i = true then q_pt S rf ly left i else t i)
theorem q_pt_in {S : qS} {rf : Option qR} {ly : Option (Nat × Nat)} {left p : Nat} (hp : left.testBit p = true) : left.testBit (q_pt S rf ly left p) = true := by
  unfold q_pt
  rw [if_pos hp]
  unfold q_pa
  dsimp only
  split
  · exact hp
  · rcases q_fst_in (fun o => left.testBit o && decide (s_at S o = (q_pb (q_lf S left) (q_ll S rf ly p (s_at S p)) (s_n S 0) 0 (s_at S p, q_ll S rf ly p (s_at S p) (s_at S p))).1)) p (s_n S 1) 0 with h | ⟨_, _, h⟩
    · rw [h]; exact hp
    · exact (Bool.and_eq_true _ _ ▸ h).1
theorem q_pt_lt {S : qS} {rf : Option qR} {ly : Option (Nat × Nat)} {left p : Nat} (hl : left < 2 ^ s_n S 1) (hp : p < s_n S 1) : q_pt S rf ly left p < s_n S 1 := by
  cases h : left.testBit p with
  | true => exact q_tb_lt hl (q_pt_in h)
  | false => unfold q_pt; rw [if_neg (by rw [h]; decide)]; exact hp
def q_it (f : Nat → Nat) (x : Nat) : Nat → Nat
  | 0 => x
  | n + 1 => f (q_it f x n)
theorem q_it_add (f : Nat → Nat) (x : Nat) (a : Nat) : ∀ b, q_it f x (a + b) = q_it f (q_it f x a) b
  | 0 => rfl
  | b + 1 => by
    show f (q_it f x (a + b)) = f (q_it f (q_it f x a) b)
    rw [q_it_add f x a b]
theorem q_cb_it (pts : Nat → Nat) (p : Nat) : ∀ (m o k : Nat), k ≤ m → q_it pts o k = p → q_cb pts p m o = true
  | 0, o, k, hk, h => by
    have : k = 0 := by omega
    subst this
    exact decide_eq_true h
  | m + 1, o, k, hk, h => by
    unfold q_cb
    split
    · rfl
    · next hne =>
      cases k with
      | zero => exact absurd h hne
      | succ k =>
        refine q_cb_it pts p m (pts o) k (by omega) ?_
        have := q_it_add pts o 1 k
        rw [show 1 + k = k + 1 by omega] at this
        exact this.symm.trans h
/-- somebody always goes -/
theorem q_gone_ex {S : qS} {rf : Option qR} {ly : Option (Nat × Nat)} {left : Nat} (h0 : 0 < left) (hl : left < 2 ^ s_n S 1) : ∃ p, p < s_n S 1 ∧ q_gone S rf ly left p = true := by
  obtain ⟨x, hx, hb⟩ := q_bit_ex h0 hl
  have hin : ∀ n, left.testBit (q_it (q_pt S rf ly left) x n) = true := by
    intro n
    induction n with
    | zero => exact hb
    | succ n ih => exact q_pt_in ih
  obtain ⟨i, j, h1, h2, h3⟩ := q_ph (s_n S 1) (q_it (q_pt S rf ly left) x) (fun i _ => q_tb_lt hl (hin i))
  refine ⟨q_it (q_pt S rf ly left) x i, q_tb_lt hl (hin i), ?_⟩
  unfold q_gone
  rw [hin i, Bool.true_and]
  refine q_cb_it _ _ _ _ (j - i - 1) (by omega) ?_
  have e := q_it_add (q_pt S rf ly left) (q_it (q_pt S rf ly left) x i) 1 (j - i - 1)
  have e2 := q_it_add (q_pt S rf ly left) x i (1 + (j - i - 1))
  rw [show i + (1 + (j - i - 1)) = j by omega] at e2
  exact (e.symm.trans e2.symm).trans h3.symm
theorem q_set_bit (f : Nat → Bool) : ∀ (n i : Nat), (q_set f n).testBit i = (decide (i < n) && f i)
  | 0, i => by
    show (0 : Nat).testBit i = _
    rw [Nat.zero_testBit, decide_eq_false (by omega)]
    rfl
  | n + 1, i => by
    have ih := q_set_bit f n i
    show (if _ then _ else _ : Nat).testBit i = _
    split
    · next h =>
      rw [Nat.testBit_or, ih, Nat.testBit_two_pow]
      by_cases e : n = i
      · subst e
        rw [decide_eq_true rfl, decide_eq_true (show n < n + 1 by omega), h]
        simp
      · rw [decide_eq_false e, Bool.or_false]
        congr 1
        exact decide_eq_decide.mpr (by omega)
    · next h =>
      rw [ih]
      by_cases e : i = n
      · subst e
        rw [decide_eq_false (show ¬ i < i by omega), Bool.eq_false_iff.mpr h]
        simp
      · congr 1
        exact decide_eq_decide.mpr (by omega)
theorem q_gone_dec {S : qS} {rf : Option qR} {ly : Option (Nat × Nat)} {left : Nat} (h0 : 0 < left) (hl : left < 2 ^ s_n S 1) : q_wo left (q_set (q_gone S rf ly left) (s_n S 1)) < left := by
  obtain ⟨p, h1, h2⟩ := q_gone_ex (rf := rf) (ly := ly) h0 hl
  have hb : left.testBit p = true := by
    unfold q_gone at h2
    rw [Bool.and_eq_true] at h2
    exact h2.1
  refine q_wo_lt hb ?_
  rw [q_set_bit, h2, decide_eq_true h1]
  rfl
theorem q_cr_f (S : qS) (rf : Option qR) (ly : Option (Nat × Nat)) : ∀ (f f' left : Nat) (t : Nat → Nat), left ≤ f → left ≤ f' → left < 2 ^ s_n S 1 → q_cr S rf ly f left t = q_cr S rf ly f' left t
  | 0, 0, _, _, _, _, _ => rfl
  | 0, f' + 1, s, t, h, _, _ => by
    have : s = 0 := by omega
    subst this
    unfold q_cr
    rw [if_pos rfl]
  | f + 1, 0, s, t, _, h, _ => by
    have : s = 0 := by omega
    subst this
    unfold q_cr
    rw [if_pos rfl]
  | f + 1, f' + 1, s, t, h, h', hs => by
    unfold q_cr
    by_cases h0 : s = 0
    · rw [if_pos h0, if_pos h0]
    · rw [if_neg h0, if_neg h0]
      have hd := q_gone_dec (rf := rf) (ly := ly) (S := S) (left := s) (by omega) hs
      exact q_cr_f S rf ly f f' _ _ (by omega) (by omega) (by omega)
