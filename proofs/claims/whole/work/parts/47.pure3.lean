/-! SETS as bits, MOST as the reference finds it -/
def q_wo (a b : Nat) : Nat := a ^^^ (a &&& b)
theorem q_wo_bit (a b i : Nat) : (q_wo a b).testBit i = (a.testBit i && !b.testBit i) := by
  unfold q_wo
  rw [Nat.testBit_xor, Nat.testBit_and]
  cases a.testBit i <;> cases b.testBit i <;> rfl
theorem q_wo_le (a b : Nat) : q_wo a b ≤ a := by
  apply Nat.le_of_testBit
  intro i h
  rw [q_wo_bit] at h
  cases ha : a.testBit i with
  | true => rfl
  | false => rw [ha] at h; cases h
theorem q_wo_lt {a b p : Nat} (ha : a.testBit p = true) (hb : b.testBit p = true) : q_wo a b < a := by
  rcases Nat.lt_or_ge (q_wo a b) a with h | h
  · exact h
  · exfalso
    have e : q_wo a b = a := Nat.le_antisymm (q_wo_le a b) h
    have := q_wo_bit a b p
    rw [e, ha, hb] at this
    cases this
theorem nI_andn (a b : Nat) (ha : a < 2147483648) : nI a &&& (nI b ^^^ (-1)) = nI (q_wo a b) := by
  apply Int32.toBitVec_inj.1
  show BitVec.ofNat 32 a &&& (BitVec.ofNat 32 b ^^^ BitVec.allOnes 32) = BitVec.ofNat 32 (q_wo a b)
  apply BitVec.eq_of_getLsbD_eq
  intro i hi
  rw [BitVec.getLsbD_and, BitVec.getLsbD_xor, BitVec.getLsbD_ofNat, BitVec.getLsbD_ofNat, BitVec.getLsbD_ofNat, q_wo_bit, BitVec.getLsbD_allOnes]
  simp only [hi, decide_true, Bool.true_and]
  cases a.testBit i <;> cases b.testBit i <;> rfl
theorem q_tb {s k : Nat} : (s / 2 ^ k &&& 1 = 1) ↔ s.testBit k = true := by
  rw [Nat.and_one_is_mod, Nat.testBit_eq_decide_div_mod_eq]
  exact (decide_eq_true_iff).symm
/-- the least -/
def q_loc (s : Nat) : Nat → Nat → Nat
  | 0, p => p
  | m + 1, p => if s.testBit p = true then p else q_loc s m (p + 1)
def q_lo (s : Nat) : Nat := q_loc s 10 0
theorem q_loc_ok {s : Nat} : ∀ (m p : Nat), (∃ k, p ≤ k ∧ k < p + m ∧ s.testBit k = true) → s.testBit (q_loc s m p) = true ∧ p ≤ q_loc s m p ∧ q_loc s m p < p + m ∧ ∀ i, p ≤ i → i < q_loc s m p → s.testBit i = false
  | 0, p, h => by obtain ⟨k, h1, h2, -⟩ := h; omega
  | m + 1, p, h => by
    unfold q_loc
    split
    · next hp => exact ⟨hp, by omega, by omega, fun i h1 h2 => by omega⟩
    · next hp =>
      obtain ⟨k, h1, h2, h3⟩ := h
      have hk : k ≠ p := fun e => hp (e ▸ h3)
      obtain ⟨y1, y2, y3, y4⟩ := q_loc_ok m (p + 1) ⟨k, by omega, by omega, h3⟩
      refine ⟨y1, by omega, by omega, fun i z1 z2 => ?_⟩
      by_cases e : i = p
      · subst e
        exact Bool.eq_false_iff.mpr hp
      · exact y4 i (by omega) z2
theorem q_bit_ex {s n : Nat} (h0 : 0 < s) (h : s < 2 ^ n) : ∃ k, k < n ∧ s.testBit k = true := by
  rcases Nat.eq_zero_or_pos s with e | e
  · omega
  · by_cases hx : ∃ k, k < n ∧ s.testBit k = true
    · exact hx
    · exfalso
      have : s = 0 := by
        apply Nat.eq_of_testBit_eq
        intro i
        rw [Nat.zero_testBit]
        rcases Nat.lt_or_ge i n with hi | hi
        · exact Bool.eq_false_iff.mpr (fun y => hx ⟨i, hi, y⟩)
        · exact Nat.testBit_lt_two_pow (Nat.lt_of_lt_of_le h (Nat.pow_le_pow_right (by decide) hi))
      omega
theorem q_lo_ok {s : Nat} (h0 : 0 < s) (h : s < 1024) : s.testBit (q_lo s) = true ∧ q_lo s < 10 ∧ ∀ i, i < q_lo s → s.testBit i = false := by
  obtain ⟨k, h1, h2⟩ := q_bit_ex (n := 10) h0 h
  obtain ⟨y1, y2, y3, y4⟩ := q_loc_ok (s := s) 10 0 ⟨k, by omega, by omega, h2⟩
  exact ⟨y1, by unfold q_lo; omega, fun i hi => y4 i (by omega) hi⟩
theorem q_tb_lt {s n k : Nat} (h : s < 2 ^ n) (hk : s.testBit k = true) : k < n := by
  rcases Nat.lt_or_ge k n with y | y
  · exact y
  · rw [Nat.testBit_lt_two_pow (Nat.lt_of_lt_of_le h (Nat.pow_le_pow_right (by decide) y))] at hk
    cases hk
/-- gain, how many, the ring's number -/
abbrev q_T3 : Type := Int32 × Nat × Nat
/-- an offer: who, what is gained, how many, its number -/
abbrev q_O : Type := Nat × Int32 × Nat × Nat
def q_of1 (D : Nat → q_T3) (set : Nat) (b : q_T3) (o : q_O) : q_T3 :=
  if o.2.1 + (D (q_wo set o.1)).1 < b.1 ∨ (o.2.1 + (D (q_wo set o.1)).1 = b.1 ∧ b.2.1 ≤ o.2.2.1 + (D (q_wo set o.1)).2.1) then b else (o.2.1 + (D (q_wo set o.1)).1, o.2.2.1 + (D (q_wo set o.1)).2.1, o.2.2.2)
def q_o4 (can : Nat → Nat → Nat → Bool) (gn : Nat → Nat → Int32) (set p b c : Nat) : Nat → Nat → List q_O
  | 0, _ => []
  | m + 1, d => if (set.testBit d && !decide (d = b) && !decide (d = c) && can 4 p b && can 4 b c && can 4 c d && can 4 d p) = true then (2 ^ p ||| 2 ^ b ||| 2 ^ c ||| 2 ^ d, gn p b + gn b c + gn c d + gn d p, 4, 4 + 8 * b + 128 * c + 2048 * d) :: q_o4 can gn set p b c m (d + 1) else q_o4 can gn set p b c m (d + 1)
def q_o3 (can : Nat → Nat → Nat → Bool) (gn : Nat → Nat → Int32) (pe k set p b : Nat) : Nat → Nat → List q_O
  | 0, _ => []
  | m + 1, c => if (set.testBit c && !decide (c = b)) = true then ((if (can 3 p b && can 3 b c && can 3 c p) = true then [(2 ^ p ||| 2 ^ b ||| 2 ^ c, gn p b + gn b c + gn c p, 3, 3 + 8 * b + 128 * c)] else []) ++ (if 3 < k then q_o4 can gn set p b c (pe - (p + 1)) (p + 1) else [])) ++ q_o3 can gn pe k set p b m (c + 1) else q_o3 can gn pe k set p b m (c + 1)
def q_o2 (can : Nat → Nat → Nat → Bool) (gn : Nat → Nat → Int32) (pe k set p : Nat) : Nat → Nat → List q_O
  | 0, _ => []
  | m + 1, b => if set.testBit b = true then ((if (can 2 p b && can 2 b p) = true then [(2 ^ p ||| 2 ^ b, gn p b + gn b p, 2, 2 + 8 * b)] else []) ++ (if 2 < k then q_o3 can gn pe k set p b (pe - (p + 1)) (p + 1) else [])) ++ q_o2 can gn pe k set p m (b + 1) else q_o2 can gn pe k set p m (b + 1)
/-- the best of a set, those of lesser sets being D -/
def q_De (can : Nat → Nat → Nat → Bool) (gn : Nat → Nat → Int32) (pe k : Nat) (D : Nat → q_T3) (set : Nat) : q_T3 :=
  (q_o2 can gn pe k set (q_lo set) (pe - (q_lo set + 1)) (q_lo set + 1)).foldl (q_of1 D set) ((D (q_wo set (2 ^ q_lo set))).1, (D (q_wo set (2 ^ q_lo set))).2.1, 0)
def q_Dt (can : Nat → Nat → Nat → Bool) (gn : Nat → Nat → Int32) (pe k : Nat) : Nat → Nat → q_T3
  | 0 => fun _ => (0, 0, 0)
  | s + 1 => fun i => if i = s + 1 then q_De can gn pe k (q_Dt can gn pe k s) (s + 1) else q_Dt can gn pe k s i
theorem q_Dt_st (can : Nat → Nat → Nat → Bool) (gn : Nat → Nat → Int32) (pe k : Nat) {i : Nat} : ∀ s, i ≤ s → q_Dt can gn pe k s i = q_Dt can gn pe k i i
  | 0, h => by
    have : i = 0 := by omega
    rw [this]
  | s + 1, h => by
    by_cases e : i = s + 1
    · rw [e]
    · rw [← q_Dt_st can gn pe k s (by omega)]
      show (if _ then _ else _) = _
      rw [if_neg e]
/-- offers are small -/
def q_ob (set : Nat) (o : q_O) : Prop := q_wo set o.1 < set ∧ o.2.2.1 ≤ 4 ∧ o.2.2.2 < 32768
theorem q_of1_b {D : Nat → q_T3} {set : Nat} {b : q_T3} {o : q_O} (hD : ∀ i, i < set → (D i).2.1 ≤ 4 * i) (hb : b.2.1 ≤ 4 * set ∧ b.2.2 < 32768) (ho : q_ob set o) : (q_of1 D set b o).2.1 ≤ 4 * set ∧ (q_of1 D set b o).2.2 < 32768 := by
  unfold q_of1
  split
  · exact hb
  · have := hD _ ho.1
    have h1 := ho.1
    have h2 := ho.2.1
    refine ⟨?_, ho.2.2⟩
    show o.2.2.1 + _ ≤ _
    omega
theorem q_fold_b {D : Nat → q_T3} {set : Nat} (hD : ∀ i, i < set → (D i).2.1 ≤ 4 * i) : ∀ (l : List q_O) (b : q_T3), (∀ o ∈ l, q_ob set o) → b.2.1 ≤ 4 * set ∧ b.2.2 < 32768 → (l.foldl (q_of1 D set) b).2.1 ≤ 4 * set ∧ (l.foldl (q_of1 D set) b).2.2 < 32768
  | [], _, _, h => h
  | o :: l, b, hl, h => q_fold_b hD l _ (fun x hx => hl x (List.mem_cons_of_mem _ hx)) (q_of1_b hD h (hl o List.mem_cons_self))
theorem q_2p {p x : Nat} : (2 ^ p ||| x).testBit p = true := by
  rw [Nat.testBit_or, Nat.testBit_two_pow_self]
  rfl
theorem q_o4_b {can : Nat → Nat → Nat → Bool} {gn : Nat → Nat → Int32} {set p b c : Nat} (hs : set.testBit p = true) (hb : b < 10) (hc : c < 10) : ∀ (m d : Nat), d + m ≤ 10 → ∀ o ∈ q_o4 can gn set p b c m d, q_ob set o
  | 0, _, _, o, h => absurd h List.not_mem_nil
  | m + 1, d, hd, o, h => by
    unfold q_o4 at h
    split at h
    · rcases List.mem_cons.mp h with e | e
      · subst e
        refine ⟨q_wo_lt hs ?_, Nat.le_refl _, ?_⟩
        · show (2 ^ p ||| 2 ^ b ||| 2 ^ c ||| 2 ^ d).testBit p = true
          rw [Nat.or_assoc, Nat.or_assoc]
          exact q_2p
        · show 4 + 8 * b + 128 * c + 2048 * d < 32768
          omega
      · exact q_o4_b hs hb hc m (d + 1) (by omega) o e
    · exact q_o4_b hs hb hc m (d + 1) (by omega) o h
theorem q_o3_b {can : Nat → Nat → Nat → Bool} {gn : Nat → Nat → Int32} {pe k set p b : Nat} (hpe : pe ≤ 10) (hp : p < pe) (hs : set.testBit p = true) (hb : b < 10) : ∀ (m c : Nat), c + m ≤ 10 → ∀ o ∈ q_o3 can gn pe k set p b m c, q_ob set o
  | 0, _, _, o, h => absurd h List.not_mem_nil
  | m + 1, c, hc, o, h => by
    unfold q_o3 at h
    split at h
    · rcases List.mem_append.mp h with h | h
      · rcases List.mem_append.mp h with h | h
        · split at h
          · rcases List.mem_singleton.mp h with rfl
            refine ⟨q_wo_lt hs ?_, by show (3 : Nat) ≤ 4; omega, by show 3 + 8 * b + 128 * c < 32768; omega⟩
            show (2 ^ p ||| 2 ^ b ||| 2 ^ c).testBit p = true
            rw [Nat.or_assoc]
            exact q_2p
          · exact absurd h List.not_mem_nil
        · split at h
          · exact q_o4_b hs hb (by omega) _ _ (by omega) o h
          · exact absurd h List.not_mem_nil
      · exact q_o3_b hpe hp hs hb m (c + 1) (by omega) o h
    · exact q_o3_b hpe hp hs hb m (c + 1) (by omega) o h
theorem q_o2_b {can : Nat → Nat → Nat → Bool} {gn : Nat → Nat → Int32} {pe k set p : Nat} (hpe : pe ≤ 10) (hp : p < pe) (hs : set.testBit p = true) : ∀ (m b : Nat), b + m ≤ 10 → ∀ o ∈ q_o2 can gn pe k set p m b, q_ob set o
  | 0, _, _, o, h => absurd h List.not_mem_nil
  | m + 1, b, hb, o, h => by
    unfold q_o2 at h
    split at h
    · rcases List.mem_append.mp h with h | h
      · rcases List.mem_append.mp h with h | h
        · split at h
          · rcases List.mem_singleton.mp h with rfl
            exact ⟨q_wo_lt hs q_2p, by show (2 : Nat) ≤ 4; omega, by show 2 + 8 * b < 32768; omega⟩
          · exact absurd h List.not_mem_nil
        · split at h
          · exact q_o3_b hpe hp hs (by omega) _ _ (by omega) o h
          · exact absurd h List.not_mem_nil
      · exact q_o2_b hpe hp hs m (b + 1) (by omega) o h
    · exact q_o2_b hpe hp hs m (b + 1) (by omega) o h
theorem q_Dt_b {can : Nat → Nat → Nat → Bool} {gn : Nat → Nat → Int32} {pe k : Nat} (hpe : pe ≤ 10) : ∀ s, s < 2 ^ pe → ∀ i, (q_Dt can gn pe k s i).2.1 ≤ 4 * i ∧ (q_Dt can gn pe k s i).2.2 < 32768
  | 0, _, i => ⟨Nat.zero_le _, by show 0 < 32768; omega⟩
  | s + 1, h, i => by
    have ih := q_Dt_b (can := can) (gn := gn) (k := k) hpe s (by omega)
    show (if _ then _ else _ : q_T3).2.1 ≤ _ ∧ (if _ then _ else _ : q_T3).2.2 < _
    split
    · next e =>
      subst e
      have h1 : s + 1 < 1024 := Nat.lt_of_lt_of_le h (Nat.pow_le_pow_right (by decide) hpe)
      obtain ⟨y1, y2, -⟩ := q_lo_ok (s := s + 1) (by omega) h1
      have y3 := q_tb_lt h y1
      have hw : q_wo (s + 1) (2 ^ q_lo (s + 1)) < s + 1 := q_wo_lt y1 Nat.testBit_two_pow_self
      refine q_fold_b (fun i _ => (ih i).1) _ _ (q_o2_b hpe y3 y1 _ _ (by omega)) ⟨?_, by show 0 < 32768; omega⟩
      have := (ih (q_wo (s + 1) (2 ^ q_lo (s + 1)))).1
      show (q_Dt can gn pe k s (q_wo (s + 1) (2 ^ q_lo (s + 1)))).2.1 ≤ _
      omega
    · exact ih i
