/-! MOST: what is noted -/
theorem q_mx_l (a b : Int32) : a ≤ q_mx a b := by
  unfold q_mx
  split
  · next h => exact Int32.le_of_lt h
  · exact Int32.le_refl _
theorem q_mx_r (a b : Int32) : b ≤ q_mx a b := by
  unfold q_mx
  split
  · exact Int32.le_refl _
  · next h => exact Int32.not_lt.mp h
theorem q_mx_or (a b : Int32) : q_mx a b = a ∨ q_mx a b = b := by
  unfold q_mx
  split
  · exact Or.inr rfl
  · exact Or.inl rfl
theorem q_nt_1 (M : q_Mt) (o : Nat × Int32) (s : Nat) : (q_nt M o).1 s = if s = o.1 then q_mx (M.1 s) o.2 else M.1 s := by
  have e : (q_nt M o).1 = va_up M.1 o.1 (q_mx (M.1 o.1) o.2) := by
    unfold q_nt
    split <;> rfl
  rw [e]
  by_cases z : s = o.1
  · rw [if_pos z, z, va_up_self]
  · rw [if_neg z, va_up_ne _ _ z]
/-- scores -/
theorem q_nt_S : ∀ (L : List (Nat × Int32)) (M : q_Mt), (∀ s, M.1 s ≤ (L.foldl q_nt M).1 s) ∧ (∀ o, o ∈ L → o.2 ≤ (L.foldl q_nt M).1 o.1) ∧ ∀ s, (L.foldl q_nt M).1 s = M.1 s ∨ ∃ o, o ∈ L ∧ o.1 = s ∧ o.2 = (L.foldl q_nt M).1 s
  | [], M => ⟨fun s => Int32.le_refl _, fun o ho => absurd ho List.not_mem_nil, fun s => Or.inl rfl⟩
  | x :: L, M => by
    obtain ⟨k1, k2, k3⟩ := q_nt_S L (q_nt M x)
    show (∀ s, M.1 s ≤ (L.foldl q_nt (q_nt M x)).1 s) ∧ (∀ o, o ∈ x :: L → o.2 ≤ (L.foldl q_nt (q_nt M x)).1 o.1) ∧ ∀ s, (L.foldl q_nt (q_nt M x)).1 s = M.1 s ∨ ∃ o, o ∈ x :: L ∧ o.1 = s ∧ o.2 = (L.foldl q_nt (q_nt M x)).1 s
    refine ⟨fun s => Int32.le_trans ?_ (k1 s), fun o ho => ?_, fun s => ?_⟩
    · rw [q_nt_1]
      split
      · exact q_mx_l _ _
      · exact Int32.le_refl _
    · rcases List.mem_cons.mp ho with w | w
      · rw [w]
        refine Int32.le_trans ?_ (k1 x.1)
        rw [q_nt_1, if_pos rfl]
        exact q_mx_r _ _
      · exact k2 o w
    · rcases k3 s with w | ⟨o, w1, w2, w3⟩
      · rw [w, q_nt_1]
        by_cases z : s = x.1
        · rw [if_pos z]
          rcases q_mx_or (M.1 s) x.2 with y | y
          · exact Or.inl y
          · exact Or.inr ⟨x, List.mem_cons_self, z.symm, y.symm⟩
        · rw [if_neg z]
          exact Or.inl rfl
      · exact Or.inr ⟨o, List.mem_cons_of_mem _ w1, w2, w3⟩
/-- rings -/
theorem q_nt_C : ∀ (L : List (Nat × Int32)) (M : q_Mt), (∀ o, o ∈ L → (-1000000) < o.2) → M.2.2.1 ≤ (L.foldl q_nt M).2.2.1 ∧ (∀ i, i < M.2.2.1 → (L.foldl q_nt M).2.1 i = M.2.1 i) ∧ (∀ i, M.2.2.1 ≤ i → i < (L.foldl q_nt M).2.2.1 → ∃ o, o ∈ L ∧ o.1 = (L.foldl q_nt M).2.1 i) ∧ ∀ o, o ∈ L → M.1 o.1 = (-1000000) → ∃ i, M.2.2.1 ≤ i ∧ i < (L.foldl q_nt M).2.2.1 ∧ (L.foldl q_nt M).2.1 i = o.1
  | [], M, _ => ⟨Nat.le_refl _, fun i _ => rfl, fun i h1 h2 => absurd h1 (Nat.not_le.mpr h2), fun o ho => absurd ho List.not_mem_nil⟩
  | x :: L, M, hv => by
    obtain ⟨k1, k2, k3, k4⟩ := q_nt_C L (q_nt M x) (fun o ho => hv o (List.mem_cons_of_mem _ ho))
    show M.2.2.1 ≤ (L.foldl q_nt (q_nt M x)).2.2.1 ∧ (∀ i, i < M.2.2.1 → (L.foldl q_nt (q_nt M x)).2.1 i = M.2.1 i) ∧ (∀ i, M.2.2.1 ≤ i → i < (L.foldl q_nt (q_nt M x)).2.2.1 → ∃ o, o ∈ x :: L ∧ o.1 = (L.foldl q_nt (q_nt M x)).2.1 i) ∧ ∀ o, o ∈ x :: L → M.1 o.1 = (-1000000) → ∃ i, M.2.2.1 ≤ i ∧ i < (L.foldl q_nt (q_nt M x)).2.2.1 ∧ (L.foldl q_nt (q_nt M x)).2.1 i = o.1
    have hx := hv x List.mem_cons_self
    by_cases z : M.1 x.1 = (-1000000)
    · have e : q_nt M x = (va_up M.1 x.1 (q_mx (M.1 x.1) x.2), va_up M.2.1 M.2.2.1 x.1, M.2.2.1 + 1, M.2.2.2 ||| x.1) := if_pos z
      have ec : (q_nt M x).2.2.1 = M.2.2.1 + 1 := by rw [e]
      have er : ∀ i, (q_nt M x).2.1 i = va_up M.2.1 M.2.2.1 x.1 i := fun i => by rw [e]
      rw [ec] at k1 k2 k3 k4
      have new : (L.foldl q_nt (q_nt M x)).2.1 M.2.2.1 = x.1 := by rw [k2 _ (by omega), er, va_up_self]
      refine ⟨by omega, fun i hi => by rw [k2 i (by omega), er, va_up_ne _ _ (by omega)], fun i h1 h2 => ?_, fun o ho hm => ?_⟩
      · by_cases w : i = M.2.2.1
        · rw [w, new]
          exact ⟨x, List.mem_cons_self, rfl⟩
        · obtain ⟨o, o1, o2⟩ := k3 i (by omega) h2
          exact ⟨o, List.mem_cons_of_mem _ o1, o2⟩
      · by_cases w : o.1 = x.1
        · rw [w]
          exact ⟨M.2.2.1, Nat.le_refl _, by omega, new⟩
        · rcases List.mem_cons.mp ho with y | y
          · exact absurd (by rw [y]) w
          · obtain ⟨i, i1, i2, i3⟩ := k4 o y (by rw [q_nt_1, if_neg w]; exact hm)
            exact ⟨i, by omega, i2, i3⟩
    · have e : q_nt M x = (va_up M.1 x.1 (q_mx (M.1 x.1) x.2), M.2.1, M.2.2.1, M.2.2.2) := if_neg z
      have ec : (q_nt M x).2.2.1 = M.2.2.1 := by rw [e]
      have er : ∀ i, (q_nt M x).2.1 i = M.2.1 i := fun i => by rw [e]
      rw [ec] at k1 k2 k3 k4
      refine ⟨k1, fun i hi => by rw [k2 i hi, er], fun i h1 h2 => ?_, fun o ho hm => ?_⟩
      · obtain ⟨o, o1, o2⟩ := k3 i h1 h2
        exact ⟨o, List.mem_cons_of_mem _ o1, o2⟩
      · by_cases w : o.1 = x.1
        · rw [w] at hm
          exact absurd hm z
        · rcases List.mem_cons.mp ho with y | y
          · exact absurd (by rw [y]) w
          · exact k4 o y (by rw [q_nt_1, if_neg w]; exact hm)
/-- who is in some ring -/
def q_ma (M : q_Mt) : Prop := ∀ s, ¬ M.1 s = (-1000000) → ∀ i, s.testBit i = true → M.2.2.2.testBit i = true
theorem q_nt_A : ∀ (L : List (Nat × Int32)) (M : q_Mt), q_ma M → q_ma (L.foldl q_nt M) ∧ ∀ i, (L.foldl q_nt M).2.2.2.testBit i = true ↔ M.2.2.2.testBit i = true ∨ ∃ o, o ∈ L ∧ o.1.testBit i = true
  | [], M, h => ⟨h, fun i => ⟨Or.inl, fun h => h.elim id (fun ⟨o, h1, _⟩ => absurd h1 List.not_mem_nil)⟩⟩
  | x :: L, M, h => by
    have e4 : ∀ i, (q_nt M x).2.2.2.testBit i = true ↔ M.2.2.2.testBit i = true ∨ x.1.testBit i = true := by
      intro i
      by_cases z : M.1 x.1 = (-1000000)
      · rw [show q_nt M x = (va_up M.1 x.1 (q_mx (M.1 x.1) x.2), va_up M.2.1 M.2.2.1 x.1, M.2.2.1 + 1, M.2.2.2 ||| x.1) from if_pos z]
        dsimp only
        rw [Nat.testBit_or, Bool.or_eq_true]
      · rw [show q_nt M x = (va_up M.1 x.1 (q_mx (M.1 x.1) x.2), M.2.1, M.2.2.1, M.2.2.2) from if_neg z]
        exact ⟨Or.inl, fun w => w.elim id (fun w => h x.1 z i w)⟩
    have h1 : q_ma (q_nt M x) := by
      intro s hs i hi
      rw [e4]
      rw [q_nt_1] at hs
      by_cases z : s = x.1
      · rw [z] at hi
        exact Or.inr hi
      · rw [if_neg z] at hs
        exact Or.inl (h s hs i hi)
    obtain ⟨k1, k2⟩ := q_nt_A L (q_nt M x) h1
    refine ⟨k1, fun i => ?_⟩
    show (L.foldl q_nt (q_nt M x)).2.2.2.testBit i = true ↔ _
    rw [k2 i, e4 i]
    constructor
    · rintro ((w | w) | ⟨o, w1, w2⟩)
      · exact Or.inl w
      · exact Or.inr ⟨x, List.mem_cons_self, w⟩
      · exact Or.inr ⟨o, List.mem_cons_of_mem _ w1, w2⟩
    · rintro (w | ⟨o, w1, w2⟩)
      · exact Or.inl (Or.inl w)
      · rcases List.mem_cons.mp w1 with y | y
        · exact Or.inl (Or.inr (by rw [← y]; exact w2))
        · exact Or.inr ⟨o, y, w2⟩
theorem q_al_mem {can : Nat → Nat → Nat → Bool} {gn : Nat → Nat → Int32} {pe k : Nat} {x : Nat × Int32} : ∀ p, x ∈ q_al can gn pe k p ↔ ∃ q, q < p ∧ x ∈ q_szs can gn pe q (k - 1) 2
  | 0 => ⟨fun h => absurd h List.not_mem_nil, fun ⟨q, h, _⟩ => absurd h (Nat.not_lt_zero q)⟩
  | p + 1 => by
    show x ∈ q_al can gn pe k p ++ q_szs can gn pe p (k - 1) 2 ↔ _
    rw [List.mem_append, q_al_mem p]
    constructor
    · rintro (⟨q, h1, h2⟩ | h)
      · exact ⟨q, by omega, h2⟩
      · exact ⟨p, by omega, h⟩
    · rintro ⟨q, h1, h2⟩
      by_cases z : q = p
      · rw [z] at h2
        exact Or.inr h2
      · exact Or.inl ⟨q, by omega, h2⟩
theorem q_al_pre {can : Nat → Nat → Nat → Bool} {gn : Nat → Nat → Int32} {pe k p : Nat} : ∀ q, p ≤ q → ∃ R, q_al can gn pe k q = q_al can gn pe k p ++ R ∧ ∀ x, x ∈ R → ∃ t, p ≤ t ∧ t < q ∧ x ∈ q_szs can gn pe t (k - 1) 2
  | 0, h => ⟨[], by rw [show p = 0 by omega, List.append_nil], fun x hx => absurd hx List.not_mem_nil⟩
  | q + 1, h => by
    by_cases z : p = q + 1
    · exact ⟨[], by rw [z, List.append_nil], fun x hx => absurd hx List.not_mem_nil⟩
    · obtain ⟨R, h1, h2⟩ := q_al_pre (can := can) (gn := gn) (pe := pe) (k := k) q (show p ≤ q by omega)
      refine ⟨R ++ q_szs can gn pe q (k - 1) 2, ?_, fun x hx => ?_⟩
      · show q_al can gn pe k q ++ _ = _
        rw [h1, List.append_assoc]
      · rcases List.mem_append.mp hx with w | w
        · obtain ⟨t, t1, t2, t3⟩ := h2 x w
          exact ⟨t, t1, by omega, t3⟩
        · exact ⟨q, by omega, by omega, w⟩
theorem q_RG_lo {can : Nat → Nat → Nat → Bool} {gn : Nat → Nat → Int32} {pe k p p' s n n' num num' : Nat} {g g' : Int32} (h : q_RG can gn pe k p s g n num) (h' : q_RG can gn pe k p' s g' n' num') : p = p' := by
  have a := q_RG_p h
  have b := q_RG_p h'
  have := (a.2.2.2.2 p' b.1).1
  have := (b.2.2.2.2 p a.1).1
  omega
theorem q_Mfin {can : Nat → Nat → Nat → Bool} {gn : Nat → Nat → Int32} {pe k : Nat} {rg : Nat → Nat} (h2 : 2 ≤ k) (hk : k ≤ 4) (hg : q_gB gn pe) {M : q_Mt} (hM : M = (q_al can gn pe k pe).foldl q_nt (q_M0 rg)) :
    (∀ p, p < pe → ((q_al can gn pe k p).foldl q_nt (q_M0 rg)).2.2.1 ≤ ((q_al can gn pe k (p + 1)).foldl q_nt (q_M0 rg)).2.2.1 ∧ ((q_al can gn pe k (p + 1)).foldl q_nt (q_M0 rg)).2.2.1 ≤ M.2.2.1) ∧
    (∀ p i, p < pe → ((q_al can gn pe k p).foldl q_nt (q_M0 rg)).2.2.1 ≤ i → i < ((q_al can gn pe k (p + 1)).foldl q_nt (q_M0 rg)).2.2.1 → ∃ g n num, q_RG can gn pe k p (M.2.1 i) g n num ∧ M.1 (M.2.1 i) = g * nI 16 - nI n) ∧
    (∀ p s g n num, q_RG can gn pe k p s g n num → g * nI 16 - nI n ≤ M.1 s ∧ ∃ i, ((q_al can gn pe k p).foldl q_nt (q_M0 rg)).2.2.1 ≤ i ∧ i < ((q_al can gn pe k (p + 1)).foldl q_nt (q_M0 rg)).2.2.1 ∧ M.2.1 i = s) ∧
    (∀ s, ¬ M.1 s = (-1000000) → ∃ p g n num, p < pe ∧ q_RG can gn pe k p s g n num) ∧
    ∀ i, M.2.2.2.testBit i = true ↔ ∃ p s g n num, p < pe ∧ q_RG can gn pe k p s g n num ∧ s.testBit i = true := by
  have vn : ∀ p x, p < pe → x ∈ q_szs can gn pe p (k - 1) 2 → (-1000000) < x.2 := fun p x hp hx => by
    obtain ⟨g, n, num, r1, r2⟩ := (q_szs_mem h2 hk hp).mp hx
    rw [r2]
    have := (q_RG_p r1).2.2.1
    exact q_sc_no (by omega) (q_RG_g hg r1) (by omega)
  have va : ∀ p, p ≤ pe → ∀ x, x ∈ q_al can gn pe k p → (-1000000) < x.2 := fun p hp x hx => by
    obtain ⟨q, q1, q2⟩ := (q_al_mem p).mp hx
    exact vn q x (by omega) q2
  have sall := q_nt_S (q_al can gn pe k pe) (q_M0 rg)
  rw [← hM] at sall
  have sp : ∀ p, p ≤ pe → ∀ s, ¬ ((q_al can gn pe k p).foldl q_nt (q_M0 rg)).1 s = (-1000000) → ∃ q g n num, q < p ∧ q_RG can gn pe k q s g n num ∧ ((q_al can gn pe k p).foldl q_nt (q_M0 rg)).1 s = g * nI 16 - nI n := fun p hp s hs => by
    rcases (q_nt_S (q_al can gn pe k p) (q_M0 rg)).2.2 s with w | ⟨o, w1, w2, w3⟩
    · exact absurd w hs
    · obtain ⟨q, q1, q2⟩ := (q_al_mem p).mp w1
      obtain ⟨g, n, num, r1, r2⟩ := (q_szs_mem h2 hk (by omega)).mp q2
      rw [w2] at r1
      exact ⟨q, g, n, num, q1, r1, by rw [← w3, r2]⟩
  have stp : ∀ p, p < pe → (q_al can gn pe k (p + 1)).foldl q_nt (q_M0 rg) = (q_szs can gn pe p (k - 1) 2).foldl q_nt ((q_al can gn pe k p).foldl q_nt (q_M0 rg)) := fun p _ => List.foldl_append ..
  have rst : ∀ p, p < pe → ∃ R : List (Nat × Int32), M = R.foldl q_nt ((q_al can gn pe k (p + 1)).foldl q_nt (q_M0 rg)) ∧ ∀ o, o ∈ R → (-1000000) < o.2 := fun p hp => by
    obtain ⟨R, r1, r2⟩ := q_al_pre (can := can) (gn := gn) (pe := pe) (k := k) (p := p + 1) pe hp
    refine ⟨R, by rw [hM, r1, List.foldl_append], fun o ho => ?_⟩
    obtain ⟨t, t1, t2, t3⟩ := r2 o ho
    exact vn t o t2 t3
  refine ⟨fun p hp => ?_, fun p i hp h1 h3 => ?_, fun p s g n num hr => ?_, fun s hs => ?_, fun i => ?_⟩
  · obtain ⟨R, r1, r2⟩ := rst p hp
    refine ⟨?_, by rw [r1]; exact (q_nt_C R _ r2).1⟩
    rw [stp p hp]
    exact (q_nt_C _ _ (fun o ho => vn p o hp ho)).1
  · obtain ⟨R, r1, r2⟩ := rst p hp
    have er : M.2.1 i = ((q_al can gn pe k (p + 1)).foldl q_nt (q_M0 rg)).2.1 i := by rw [r1]; exact (q_nt_C R _ r2).2.1 i h3
    have c3 := (q_nt_C (q_szs can gn pe p (k - 1) 2) ((q_al can gn pe k p).foldl q_nt (q_M0 rg)) (fun o ho => vn p o hp ho)).2.2.1
    rw [← stp p hp] at c3
    obtain ⟨o, o1, o2⟩ := c3 i h1 h3
    rw [← er] at o2
    obtain ⟨g, n, num, w1, w2⟩ := (q_szs_mem h2 hk hp).mp o1
    rw [o2] at w1
    have oM : o ∈ q_al can gn pe k pe := (q_al_mem pe).mpr ⟨p, hp, o1⟩
    have le := sall.2.1 o oM
    rw [o2] at le
    have nn : ¬ M.1 (M.2.1 i) = (-1000000) := fun z => by
      rw [z] at le
      exact absurd (vn p o hp o1) (Int32.not_lt.mpr le)
    have k := sp pe (Nat.le_refl _) (M.2.1 i) (by rw [← hM]; exact nn)
    rw [← hM] at k
    obtain ⟨q, g', n', num', q1, q2, q3⟩ := k
    have e := q_RG_lo w1 q2
    rw [← e] at q2
    exact ⟨g', n', num', q2, q3⟩
  · have hp := (q_RG_p hr).2.2.2.1
    obtain ⟨R, r1, r2⟩ := rst p hp
    have om : (s, g * nI 16 - nI n) ∈ q_szs can gn pe p (k - 1) 2 := (q_szs_mem h2 hk hp).mpr ⟨g, n, num, hr, rfl⟩
    refine ⟨sall.2.1 _ ((q_al_mem pe).mpr ⟨p, hp, om⟩), ?_⟩
    have fresh : ((q_al can gn pe k p).foldl q_nt (q_M0 rg)).1 s = (-1000000) := by
      apply Classical.byContradiction
      intro z
      obtain ⟨q, g', n', num', q1, q2, _⟩ := sp p (by omega) s z
      have := q_RG_lo hr q2
      omega
    have c4 := (q_nt_C (q_szs can gn pe p (k - 1) 2) ((q_al can gn pe k p).foldl q_nt (q_M0 rg)) (fun o ho => vn p o hp ho)).2.2.2
    rw [← stp p hp] at c4
    obtain ⟨i, i1, i2, i3⟩ := c4 _ om fresh
    exact ⟨i, i1, i2, by rw [r1, (q_nt_C R _ r2).2.1 i i2]; exact i3⟩
  · have k := sp pe (Nat.le_refl _) s (by rw [← hM]; exact hs)
    obtain ⟨q, g, n, num, q1, q2, _⟩ := k
    exact ⟨q, g, n, num, q1, q2⟩
  · have k := (q_nt_A (q_al can gn pe k pe) (q_M0 rg) (fun s hs => absurd rfl hs)).2 i
    rw [← hM] at k
    rw [k]
    constructor
    · rintro (w | ⟨o, w1, w2⟩)
      · rw [show (q_M0 rg).2.2.2 = 0 from rfl, Nat.zero_testBit] at w
        cases w
      · obtain ⟨q, q1, q2⟩ := (q_al_mem pe).mp w1
        obtain ⟨g, n, num, r1, r2⟩ := (q_szs_mem h2 hk q1).mp q2
        exact ⟨q, o.1, g, n, num, q1, r1, w2⟩
    · rintro ⟨p, s, g, n, num, h1, h3, h4⟩
      exact Or.inr ⟨(s, g * nI 16 - nI n), (q_al_mem pe).mpr ⟨p, h1, (q_szs_mem h2 hk h1).mpr ⟨g, n, num, h3, rfl⟩⟩, h4⟩

