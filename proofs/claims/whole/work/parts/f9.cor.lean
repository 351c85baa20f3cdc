/-! CORE: pointing as the class does it -/
/-- likings are small -/
def q_sm9 (x : Int32) : Prop := -999 ≤ x.toInt ∧ x.toInt ≤ 999
theorem q_lk_sm {S : qS} {rf : Option qR} (g : gL S) {p a q : Nat} (hp : p < s_n S 1) (hq : q < 8) : q_sm9 (q_lk S rf p a q) := by
  obtain ⟨u, h1, h2⟩ := q_lk_u (rf := rf) (a := a) g hp hq
  unfold q_sm9
  rw [h2, nI_sub9 h1]
  omega
theorem q_ll_sm {S : qS} {rf : Option qR} {ly : Option (Nat × Nat)} (g : gL S) {p a q : Nat} (hp : p < s_n S 1) (hq : q < 8) : q_sm9 (q_ll S rf ly p a q) := by
  unfold q_ll
  split
  · exact q_lk_sm g hp hq
  · split
    · split
      · exact ⟨by decide, by decide⟩
      · exact ⟨by decide, by decide⟩
    · exact q_lk_sm g hp hq
theorem sm9_sub {x y : Int32} (hx : q_sm9 x) (hy : q_sm9 y) : (x - y).toInt = x.toInt - y.toInt := by
  have h1 := hx.1
  have h2 := hx.2
  have h3 := hy.1
  have h4 := hy.2
  rw [Int32.toInt_sub, Int.bmod_eq_of_le (by omega) (by omega)]
theorem sm9_gt {x y : Int32} (hx : q_sm9 x) (hy : q_sm9 y) : 0 < x - y ↔ y < x := by
  have e := sm9_sub hx hy
  have e0 : (0 : Int32).toInt = 0 := by decide
  constructor
  · intro h
    have := Int32.lt_iff_toInt_lt.mp h
    exact Int32.lt_iff_toInt_lt.mpr (by omega)
  · intro h
    have := Int32.lt_iff_toInt_lt.mp h
    exact Int32.lt_iff_toInt_lt.mpr (by omega)
theorem sm9_eq {x y : Int32} (hx : q_sm9 x) (hy : q_sm9 y) : x - y = 0 ↔ x = y := by
  have e := sm9_sub hx hy
  have e0 : (0 : Int32).toInt = 0 := by decide
  constructor
  · intro h
    rw [h, e0] at e
    exact Int32.toInt_inj.mp (by omega)
  · intro h
    rw [h] at e ⊢
    exact Int32.toInt_inj.mp (by omega)
/-- one more to be looked at -/
def q_cps (lk : Nat → Int32) (at' : Nat → Nat) (left p o b : Nat) : Nat := if left.testBit o = true ∧ (lk (at' b) < lk (at' o) ∨ (lk (at' o) = lk (at' b) ∧ b ≠ p ∧ at' o < at' b)) then o else b
def q_cpl (lk : Nat → Int32) (at' : Nat → Nat) (left p : Nat) : Nat → Nat → Nat → Nat
  | 0, _, b => b
  | m + 1, o, b => q_cpl lk at' left p m (o + 1) (q_cps lk at' left p o b)
/-- what is known of the best of those before n -/
def q_cpi (lk : Nat → Int32) (at' : Nat → Nat) (left p n b : Nat) : Prop := (b = p ∧ ∀ t, t < n → left.testBit t = true → ¬ lk (at' p) < lk (at' t)) ∨ (b ≠ p ∧ b < n ∧ left.testBit b = true ∧ lk (at' p) < lk (at' b) ∧ ∀ t, t < n → left.testBit t = true → lk (at' t) < lk (at' b) ∨ (lk (at' t) = lk (at' b) ∧ (at' b < at' t ∨ (at' b = at' t ∧ b ≤ t))))
theorem i_tri (x y : Int32) : x < y ∨ x = y ∨ y < x := by
  rcases Int.lt_trichotomy x.toInt y.toInt with h | h | h
  · exact Or.inl (Int32.lt_iff_toInt_lt.mpr h)
  · exact Or.inr (Or.inl (Int32.toInt_inj.mp h))
  · exact Or.inr (Or.inr (Int32.lt_iff_toInt_lt.mpr h))
theorem q_cpi_s {lk : Nat → Int32} {at' : Nat → Nat} {left p o b : Nat} (h : q_cpi lk at' left p o b) : q_cpi lk at' left p (o + 1) (q_cps lk at' left p o b) := by
  unfold q_cps
  by_cases hl : left.testBit o = true
  · rcases h with ⟨h1, h2⟩ | ⟨h1, h2, h3, h4, h5⟩
    · subst h1
      by_cases z : lk (at' b) < lk (at' o)
      · rw [if_pos ⟨hl, Or.inl z⟩]
        refine Or.inr ⟨fun w => ?_, by omega, hl, z, fun t ht htl => ?_⟩
        · rw [w] at z
          exact Int32.lt_irrefl z
        · by_cases w : t = o
          · rw [w]
            exact Or.inr ⟨rfl, Or.inr ⟨rfl, Nat.le_refl _⟩⟩
          · have := h2 t (by omega) htl
            left
            rcases i_tri (lk (at' t)) (lk (at' b)) with q | q | q
            · exact Int32.lt_trans q z
            · rw [q]; exact z
            · exact absurd q this
      · rw [if_neg (fun w => w.2.elim z (fun w => w.2.1 rfl))]
        refine Or.inl ⟨rfl, fun t ht htl => ?_⟩
        by_cases w : t = o
        · rw [w]; exact z
        · exact h2 t (by omega) htl
    · by_cases z : lk (at' b) < lk (at' o) ∨ (lk (at' o) = lk (at' b) ∧ b ≠ p ∧ at' o < at' b)
      · rw [if_pos ⟨hl, z⟩]
        have zp : lk (at' p) < lk (at' o) := z.elim (fun z => Int32.lt_trans h4 z) (fun z => by rw [z.1]; exact h4)
        refine Or.inr ⟨fun w => ?_, by omega, hl, zp, fun t ht htl => ?_⟩
        · rw [w] at zp
          exact Int32.lt_irrefl zp
        · by_cases w : t = o
          · rw [w]
            exact Or.inr ⟨rfl, Or.inr ⟨rfl, Nat.le_refl _⟩⟩
          · rcases h5 t (by omega) htl with y | ⟨y1, y2⟩
            · exact Or.inl (z.elim (fun z => Int32.lt_trans y z) (fun z => by rw [z.1]; exact y))
            · rcases z with z | z
              · exact Or.inl (by rw [y1]; exact z)
              · exact Or.inr ⟨by rw [y1, z.1], Or.inl (by omega)⟩
      · rw [if_neg (fun w => z w.2)]
        refine Or.inr ⟨h1, by omega, h3, h4, fun t ht htl => ?_⟩
        by_cases w : t = o
        · rw [w]
          rcases i_tri (lk (at' o)) (lk (at' b)) with q | q | q
          · exact Or.inl q
          · refine Or.inr ⟨q, ?_⟩
            rcases Nat.lt_trichotomy (at' o) (at' b) with y | y | y
            · exact absurd (Or.inr ⟨q, h1, y⟩) z
            · exact Or.inr ⟨y.symm, by omega⟩
            · exact Or.inl y
          · exact absurd (Or.inl q) z
        · exact h5 t (by omega) htl
  · rw [if_neg (fun w => hl w.1)]
    rcases h with ⟨h1, h2⟩ | ⟨h1, h2, h3, h4, h5⟩
    · refine Or.inl ⟨h1, fun t ht htl => ?_⟩
      by_cases w : t = o
      · rw [w] at htl
        exact absurd htl hl
      · exact h2 t (by omega) htl
    · refine Or.inr ⟨h1, by omega, h3, h4, fun t ht htl => ?_⟩
      by_cases w : t = o
      · rw [w] at htl
        exact absurd htl hl
      · exact h5 t (by omega) htl
theorem q_cpl_i {lk : Nat → Int32} {at' : Nat → Nat} {left p : Nat} : ∀ (m o b : Nat), q_cpi lk at' left p o b → q_cpi lk at' left p (o + m) (q_cpl lk at' left p m o b)
  | 0, _, _, h => h
  | m + 1, o, b, h => by
    have k := q_cpl_i m (o + 1) _ (q_cpi_s h)
    rw [show o + 1 + m = o + (m + 1) by omega] at k
    exact k
/-- the same of the reference's best place -/
def q_pbi (lf : Nat → Bool) (lk : Nat → Int32) (a n : Nat) (b : Nat × Int32) : Prop := b.2 = lk b.1 ∧ ((b.1 = a ∧ ∀ q, q < n → lf q = true → ¬ lk a < lk q) ∨ (b.1 < n ∧ lf b.1 = true ∧ lk a < lk b.1 ∧ ∀ q, q < n → lf q = true → lk q < lk b.1 ∨ (lk q = lk b.1 ∧ b.1 ≤ q)))
theorem q_pb_i {lf : Nat → Bool} {lk : Nat → Int32} {a : Nat} : ∀ (m n : Nat) (b : Nat × Int32), q_pbi lf lk a n b → q_pbi lf lk a (n + m) (q_pb lf lk m n b)
  | 0, _, _, h => h
  | m + 1, n, b, h => by
    have key : ∀ b', q_pbi lf lk a (n + 1) b' → q_pbi lf lk a (n + (m + 1)) (q_pb lf lk m (n + 1) b') := fun b' hb => by
      have k := q_pb_i m (n + 1) b' hb
      rw [show n + 1 + m = n + (m + 1) by omega] at k
      exact k
    show q_pbi lf lk a (n + (m + 1)) (if lf n = true ∧ b.2 < lk n then q_pb lf lk m (n + 1) (n, lk n) else q_pb lf lk m (n + 1) b)
    obtain ⟨e, h⟩ := h
    by_cases z : lf n = true ∧ b.2 < lk n
    · rw [if_pos z]
      refine key _ ⟨rfl, Or.inr ⟨Nat.lt_succ_self n, z.1, ?_, fun q hq hl => ?_⟩⟩
      · rcases h with ⟨h1, h2⟩ | ⟨h1, h2, h3, h4⟩
        · rw [← h1, ← e]; exact z.2
        · exact Int32.lt_trans h3 (by rw [← e]; exact z.2)
      · dsimp only
        by_cases w : q = n
        · rw [w]; exact Or.inr ⟨rfl, Nat.le_refl _⟩
        · left
          rcases h with ⟨h1, h2⟩ | ⟨h1, h2, h3, h4⟩
          · have k := h2 q (by omega) hl
            have zz : lk a < lk n := by rw [← h1, ← e]; exact z.2
            rcases i_tri (lk q) (lk a) with y | y | y
            · exact Int32.lt_trans y zz
            · rw [y]; exact zz
            · exact absurd y k
          · have zz : lk b.1 < lk n := by rw [← e]; exact z.2
            rcases h4 q (by omega) hl with y | y
            · exact Int32.lt_trans y zz
            · rw [y.1]; exact zz
    · rw [if_neg z]
      refine key _ ⟨e, ?_⟩
      rcases h with ⟨h1, h2⟩ | ⟨h1, h2, h3, h4⟩
      · refine Or.inl ⟨h1, fun q hq hl => ?_⟩
        by_cases w : q = n
        · rw [w] at hl ⊢
          exact fun y => z ⟨hl, by rw [e, h1]; exact y⟩
        · exact h2 q (by omega) hl
      · refine Or.inr ⟨by omega, h2, h3, fun q hq hl => ?_⟩
        by_cases w : q = n
        · rw [w] at hl ⊢
          rcases i_tri (lk n) (lk b.1) with y | y | y
          · exact Or.inl y
          · exact Or.inr ⟨y, by omega⟩
          · exact absurd ⟨hl, by rw [e]; exact y⟩ z
        · exact h4 q (by omega) hl
theorem q_fst_eq {f : Nat → Bool} {d b : Nat} : ∀ (m o : Nat), o ≤ b → b < o + m → f b = true → (∀ t, o ≤ t → t < b → f t = false) → q_fst f d m o = b
  | 0, o, h1, h2, _, _ => absurd h2 (by omega)
  | m + 1, o, h1, h2, hb, hn => by
    unfold q_fst
    by_cases z : o = b
    · rw [z, if_pos hb]
    · rw [if_neg (by rw [hn o (Nat.le_refl _) (by omega)]; decide)]
      exact q_fst_eq m (o + 1) (by omega) (by omega) hb (fun t ht => hn t (by omega))
theorem q_cpl_pa {S : qS} {rf : Option qR} {ly : Option (Nat × Nat)} (g : gS S) {left p : Nat} (hp : p < s_n S 1) : q_cpl (q_ll S rf ly p (s_at S p)) (s_at S) left p (s_n S 1) 0 p = q_pa S rf ly left p := by
  have hc := q_cpl_i (lk := q_ll S rf ly p (s_at S p)) (at' := s_at S) (left := left) (p := p) (s_n S 1) 0 p (Or.inl ⟨rfl, fun t ht => absurd ht (Nat.not_lt_zero t)⟩)
  have hr := q_pb_i (lf := q_lf S left) (lk := q_ll S rf ly p (s_at S p)) (a := s_at S p) (s_n S 0) 0 (s_at S p, q_ll S rf ly p (s_at S p) (s_at S p)) ⟨rfl, Or.inl ⟨rfl, fun q hq => absurd hq (Nat.not_lt_zero q)⟩⟩
  rw [Nat.zero_add] at hc hr
  unfold q_pa
  dsimp only
  generalize q_pb (q_lf S left) (q_ll S rf ly p (s_at S p)) (s_n S 0) 0 (s_at S p, q_ll S rf ly p (s_at S p) (s_at S p)) = B at hr ⊢
  generalize q_cpl (q_ll S rf ly p (s_at S p)) (s_at S) left p (s_n S 1) 0 p = b at hc ⊢
  generalize q_ll S rf ly p (s_at S p) = lk at hc hr
  have lf1 : ∀ t, t < s_n S 1 → left.testBit t = true → q_lf S left (s_at S t) = true := fun t ht hl => (q_ex_iff _ _ _).mpr ⟨t, by omega, by omega, by rw [hl, decide_eq_true rfl]; rfl⟩
  have lf2 : ∀ q, q_lf S left q = true → ∃ t, t < s_n S 1 ∧ left.testBit t = true ∧ s_at S t = q := fun q h => by
    obtain ⟨t, -, h2, h3⟩ := (q_ex_iff _ _ _).mp h
    rw [Bool.and_eq_true] at h3
    exact ⟨t, by omega, h3.1, of_decide_eq_true h3.2⟩
  rcases hc with ⟨c1, c2⟩ | ⟨c1, c2, c3, c4, c5⟩
  · rcases hr.2 with ⟨r1, r2⟩ | ⟨r1, r2, r3, r4⟩
    · rw [if_pos r1, c1]
    · obtain ⟨t, t1, t2, t3⟩ := lf2 _ r2
      exact absurd (by rw [t3]; exact r3) (c2 t t1 t2)
  · have pb := (g.2.2 b c2).2
    have lb := lf1 b c2 c3
    rcases hr.2 with ⟨r1, r2⟩ | ⟨r1, r2, r3, r4⟩
    · exact absurd c4 (r2 _ pb lb)
    · obtain ⟨t, t1, t2, t3⟩ := lf2 _ r2
      have eb : s_at S b = B.1 := by
        rcases c5 t t1 t2 with y | ⟨y1, y2⟩
        · rw [t3] at y
          rcases r4 _ pb lb with w | w
          · exact absurd (Int32.lt_trans y w) (fun z => Int32.lt_irrefl z)
          · rw [w.1] at y
            exact absurd y (fun z => Int32.lt_irrefl z)
        · rw [t3] at y1 y2
          rcases r4 _ pb lb with w | w
          · rw [y1] at w
            exact absurd w (fun z => Int32.lt_irrefl z)
          · have w2 : _ ≤ s_at S b := w.2
            rcases y2 with z | z
            · omega
            · exact z.1
      rw [if_neg (fun z => by rw [z] at r3; exact Int32.lt_irrefl r3)]
      refine (q_fst_eq (s_n S 1) 0 (Nat.zero_le b) (by omega) (by rw [c3, decide_eq_true eb]; rfl) (fun t _ ht => ?_)).symm
      cases hf : (left.testBit t && decide (s_at S t = B.1)) with
      | false => rfl
      | true =>
        exfalso
        rw [Bool.and_eq_true] at hf
        have e2 := of_decide_eq_true hf.2
        rcases c5 t (by omega) hf.1 with y | ⟨y1, y2⟩
        · rw [e2, eb] at y
          exact Int32.lt_irrefl y
        · rcases y2 with z | z
          · rw [e2, eb] at z
            exact Nat.lt_irrefl _ z
          · have := z.2
            omega
/-- pointers are followed among those who are left -/
theorem q_cb_cg {pts pts' : Nat → Nat} {L : Nat → Prop} {p : Nat} (h : ∀ x, L x → pts' x = pts x ∧ L (pts x)) : ∀ (m o : Nat), L o → q_cb pts' p m o = q_cb pts p m o
  | 0, _, _ => rfl
  | m + 1, o, ho => by
    unfold q_cb
    rw [(h o ho).1]
    split
    · rfl
    · exact q_cb_cg h m _ (h o ho).2
/-- how many are left -/
def q_nb (s : Nat) : Nat → Nat
  | 0 => 0
  | i + 1 => q_nb s i + (if s.testBit i = true then 1 else 0)
theorem q_nb_le (s : Nat) : ∀ n, q_nb s n ≤ n
  | 0 => Nat.le_refl _
  | n + 1 => by
    have := q_nb_le s n
    show _ + (if _ then _ else _) ≤ _
    split <;> omega
theorem q_nb_sub {s t : Nat} (h : ∀ i, t.testBit i = true → s.testBit i = true) : ∀ n, q_nb t n ≤ q_nb s n
  | 0 => Nat.le_refl _
  | n + 1 => by
    have := q_nb_sub h n
    show _ + (if t.testBit n = true then _ else _) ≤ _ + (if s.testBit n = true then _ else _)
    by_cases z : t.testBit n = true
    · rw [if_pos z, if_pos (h n z)]; omega
    · rw [if_neg z]; omega
theorem q_nb_lt {s t p : Nat} (h : ∀ i, t.testBit i = true → s.testBit i = true) (h1 : s.testBit p = true) (h2 : t.testBit p = false) : ∀ n, p < n → q_nb t n < q_nb s n
  | 0, hp => absurd hp (Nat.not_lt_zero p)
  | n + 1, hp => by
    show _ + (if t.testBit n = true then _ else _) < _ + (if s.testBit n = true then _ else _)
    by_cases z : p = n
    · have := q_nb_sub h n
      rw [← z, if_pos h1, if_neg (by rw [h2]; decide)]
      rw [← z] at this
      omega
    · have := q_nb_lt h h1 h2 n (by omega)
      by_cases w : t.testBit n = true
      · rw [if_pos w, if_pos (h n w)]; omega
      · rw [if_neg w]; omega
theorem q_nb_0 {s n : Nat} (h : s < 2 ^ n) (h0 : q_nb s n = 0) : s = 0 := by
  rcases Nat.eq_zero_or_pos s with z | z
  · exact z
  · obtain ⟨k, hk, hb⟩ := q_bit_ex z h
    have hz := q_nb_lt (s := s) (t := 0) (p := k) (fun i hi => by rw [Nat.zero_testBit] at hi; cases hi) hb (Nat.zero_testBit k) n hk
    omega
theorem q_nb_gone {S : qS} {rf : Option qR} {ly : Option (Nat × Nat)} {left : Nat} (h0 : 0 < left) (hl : left < 2 ^ s_n S 1) : q_nb (q_wo left (q_set (q_gone S rf ly left) (s_n S 1))) (s_n S 1) < q_nb left (s_n S 1) := by
  obtain ⟨p, h1, h2⟩ := q_gone_ex (rf := rf) (ly := ly) h0 hl
  have hb : left.testBit p = true := by
    unfold q_gone at h2
    rw [Bool.and_eq_true] at h2
    exact h2.1
  refine q_nb_lt (p := p) (fun i hi => ?_) hb ?_ _ h1
  · rw [q_wo_bit, Bool.and_eq_true] at hi
    exact hi.1
  · rw [q_wo_bit, q_set_bit, h2, decide_eq_true h1, hb]
    rfl

