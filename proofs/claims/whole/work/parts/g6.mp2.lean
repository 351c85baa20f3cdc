/-! MOST: the best of a set as one number -/
theorem q_wo_or (s a b : Nat) : q_wo s (a ||| b) = q_wo (q_wo s a) b := by
  apply Nat.eq_of_testBit_eq
  intro i
  rw [q_wo_bit, q_wo_bit, q_wo_bit, Nat.testBit_or]
  cases s.testBit i <;> cases a.testBit i <;> cases b.testBit i <;> rfl
theorem q_nb1 {s x : Nat} (h : s.testBit x = true) : ∀ n, x < n → q_nb (q_wo s (2 ^ x)) n + 1 = q_nb s n
  | 0, hx => absurd hx (Nat.not_lt_zero x)
  | n + 1, hx => by
    have b : ∀ i, i ≠ x → (q_wo s (2 ^ x)).testBit i = s.testBit i := fun i hi => by
      rw [q_wo_bit, q_bit1, decide_eq_false (fun w => hi w.symm)]
      exact Bool.and_true _
    have c : ∀ m, m ≤ x → q_nb (q_wo s (2 ^ x)) m = q_nb s m := by
      intro m
      induction m with
      | zero => intro _; rfl
      | succ m ih =>
        intro hm
        show _ + (if _ then _ else _) = _ + (if _ then _ else _)
        rw [ih (by omega), b m (by omega)]
    show q_nb (q_wo s (2 ^ x)) n + (if (q_wo s (2 ^ x)).testBit n = true then 1 else 0) + 1 = q_nb s n + (if s.testBit n = true then 1 else 0)
    by_cases z : x = n
    · rw [← z, c x (Nat.le_refl _), if_pos h, if_neg (by rw [q_wo_bit, q_bit1, h, decide_eq_true rfl]; decide)]
    · rw [b n (fun w => z w.symm), ← q_nb1 h n (by omega)]
      omega
theorem q_RG_p {can : Nat → Nat → Nat → Bool} {gn : Nat → Nat → Int32} {pe k p s n num : Nat} {g : Int32} (h : q_RG can gn pe k p s g n num) : s.testBit p = true ∧ 2 ≤ n ∧ n ≤ 4 ∧ p < pe ∧ ∀ i, s.testBit i = true → p ≤ i ∧ i < pe := by
  rcases h with ⟨hn, b, h1, h2, h3, h4, h5, h6, h7⟩ | ⟨hn, h0, b, c, h1, h2, h3, h4, h5, h6, h7, h8, h9, i1, i2⟩ | ⟨hn, h0, b, c, d, h1, h2, h3, h4, h5, h6, h7, h8, h9, i1, i2, i3, i4, i5, i6, i7⟩
  · rw [h5]
    refine ⟨by rw [q_bit2, decide_eq_true rfl]; rfl, by omega, by omega, by omega, fun i hi => ?_⟩
    rw [q_bit2, Bool.or_eq_true] at hi
    rcases hi with z | z <;> have z := of_decide_eq_true z <;> omega
  · rw [h9]
    refine ⟨by rw [q_bit3, decide_eq_true rfl]; rfl, by omega, by omega, by omega, fun i hi => ?_⟩
    rw [q_bit3, Bool.or_eq_true, Bool.or_eq_true] at hi
    rcases hi with (z | z) | z <;> have z := of_decide_eq_true z <;> omega
  · rw [i5]
    refine ⟨by rw [q_bit4, decide_eq_true rfl]; rfl, by omega, by omega, by omega, fun i hi => ?_⟩
    rw [q_bit4, Bool.or_eq_true, Bool.or_eq_true, Bool.or_eq_true] at hi
    rcases hi with ((z | z) | z) | z <;> have z := of_decide_eq_true z <;> omega
def q_gB (gn : Nat → Nat → Int32) (pe : Nat) : Prop := ∀ a b, a < pe → b < pe → -1998 ≤ (gn a b).toInt ∧ (gn a b).toInt ≤ 1998
theorem q_sB_1 {x : Int32} (h : -1998 ≤ x.toInt ∧ x.toInt ≤ 1998) : q_sB 1 x := by
  unfold q_sB
  omega
theorem q_RG_g {can : Nat → Nat → Nat → Bool} {gn : Nat → Nat → Int32} {pe k p s n num : Nat} {g : Int32} (hg : q_gB gn pe) (h : q_RG can gn pe k p s g n num) : q_sB n g := by
  rcases h with ⟨hn, b, h1, h2, h3, h4, h5, h6, h7⟩ | ⟨hn, h0, b, c, h1, h2, h3, h4, h5, h6, h7, h8, h9, i1, i2⟩ | ⟨hn, h0, b, c, d, h1, h2, h3, h4, h5, h6, h7, h8, h9, i1, i2, i3, i4, i5, i6, i7⟩
  · rw [hn, h6]
    exact (q_sB_add (by omega) (q_sB_1 (hg p b (by omega) h2)) (hg b p h2 (by omega))).2
  · rw [hn, i1]
    exact (q_sB_add (by omega) (q_sB_add (by omega) (q_sB_1 (hg p b (by omega) h2)) (hg b c h2 h4)).2 (hg c p h4 (by omega))).2
  · rw [hn, i6]
    exact (q_sB_add (by omega) (q_sB_add (by omega) (q_sB_add (by omega) (q_sB_1 (hg p b (by omega) h2)) (hg b c h2 h4)).2 (hg c d h4 h7)).2 (hg d p h7 (by omega))).2
theorem q_RG_nb {can : Nat → Nat → Nat → Bool} {gn : Nat → Nat → Int32} {pe k p s n num set : Nat} {g : Int32} (hpe : pe ≤ 10) (h : q_RG can gn pe k p s g n num) (hs : ∀ i, s.testBit i = true → set.testBit i = true) : q_nb (q_wo set s) 10 + n = q_nb set 10 := by
  have rb : ∀ (t a x : Nat), x ≠ a → t.testBit x = true → (q_wo t (2 ^ a)).testBit x = true := fun t a x hx ht => by
    rw [q_wo_bit, q_bit1, decide_eq_false (fun w => hx w.symm), ht]
    rfl
  rcases h with ⟨hn, b, h1, h2, h3, h4, h5, h6, h7⟩ | ⟨hn, h0, b, c, h1, h2, h3, h4, h5, h6, h7, h8, h9, i1, i2⟩ | ⟨hn, h0, b, c, d, h1, h2, h3, h4, h5, h6, h7, h8, h9, i1, i2, i3, i4, i5, i6, i7⟩
  · rw [h5] at hs ⊢
    have sp := hs p (by rw [q_bit2, decide_eq_true rfl]; rfl)
    have sb := hs b (by rw [q_bit2, decide_eq_true (show b = b from rfl), Bool.or_true])
    have k1 := q_nb1 sp 10 (by omega)
    have k2 := q_nb1 (rb set p b (by omega) sb) 10 (by omega)
    rw [q_wo_or]
    omega
  · rw [h9] at hs ⊢
    have sp := hs p (by rw [q_bit3, decide_eq_true rfl]; rfl)
    have sb := hs b (by rw [q_bit3, decide_eq_true (show b = b from rfl), Bool.or_true, Bool.true_or])
    have sc := hs c (by rw [q_bit3, decide_eq_true (show c = c from rfl), Bool.or_true])
    have k1 := q_nb1 sp 10 (by omega)
    have k2 := q_nb1 (rb set p b (by omega) sb) 10 (by omega)
    have k3 := q_nb1 (rb _ b c h5 (rb set p c (by omega) sc)) 10 (by omega)
    rw [q_wo_or, q_wo_or]
    omega
  · rw [i5] at hs ⊢
    have sp := hs p (by rw [q_bit4, decide_eq_true rfl]; rfl)
    have sb := hs b (by rw [q_bit4, decide_eq_true (show b = b from rfl), Bool.or_true, Bool.true_or, Bool.true_or])
    have sc := hs c (by rw [q_bit4, decide_eq_true (show c = c from rfl), Bool.or_true, Bool.true_or])
    have sd := hs d (by rw [q_bit4, decide_eq_true (show d = d from rfl), Bool.or_true])
    have k1 := q_nb1 sp 10 (by omega)
    have k2 := q_nb1 (rb set p b (by omega) sb) 10 (by omega)
    have k3 := q_nb1 (rb _ b c h5 (rb set p c (by omega) sc)) 10 (by omega)
    have k4 := q_nb1 (rb _ c d h9 (rb _ b d h8 (rb set p d (by omega) sd))) 10 (by omega)
    rw [q_wo_or, q_wo_or, q_wo_or]
    omega
/-- the first best -/
theorem q_fmx {val : q_O → Int} {V : q_T3 → Int} {mk : q_O → q_T3} {stp : q_T3 → q_O → q_T3} {P : q_O → Prop} {Q : q_T3 → Prop} (h1 : ∀ b o, Q b → P o → stp b o = if val o ≤ V b then b else mk o) (h2 : ∀ o, P o → V (mk o) = val o ∧ Q (mk o)) : ∀ (l : List q_O) (b : q_T3), (∀ o, o ∈ l → P o) → Q b → Q (l.foldl stp b) ∧ V b ≤ V (l.foldl stp b) ∧ (∀ o, o ∈ l → val o ≤ V (l.foldl stp b)) ∧ (l.foldl stp b = b ∨ (V b < V (l.foldl stp b) ∧ ∃ o, l.find? (fun o => decide (val o = V (l.foldl stp b))) = some o ∧ l.foldl stp b = mk o))
  | [], b, _, hb => ⟨hb, Int.le_refl _, fun o ho => absurd ho List.not_mem_nil, Or.inl rfl⟩
  | x :: l, b, hl, hb => by
    have px := hl x List.mem_cons_self
    have hl2 : ∀ o, o ∈ l → P o := fun o ho => hl o (List.mem_cons_of_mem _ ho)
    show Q (l.foldl stp (stp b x)) ∧ V b ≤ V (l.foldl stp (stp b x)) ∧ (∀ o, o ∈ x :: l → val o ≤ V (l.foldl stp (stp b x))) ∧ (l.foldl stp (stp b x) = b ∨ (V b < V (l.foldl stp (stp b x)) ∧ ∃ o, (x :: l).find? (fun o => decide (val o = V (l.foldl stp (stp b x)))) = some o ∧ l.foldl stp (stp b x) = mk o))
    rw [h1 b x hb px]
    by_cases z : val x ≤ V b
    · rw [if_pos z]
      obtain ⟨k1, k2, k3, k4⟩ := q_fmx h1 h2 l b hl2 hb
      refine ⟨k1, k2, fun o ho => ?_, ?_⟩
      · rcases List.mem_cons.mp ho with w | w
        · rw [w]; omega
        · exact k3 o w
      · rcases k4 with w | ⟨w1, o, w2, w3⟩
        · exact Or.inl w
        · refine Or.inr ⟨w1, o, ?_, w3⟩
          have hh : decide (val x = V (l.foldl stp b)) = false := decide_eq_false (by omega)
          simp only [List.find?_cons, hh]
          exact w2
    · rw [if_neg z]
      obtain ⟨m1, m2⟩ := h2 x px
      obtain ⟨k1, k2, k3, k4⟩ := q_fmx h1 h2 l (mk x) hl2 m2
      refine ⟨k1, by omega, fun o ho => ?_, Or.inr ⟨by omega, ?_⟩⟩
      · rcases List.mem_cons.mp ho with w | w
        · rw [w]; omega
        · exact k3 o w
      · rcases k4 with w | ⟨w1, o, w2, w3⟩
        · refine ⟨x, ?_, w⟩
          have hh : decide (val x = V (l.foldl stp (mk x))) = true := decide_eq_true (by rw [w]; exact m1.symm)
          simp only [List.find?_cons, hh]
        · refine ⟨o, ?_, w3⟩
          have hh : decide (val x = V (l.foldl stp (mk x))) = false := decide_eq_false (by omega)
          simp only [List.find?_cons, hh]
          exact w2
def q_Ds (can : Nat → Nat → Nat → Bool) (gn : Nat → Nat → Int32) (pe k s : Nat) : q_T3 := q_Dt can gn pe k s s
def q_Vx (b : q_T3) : Int := 16 * b.1.toInt - (b.2.1 : Int)
def q_F (can : Nat → Nat → Nat → Bool) (gn : Nat → Nat → Int32) (pe k s : Nat) : Int := q_Vx (q_Ds can gn pe k s)
def q_vo (can : Nat → Nat → Nat → Bool) (gn : Nat → Nat → Int32) (pe k s : Nat) (o : q_O) : Int := 16 * o.2.1.toInt - (o.2.2.1 : Int) + q_F can gn pe k (q_wo s o.1)
theorem q_Ds_0 (can : Nat → Nat → Nat → Bool) (gn : Nat → Nat → Int32) (pe k : Nat) : q_Ds can gn pe k 0 = (0, 0, 0) := rfl
theorem q_Ds_s (can : Nat → Nat → Nat → Bool) (gn : Nat → Nat → Int32) (pe k : Nat) {s : Nat} (h : 0 < s) : q_Ds can gn pe k s = q_De can gn pe k (q_Dt can gn pe k (s - 1)) s := by
  obtain ⟨t, rfl⟩ : ∃ t, s = t + 1 := ⟨s - 1, by omega⟩
  show (if t + 1 = t + 1 then _ else _) = _
  rw [if_pos rfl]
  rfl
theorem q_sB_mono {d d' : Nat} {x : Int32} (h : q_sB d x) (hd : d ≤ d') : q_sB d' x := by
  have h1 := h.1
  have h2 := h.2
  unfold q_sB
  omega
theorem q_sB_add2 {d d' : Nat} {x y : Int32} (hd : d + d' ≤ 12) (hx : q_sB d x) (hy : q_sB d' y) : (x + y).toInt = x.toInt + y.toInt ∧ q_sB (d + d') (x + y) := by
  have h1 := hx.1
  have h2 := hx.2
  have h3 := hy.1
  have h4 := hy.2
  have e : (x + y).toInt = x.toInt + y.toInt := by
    rw [Int32.toInt_add, Int.bmod_eq_of_le (by omega) (by omega)]
  refine ⟨e, ?_, ?_⟩
  · rw [e]; omega
  · rw [e]; omega
theorem q_De_m {can : Nat → Nat → Nat → Bool} {gn : Nat → Nat → Int32} {pe k : Nat} (hpe : pe ≤ 10) (hk : k ≤ 4) (hg : q_gB gn pe) {s : Nat} (h0 : 0 < s) (hs : s < 2 ^ pe) (ih : ∀ t, t < s → q_sB (q_nb t 10) (q_Ds can gn pe k t).1 ∧ (q_Ds can gn pe k t).2.1 ≤ q_nb t 10) : (q_sB (q_nb s 10) (q_Ds can gn pe k s).1 ∧ (q_Ds can gn pe k s).2.1 ≤ q_nb s 10) ∧ q_F can gn pe k (q_wo s (2 ^ q_lo s)) ≤ q_F can gn pe k s ∧ (∀ o, o ∈ q_o2 can gn pe k s (q_lo s) (pe - (q_lo s + 1)) (q_lo s + 1) → q_vo can gn pe k s o ≤ q_F can gn pe k s) ∧ (q_Ds can gn pe k s = ((q_Ds can gn pe k (q_wo s (2 ^ q_lo s))).1, (q_Ds can gn pe k (q_wo s (2 ^ q_lo s))).2.1, 0) ∨ (q_F can gn pe k (q_wo s (2 ^ q_lo s)) < q_F can gn pe k s ∧ ∃ o, (q_o2 can gn pe k s (q_lo s) (pe - (q_lo s + 1)) (q_lo s + 1)).find? (fun o => decide (q_vo can gn pe k s o = q_F can gn pe k s)) = some o ∧ q_Ds can gn pe k s = (o.2.1 + (q_Ds can gn pe k (q_wo s o.1)).1, o.2.2.1 + (q_Ds can gn pe k (q_wo s o.1)).2.1, o.2.2.2))) := by
  have h1024 : 2 ^ pe ≤ 1024 := Nat.pow_le_pow_right (by decide) hpe
  obtain ⟨l1, l2, l3⟩ := q_lo_ok (s := s) h0 (by omega)
  have lp := q_tb_lt hs l1
  have wl : q_wo s (2 ^ q_lo s) < s := q_wo_lt l1 (by rw [q_bit1]; exact decide_eq_true rfl)
  have nw := q_nb1 l1 10 l2
  have n10 := q_nb_le s 10
  have dd : ∀ t, t < s → q_Dt can gn pe k (s - 1) t = q_Ds can gn pe k t := fun t ht => q_Dt_st can gn pe k (s - 1) (by omega)
  have P : ∀ o, o ∈ q_o2 can gn pe k s (q_lo s) (pe - (q_lo s + 1)) (q_lo s + 1) → q_wo s o.1 < s ∧ q_sB o.2.2.1 o.2.1 ∧ q_nb (q_wo s o.1) 10 + o.2.2.1 = q_nb s 10 := fun o ho => by
    obtain ⟨r1, r2⟩ := (q_o2_RG hk lp).mp ho
    have rp := q_RG_p r1
    have sub : ∀ i, o.1.testBit i = true → s.testBit i = true := fun i hi => (r2 i hi).elim (fun z => by rw [z]; exact l1) id
    exact ⟨q_wo_lt l1 rp.1, q_RG_g hg r1, q_RG_nb hpe r1 sub⟩
  have key := q_fmx (val := q_vo can gn pe k s) (V := q_Vx) (mk := fun o => (o.2.1 + (q_Ds can gn pe k (q_wo s o.1)).1, o.2.2.1 + (q_Ds can gn pe k (q_wo s o.1)).2.1, o.2.2.2)) (stp := q_of1 (q_Dt can gn pe k (s - 1)) s) (P := fun o => q_wo s o.1 < s ∧ q_sB o.2.2.1 o.2.1 ∧ q_nb (q_wo s o.1) 10 + o.2.2.1 = q_nb s 10) (Q := fun b => q_sB (q_nb s 10) b.1 ∧ b.2.1 ≤ q_nb s 10)
    (fun b o hb ho => by
      obtain ⟨o1, o2, o3⟩ := ho
      obtain ⟨i1, i2⟩ := ih _ o1
      have ad := q_sB_add2 (by omega) o2 i1
      unfold q_of1
      rw [dd _ o1]
      have ev : q_vo can gn pe k s o = 16 * (o.2.1 + (q_Ds can gn pe k (q_wo s o.1)).1).toInt - ((o.2.2.1 + (q_Ds can gn pe k (q_wo s o.1)).2.1 : Nat) : Int) := by
        unfold q_vo q_F q_Vx
        rw [ad.1]
        omega
      have hb2 := hb.2
      by_cases z : q_vo can gn pe k s o ≤ q_Vx b
      · rw [if_pos z]
        rw [if_pos]
        unfold q_Vx at z
        rw [ev] at z
        rcases Int.lt_trichotomy (o.2.1 + (q_Ds can gn pe k (q_wo s o.1)).1).toInt b.1.toInt with y | y | y
        · exact Or.inl (Int32.lt_iff_toInt_lt.mpr y)
        · exact Or.inr ⟨Int32.toInt_inj.mp y, by omega⟩
        · omega
      · rw [if_neg z]
        rw [if_neg]
        unfold q_Vx at z
        rw [ev] at z
        rintro (y | ⟨y1, y2⟩)
        · have := Int32.lt_iff_toInt_lt.mp y
          omega
        · rw [y1] at z
          omega)
    (fun o ho => by
      obtain ⟨o1, o2, o3⟩ := ho
      obtain ⟨i1, i2⟩ := ih _ o1
      have ad := q_sB_add2 (by omega) o2 i1
      refine ⟨?_, q_sB_mono ad.2 (by omega), by dsimp only; omega⟩
      unfold q_Vx q_vo q_F q_Vx
      dsimp only
      rw [ad.1]
      omega)
    (q_o2 can gn pe k s (q_lo s) (pe - (q_lo s + 1)) (q_lo s + 1)) ((q_Ds can gn pe k (q_wo s (2 ^ q_lo s))).1, (q_Ds can gn pe k (q_wo s (2 ^ q_lo s))).2.1, 0) P ⟨q_sB_mono (ih _ wl).1 (by omega), Nat.le_trans (ih _ wl).2 (by omega)⟩
  have e1 : q_Ds can gn pe k s = (q_o2 can gn pe k s (q_lo s) (pe - (q_lo s + 1)) (q_lo s + 1)).foldl (q_of1 (q_Dt can gn pe k (s - 1)) s) ((q_Ds can gn pe k (q_wo s (2 ^ q_lo s))).1, (q_Ds can gn pe k (q_wo s (2 ^ q_lo s))).2.1, 0) := by
    rw [q_Ds_s can gn pe k h0]
    unfold q_De
    rw [dd _ wl]
  rw [← e1] at key
  exact ⟨key.1, key.2.1, key.2.2.1, key.2.2.2⟩
theorem q_Db {can : Nat → Nat → Nat → Bool} {gn : Nat → Nat → Int32} {pe k : Nat} (hpe : pe ≤ 10) (hk : k ≤ 4) (hg : q_gB gn pe) : ∀ s, s < 2 ^ pe → q_sB (q_nb s 10) (q_Ds can gn pe k s).1 ∧ (q_Ds can gn pe k s).2.1 ≤ q_nb s 10 := by
  intro s
  induction s using Nat.strongRecOn with
  | _ s ih =>
    intro hs
    rcases Nat.eq_zero_or_pos s with h0 | h0
    · rw [h0, q_Ds_0]
      exact ⟨⟨by decide, by decide⟩, by decide⟩
    · exact (q_De_m hpe hk hg h0 hs (fun t ht => ih t ht (by omega))).1
theorem q_Dm {can : Nat → Nat → Nat → Bool} {gn : Nat → Nat → Int32} {pe k : Nat} (hpe : pe ≤ 10) (hk : k ≤ 4) (hg : q_gB gn pe) {s : Nat} (h0 : 0 < s) (hs : s < 2 ^ pe) : q_F can gn pe k (q_wo s (2 ^ q_lo s)) ≤ q_F can gn pe k s ∧ (∀ o, o ∈ q_o2 can gn pe k s (q_lo s) (pe - (q_lo s + 1)) (q_lo s + 1) → q_vo can gn pe k s o ≤ q_F can gn pe k s) ∧ (q_Ds can gn pe k s = ((q_Ds can gn pe k (q_wo s (2 ^ q_lo s))).1, (q_Ds can gn pe k (q_wo s (2 ^ q_lo s))).2.1, 0) ∨ (q_F can gn pe k (q_wo s (2 ^ q_lo s)) < q_F can gn pe k s ∧ ∃ o, (q_o2 can gn pe k s (q_lo s) (pe - (q_lo s + 1)) (q_lo s + 1)).find? (fun o => decide (q_vo can gn pe k s o = q_F can gn pe k s)) = some o ∧ q_Ds can gn pe k s = (o.2.1 + (q_Ds can gn pe k (q_wo s o.1)).1, o.2.2.1 + (q_Ds can gn pe k (q_wo s o.1)).2.1, o.2.2.2))) := (q_De_m hpe hk hg h0 hs (fun t ht => q_Db hpe hk hg t (by omega))).2

