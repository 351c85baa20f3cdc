/-! SEARCH: two change places in a situation -/
theorem q_gr_two (a b : Nat) (S : qS) : q_gr (q_two a b) 2 S = va_up (va_up S (10 + 5 * a) (S (10 + 5 * b))) (10 + 5 * b) (S (10 + 5 * a)) := rfl
theorem q_hr_cg {f f' : Nat → Nat} : ∀ (p n : Nat), (∀ i, i < p → f i = f' i) → q_hr f p n = q_hr f' p n
  | 0, _, _ => rfl
  | p + 1, n, h => by
    show q_hr f p (8 * n + f p) = q_hr f' p (8 * n + f' p)
    rw [h p (by omega)]
    exact q_hr_cg p _ (fun i hi => h i (by omega))
theorem q_en_cg {f f' : Nat → Nat} {pe : Nat} (h : ∀ i, i < pe → f i = f' i) : q_en f pe = q_en f' pe := q_hr_cg pe 0 h
theorem q_gr_st {S : qS} {n a b p : Nat} (ha : a < s_n S 1) (hb : b < s_n S 1) (hab : a ≠ b) (hp : p < s_n S 1) : q_gr (q_two a b) 2 (q_st S n) (10 + 5 * p) = nI (q_sd n a b p) := by
  rw [q_gr_two]
  unfold q_sd
  by_cases e1 : p = a
  · rw [if_pos e1, e1, va_up_ne _ _ (by omega), va_up_self]
    exact q_st_at hb
  · rw [if_neg e1]
    by_cases e2 : p = b
    · rw [if_pos e2, e2, va_up_self]
      exact q_st_at ha
    · rw [if_neg e2, va_up_ne _ _ (by omega), va_up_ne _ _ (by omega)]
      exact q_st_at hp
theorem q_gr_sts {S : qS} {n a b p : Nat} (ha : a < s_n S 1) (hb : b < s_n S 1) (hab : a ≠ b) (hp : p < s_n S 1) : s_at (q_gr (q_two a b) 2 (q_st S n)) p = q_sd n a b p := by
  show (q_gr (q_two a b) 2 (q_st S n) (10 + 5 * p)).toNatClampNeg = _
  rw [q_gr_st ha hb hab hp]
  have := q_sd_lt n a b p
  exact nI_clamp (by omega)
theorem q_gr_sw {S : qS} {n a b : Nat} (ha : a < s_n S 1) (hb : b < s_n S 1) (hab : a ≠ b) : q_en (s_at (q_gr (q_two a b) 2 (q_st S n))) (s_n S 1) = q_sw (s_n S 1) n a b := q_en_cg (fun _ hi => q_gr_sts ha hb hab hi)
/-- only the places of people differ -/
def sP (S S' : qS) : Prop := ∀ i, ¬ (10 ≤ i ∧ (i - 10) % 5 = 0 ∧ (i - 10) / 5 < s_n S 1) → S' i = S i
theorem sP.rf {S : qS} : sP S S := fun _ _ => rfl
theorem sP.st {S : qS} (n : Nat) : sP S (q_st S n) := fun _ hi => if_neg hi
theorem sP.up {S S' : qS} (h : sP S S') {p : Nat} (hp : p < s_n S 1) (v : Int32) : sP S (va_up S' (10 + 5 * p) v) := fun i hi => (va_up_ne _ _ (by omega)).trans (h i hi)
theorem sP.gr {S S' : qS} (h : sP S S') {a b : Nat} (ha : a < s_n S 1) (hb : b < s_n S 1) : sP S (q_gr (q_two a b) 2 S') := by
  rw [q_gr_two]
  exact (h.up ha _).up hb _
theorem sP.pl {S S' : qS} (h : sP S S') (f : Nat → Int32) : q_pl S' f (s_n S 1) = q_pl S f (s_n S 1) := by
  funext i
  unfold q_pl
  split
  · rfl
  · next z => exact h i z
theorem q_sw_lt {pe n a b : Nat} (hpe : pe ≤ 10) : q_sw pe n a b < 1073741824 := q_en_lt (fun _ _ => q_sd_lt _ _ _ _) hpe
theorem q_sw_dg {pe n a b p : Nat} (hp : p < pe) : q_dg (q_sw pe n a b) p = q_sd n a b p := q_dg_en _ pe p (fun _ _ => q_sd_lt _ _ _ _) hp
theorem q_sw_vd {S : qS} (g : gS S) {n a b : Nat} (hv : q_vd S n) (ha : a < s_n S 1) (hb : b < s_n S 1) : q_vd S (q_sw (s_n S 1) n a b) := by
  refine ⟨q_sw_lt g.2.1.2, fun p hp => ?_⟩
  rw [q_sw_dg hp]
  unfold q_sd
  split
  · exact hv.2 b hb
  · split
    · exact hv.2 a ha
    · exact hv.2 p hp
theorem q_en_vd {S : qS} (g : gS S) : q_vd S (q_en (s_at S) (s_n S 1)) := by
  have h8 : ∀ i, i < s_n S 1 → s_at S i < 8 := fun i hi => Nat.lt_of_lt_of_le (g.2.2 i hi).2 g.1.2
  refine ⟨q_en_lt h8 g.2.1.2, fun p hp => ?_⟩
  rw [q_dg_en _ _ _ h8 hp]
  exact (g.2.2 p hp).2
/-! the search itself -/
def q_gl1 (go : Option (Nat × Nat)) (n : Nat) : Bool := match go with
  | none => false
  | some x => decide (q_dg n x.1 = x.2)
def q_ev (S : qS) (rf : Option qR) (go : Option (Nat × Nat)) (k a b : Nat) (B : q_B) : q_B × Option Int32 :=
  if q_cs S rf (q_co B k) a b = false then (B, none)
  else if (q_fi B (q_sw (s_n S 1) (q_co B k) a b)).isSome = true then (B, none)
  else if 2000 ≤ B.1 ∧ q_gl1 go (q_sw (s_n S 1) (q_co B k) a b) = false then (B, some (-3))
  else (q_ap B (q_sw (s_n S 1) (q_co B k) a b, k, a, b, q_lv B k + 1, 0), if q_gl1 go (q_sw (s_n S 1) (q_co B k) a b) = true then some (nI B.1) else none)
def q_lp (f : Nat → q_B → q_B × Option Int32) : Nat → Nat → q_B → q_B × Option Int32
  | 0, _, B => (B, none)
  | m + 1, i, B => if (f i B).2.isSome = true then f i B else q_lp f m (i + 1) (f i B).1
def q_wk (f : Nat → q_B → q_B × Option Int32) : Nat → Nat → q_B → q_B × Option Int32
  | 0, _, B => (B, none)
  | m + 1, k, B => if k < B.1 then (if (f k B).2.isSome = true then f k B else q_wk f m (k + 1) (f k B).1) else (B, none)
def q_sb (S : qS) (rf : Option qR) (go : Option (Nat × Nat)) (k a : Nat) (B : q_B) : q_B × Option Int32 := q_lp (q_ev S rf go k a) (s_n S 1 - (a + 1)) (a + 1) B
def q_sa (S : qS) (rf : Option qR) (go : Option (Nat × Nat)) (k : Nat) (B : q_B) : q_B × Option Int32 := q_lp (q_sb S rf go k) (s_n S 1) 0 B
theorem q_ev_no {S : qS} {rf : Option qR} {go : Option (Nat × Nat)} {k a b : Nat} {B : q_B} (h : q_cs S rf (q_co B k) a b = false) : q_ev S rf go k a b B = (B, none) := if_pos h
theorem q_ev_old {S : qS} {rf : Option qR} {go : Option (Nat × Nat)} {k a b : Nat} {B : q_B} (h : (q_fi B (q_sw (s_n S 1) (q_co B k) a b)).isSome = true) : q_ev S rf go k a b B = (B, none) := by
  by_cases z : q_cs S rf (q_co B k) a b = false
  · exact if_pos z
  · unfold q_ev
    rw [if_neg z, if_pos h]
theorem q_ev_full {S : qS} {rf : Option qR} {go : Option (Nat × Nat)} {k a b : Nat} {B : q_B} (h : q_cs S rf (q_co B k) a b = true) (hf : q_fi B (q_sw (s_n S 1) (q_co B k) a b) = none) (hs : 2000 ≤ B.1) (hg : q_gl1 go (q_sw (s_n S 1) (q_co B k) a b) = false) : q_ev S rf go k a b B = (B, some (-3)) := by
  unfold q_ev
  rw [if_neg (by rw [h]; decide), if_neg (by rw [hf]; decide), if_pos ⟨hs, hg⟩]
theorem q_ev_new {S : qS} {rf : Option qR} {go : Option (Nat × Nat)} {k a b : Nat} {B : q_B} (h : q_cs S rf (q_co B k) a b = true) (hf : q_fi B (q_sw (s_n S 1) (q_co B k) a b) = none) (hs : B.1 < 2000) (hg : q_gl1 go (q_sw (s_n S 1) (q_co B k) a b) = false) : q_ev S rf go k a b B = (q_ap B (q_sw (s_n S 1) (q_co B k) a b, k, a, b, q_lv B k + 1, 0), none) := by
  unfold q_ev
  rw [if_neg (by rw [h]; decide), if_neg (by rw [hf]; decide), if_neg (fun z => by omega), if_neg (by rw [hg]; decide)]
theorem q_ev_goal {S : qS} {rf : Option qR} {go : Option (Nat × Nat)} {k a b : Nat} {B : q_B} (h : q_cs S rf (q_co B k) a b = true) (hf : q_fi B (q_sw (s_n S 1) (q_co B k) a b) = none) (hg : q_gl1 go (q_sw (s_n S 1) (q_co B k) a b) = true) : q_ev S rf go k a b B = (q_ap B (q_sw (s_n S 1) (q_co B k) a b, k, a, b, q_lv B k + 1, 0), some (nI B.1)) := by
  unfold q_ev
  rw [if_neg (by rw [h]; decide), if_neg (by rw [hf]; decide), if_neg (fun z => by rw [hg] at z; exact absurd z.2 (by decide)), if_pos hg]
