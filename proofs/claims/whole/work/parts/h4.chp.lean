/-! MOST: those who are in no ring do not matter -/
def q_dead (can : Nat → Nat → Nat → Bool) (gn : Nat → Nat → Int32) (pe k p x : Nat) : Prop := ∀ s g n num, q_RG can gn pe k p s g n num → s.testBit x = false
theorem q_o4_cg {can : Nat → Nat → Nat → Bool} {gn : Nat → Nat → Int32} {pe k p b c set set' : Nat} (h3 : 3 < k) (hb : p < b) (hb2 : b < pe) (hc : p < c) (hc2 : c < pe) (hcb : c ≠ b) (H : ∀ x, p < x → x < pe → set.testBit x = set'.testBit x ∨ q_dead can gn pe k p x) : ∀ m d, p < d → d + m ≤ pe → q_o4 can gn set p b c m d = q_o4 can gn set' p b c m d
  | 0, _, _, _ => rfl
  | m + 1, d, hd, hm => by
    have ih := q_o4_cg h3 hb hb2 hc hc2 hcb H m (d + 1) (by omega) (by omega)
    unfold q_o4
    rcases H d hd (by omega) with e | e
    · rw [e, ih]
    · have no : ∀ S : Nat, ¬ (S.testBit d && !decide (d = b) && !decide (d = c) && can 4 p b && can 4 b c && can 4 c d && can 4 d p) = true := fun S z => by
        simp only [Bool.and_eq_true, Bool.not_eq_true', decide_eq_false_iff_not] at z
        obtain ⟨⟨⟨⟨⟨⟨z1, z2⟩, z3⟩, z4⟩, z5⟩, z6⟩, z7⟩ := z
        have w := e _ _ _ _ (Or.inr (Or.inr ⟨rfl, h3, b, c, d, hb, hb2, hc, hc2, hcb, hd, by omega, z2, z3, z4, z5, z6, z7, rfl, rfl, rfl⟩))
        rw [q_bit4, decide_eq_true (show d = d from rfl), Bool.or_true] at w
        cases w
      rw [if_neg (no set), if_neg (no set'), ih]
theorem q_o3_cg {can : Nat → Nat → Nat → Bool} {gn : Nat → Nat → Int32} {pe k p b set set' : Nat} (h2 : 2 < k) (hb : p < b) (hb2 : b < pe) (H : ∀ x, p < x → x < pe → set.testBit x = set'.testBit x ∨ q_dead can gn pe k p x) : ∀ m c, p < c → c + m ≤ pe → q_o3 can gn pe k set p b m c = q_o3 can gn pe k set' p b m c
  | 0, _, _, _ => rfl
  | m + 1, c, hc, hm => by
    have ih := q_o3_cg h2 hb hb2 H m (c + 1) (by omega) (by omega)
    unfold q_o3
    rcases H c hc (by omega) with e | e
    · rw [e, ih]
      by_cases z : (set'.testBit c && !decide (c = b)) = true
      · rw [if_pos z, if_pos z]
        by_cases y : 3 < k
        · have z2 := z
          simp only [Bool.and_eq_true, Bool.not_eq_true', decide_eq_false_iff_not] at z2
          rw [if_pos y, if_pos y, q_o4_cg y hb hb2 hc (by omega) z2.2 H _ _ (by omega) (by omega)]
        · rw [if_neg y, if_neg y]
      · rw [if_neg z, if_neg z]
    · have nl : ∀ S : Nat, (if (S.testBit c && !decide (c = b)) = true then ((if (can 3 p b && can 3 b c && can 3 c p) = true then [(2 ^ p ||| 2 ^ b ||| 2 ^ c, gn p b + gn b c + gn c p, 3, 3 + 8 * b + 128 * c)] else []) ++ (if 3 < k then q_o4 can gn S p b c (pe - (p + 1)) (p + 1) else [])) ++ q_o3 can gn pe k set' p b m (c + 1) else q_o3 can gn pe k set' p b m (c + 1)) = q_o3 can gn pe k set' p b m (c + 1) := fun S => by
        by_cases z : (S.testBit c && !decide (c = b)) = true
        · rw [if_pos z]
          simp only [Bool.and_eq_true, Bool.not_eq_true', decide_eq_false_iff_not] at z
          rw [if_neg (fun w => by
            simp only [Bool.and_eq_true] at w
            have v := e _ _ _ _ (Or.inr (Or.inl ⟨rfl, h2, b, c, hb, hb2, hc, by omega, z.2, w.1.1, w.1.2, w.2, rfl, rfl, rfl⟩))
            rw [q_bit3, decide_eq_true (show c = c from rfl), Bool.or_true] at v
            cases v)]
          have l4 : (if 3 < k then q_o4 can gn S p b c (pe - (p + 1)) (p + 1) else []) = [] := by
            split
            · next y =>
              refine List.eq_nil_iff_forall_not_mem.mpr (fun o ho => ?_)
              obtain ⟨d, f1, f2, f3, f4, f5, f6, f7, f8, f9, fe⟩ := (q_o4_mem _ _).mp ho
              have v := e _ _ _ _ (Or.inr (Or.inr ⟨rfl, y, b, c, d, hb, hb2, hc, by omega, z.2, by omega, by omega, f4, f5, f6, f7, f8, f9, rfl, rfl, rfl⟩))
              rw [q_bit4, decide_eq_true (show c = c from rfl), Bool.or_true, Bool.true_or] at v
              cases v
            · rfl
          rw [l4]
          rfl
        · rw [if_neg z]
      rw [ih, nl set, nl set']
theorem q_o2_cg {can : Nat → Nat → Nat → Bool} {gn : Nat → Nat → Int32} {pe k p set set' : Nat} (H : ∀ x, p < x → x < pe → set.testBit x = set'.testBit x ∨ q_dead can gn pe k p x) : ∀ m b, p < b → b + m ≤ pe → q_o2 can gn pe k set p m b = q_o2 can gn pe k set' p m b
  | 0, _, _, _ => rfl
  | m + 1, b, hb, hm => by
    have ih := q_o2_cg H m (b + 1) (by omega) (by omega)
    unfold q_o2
    rcases H b hb (by omega) with e | e
    · rw [e, ih]
      by_cases z : set'.testBit b = true
      · rw [if_pos z, if_pos z]
        by_cases y : 2 < k
        · rw [if_pos y, if_pos y, q_o3_cg y hb (by omega) H _ _ (by omega) (by omega)]
        · rw [if_neg y, if_neg y]
      · rw [if_neg z, if_neg z]
    · have nl : ∀ S : Nat, (if S.testBit b = true then ((if (can 2 p b && can 2 b p) = true then [(2 ^ p ||| 2 ^ b, gn p b + gn b p, 2, 2 + 8 * b)] else []) ++ (if 2 < k then q_o3 can gn pe k S p b (pe - (p + 1)) (p + 1) else [])) ++ q_o2 can gn pe k set' p m (b + 1) else q_o2 can gn pe k set' p m (b + 1)) = q_o2 can gn pe k set' p m (b + 1) := fun S => by
        by_cases z : S.testBit b = true
        · rw [if_pos z]
          rw [if_neg (fun w => by
            simp only [Bool.and_eq_true] at w
            have v := e _ _ _ _ (Or.inl ⟨rfl, b, hb, by omega, w.1, w.2, rfl, rfl, rfl⟩)
            rw [q_bit2, decide_eq_true (show b = b from rfl), Bool.or_true] at v
            cases v)]
          have l3 : (if 2 < k then q_o3 can gn pe k S p b (pe - (p + 1)) (p + 1) else []) = [] := by
            split
            · next y =>
              refine List.eq_nil_iff_forall_not_mem.mpr (fun o ho => ?_)
              obtain ⟨c, g1, g2, g3, g4, g5⟩ := (q_o3_mem _ _).mp ho
              rcases g5 with ⟨w1, w2, w3, w4⟩ | ⟨w1, w2⟩
              · have v := e _ _ _ _ (Or.inr (Or.inl ⟨rfl, y, b, c, hb, by omega, by omega, by omega, g4, w1, w2, w3, rfl, rfl, rfl⟩))
                rw [q_bit3, decide_eq_true (show b = b from rfl), Bool.or_true, Bool.true_or] at v
                cases v
              · obtain ⟨d, f1, f2, f3, f4, f5, f6, f7, f8, f9, fe⟩ := (q_o4_mem _ _).mp w2
                have v := e _ _ _ _ (Or.inr (Or.inr ⟨rfl, w1, b, c, d, hb, by omega, by omega, by omega, g4, by omega, by omega, f4, f5, f6, f7, f8, f9, rfl, rfl, rfl⟩))
                rw [q_bit4, decide_eq_true (show b = b from rfl), Bool.or_true, Bool.true_or, Bool.true_or] at v
                cases v
            · rfl
          rw [l3]
          rfl
        · rw [if_neg z]
      rw [ih, nl set, nl set']
/-- whoever is in a ring is in act -/
def q_aO (can : Nat → Nat → Nat → Bool) (gn : Nat → Nat → Int32) (pe k act : Nat) : Prop := ∀ p s g n num, q_RG can gn pe k p s g n num → ∀ i, s.testBit i = true → act.testBit i = true
theorem q_and_lo {s act p : Nat} (hs : s < 1024) (h0 : 0 < s) (ep : p = q_lo s) (hp : act.testBit p = true) : q_lo (s &&& act) = p ∧ 0 < s &&& act := by
  obtain ⟨l1, l2, l3⟩ := q_lo_ok h0 hs
  rw [← ep] at l1 l2 l3
  have hb : (s &&& act).testBit p = true := by rw [Nat.testBit_and, l1, hp]; rfl
  have hle : s &&& act < 1024 := Nat.lt_of_le_of_lt Nat.and_le_left hs
  obtain ⟨m1, m2⟩ := q_lo_min hle hb
  refine ⟨?_, m2⟩
  have k := (q_lo_ok m2 hle).1
  rw [Nat.testBit_and, Bool.and_eq_true] at k
  rcases Nat.lt_or_ge (q_lo (s &&& act)) p with z | z
  · rw [l3 _ z] at k
    cases k.1
  · omega
theorem q_wo_and (s a x : Nat) : q_wo (s &&& a) x = q_wo s x &&& a := by
  apply Nat.eq_of_testBit_eq
  intro i
  rw [q_wo_bit, Nat.testBit_and, Nat.testBit_and, q_wo_bit]
  cases s.testBit i <;> cases a.testBit i <;> cases x.testBit i <;> rfl
theorem q_o2_act {can : Nat → Nat → Nat → Bool} {gn : Nat → Nat → Int32} {pe k act s p : Nat} (ha : q_aO can gn pe k act) (hp : p < pe) : q_o2 can gn pe k (s &&& act) p (pe - (p + 1)) (p + 1) = q_o2 can gn pe k s p (pe - (p + 1)) (p + 1) := q_o2_cg (fun x _ _ => by
  by_cases z : act.testBit x = true
  · left
    rw [Nat.testBit_and, z, Bool.and_true]
  · right
    intro t g n num hr
    exact Bool.eq_false_iff.mpr (fun w => z (ha _ _ _ _ _ hr x w))) _ _ (by omega) (by omega)
theorem q_F_act {can : Nat → Nat → Nat → Bool} {gn : Nat → Nat → Int32} {pe k act : Nat} (hpe : pe ≤ 10) (hk : k ≤ 4) (hg : q_gB gn pe) (ha : q_aO can gn pe k act) : ∀ s, s < 2 ^ pe → q_F can gn pe k (s &&& act) = q_F can gn pe k s := by
  have h1024 : 2 ^ pe ≤ 1024 := Nat.pow_le_pow_right (by decide) hpe
  intro s
  induction s using Nat.strongRecOn with
  | _ s ih =>
    intro hs
    rcases Nat.eq_zero_or_pos s with h0 | h0
    · rw [h0, Nat.zero_and]
    · obtain ⟨l1, l2, l3⟩ := q_lo_ok (s := s) h0 (by omega)
      have lp := q_tb_lt hs l1
      have wl : q_wo s (2 ^ q_lo s) < s := q_wo_lt l1 (by rw [q_bit1]; exact decide_eq_true rfl)
      have dm := q_Dm (can := can) hpe hk hg h0 hs
      by_cases z : act.testBit (q_lo s) = true
      · obtain ⟨e1, e2⟩ := q_and_lo (s := s) (by omega) h0 rfl z
        have sl : s &&& act < 2 ^ pe := Nat.lt_of_le_of_lt Nat.and_le_left hs
        have dm2 := q_Dm (can := can) hpe hk hg e2 sl
        rw [e1, q_o2_act ha lp, q_wo_and, ih _ wl (by omega)] at dm2
        have vo : ∀ o, o ∈ q_o2 can gn pe k s (q_lo s) (pe - (q_lo s + 1)) (q_lo s + 1) → q_vo can gn pe k (s &&& act) o = q_vo can gn pe k s o := fun o ho => by
          have r := ((q_o2_RG hk lp).mp ho).1
          have wo : q_wo s o.1 < s := q_wo_lt l1 (q_RG_p r).1
          unfold q_vo
          rw [q_wo_and, ih _ wo (by omega)]
        apply Int.le_antisymm
        · rcases dm2.2.2 with w | ⟨w1, o, w2, w3⟩
          · have : q_F can gn pe k (s &&& act) = q_F can gn pe k (q_wo s (2 ^ q_lo s)) := by
              rw [← ih _ wl (by omega)]
              unfold q_F
              rw [w]
              rfl
            rw [this]
            exact dm.1
          · have om := List.mem_of_find?_eq_some w2
            have ov0 := List.find?_some w2
            have ov : q_vo can gn pe k (s &&& act) o = q_F can gn pe k (s &&& act) := of_decide_eq_true ov0
            rw [← ov, vo o om]
            exact dm.2.1 o om
        · rcases dm.2.2 with w | ⟨w1, o, w2, w3⟩
          · have : q_F can gn pe k s = q_F can gn pe k (q_wo s (2 ^ q_lo s)) := by
              unfold q_F
              rw [w]
              rfl
            rw [this]
            exact dm2.1
          · have om := List.mem_of_find?_eq_some w2
            have ov0 := List.find?_some w2
            have ov : q_vo can gn pe k s o = q_F can gn pe k s := of_decide_eq_true ov0
            rw [← ov, ← vo o om]
            exact dm2.2.1 o om
      · have nof : ∀ o, ¬ o ∈ q_o2 can gn pe k s (q_lo s) (pe - (q_lo s + 1)) (q_lo s + 1) := fun o ho => by
          have r := ((q_o2_RG hk lp).mp ho).1
          exact z (ha _ _ _ _ _ r _ (q_RG_p r).1)
        have e1 : q_F can gn pe k s = q_F can gn pe k (q_wo s (2 ^ q_lo s)) := by
          rcases dm.2.2 with w | ⟨w1, o, w2, w3⟩
          · unfold q_F
            rw [w]
            rfl
          · exact absurd (List.mem_of_find?_eq_some w2) (nof o)
        have e2 : s &&& act = q_wo s (2 ^ q_lo s) &&& act := by
          apply Nat.eq_of_testBit_eq
          intro i
          rw [Nat.testBit_and, Nat.testBit_and, q_wo_bit, q_bit1]
          by_cases y : q_lo s = i
          · rw [← y, Bool.eq_false_iff.mpr z, Bool.and_false, Bool.and_false]
          · rw [decide_eq_false y, Bool.not_false, Bool.and_true]
        rw [e1, e2]
        exact ih _ wl (by omega)
/-- who goes with the least, by the number -/
theorem q_RG_fwl {can : Nat → Nat → Nat → Bool} {gn : Nat → Nat → Int32} {pe k p s n num : Nat} {g : Int32} (hpe : pe ≤ 10) (h : q_RG can gn pe k p s g n num) : 2 ^ p ||| q_fwl num = s ∧ ¬ num % 8 = 0 := by
  rcases h with ⟨hn, b, h1, h2, h3, h4, h5, h6, h7⟩ | ⟨hn, h0, b, c, h1, h2, h3, h4, h5, h6, h7, h8, h9, i1, i2⟩ | ⟨hn, h0, b, c, d, h1, h2, h3, h4, h5, h6, h7, h8, h9, i1, i2, i3, i4, i5, i6, i7⟩
  · rw [h5, h7]
    unfold q_fwl
    rw [show (2 + 8 * b) % 8 = 2 by omega, show (2 + 8 * b) / 8 % 16 = b by omega, if_neg (by decide), if_neg (by decide), Nat.or_zero, Nat.or_zero]
    exact ⟨rfl, by decide⟩
  · rw [h9, i2]
    unfold q_fwl
    rw [show (3 + 8 * b + 128 * c) % 8 = 3 by omega, show (3 + 8 * b + 128 * c) / 8 % 16 = b by omega, show (3 + 8 * b + 128 * c) / 128 % 16 = c by omega, if_pos (by decide), if_neg (by decide), Nat.or_zero]
    exact ⟨(Nat.or_assoc ..).symm, by decide⟩
  · rw [i5, i7]
    unfold q_fwl
    rw [show (4 + 8 * b + 128 * c + 2048 * d) % 8 = 4 by omega, show (4 + 8 * b + 128 * c + 2048 * d) / 8 % 16 = b by omega, show (4 + 8 * b + 128 * c + 2048 * d) / 128 % 16 = c by omega, show (4 + 8 * b + 128 * c + 2048 * d) / 2048 % 16 = d by omega, if_pos (by decide), if_pos (by decide)]
    exact ⟨by rw [← Nat.or_assoc, ← Nat.or_assoc], by decide⟩

