/-! THE CLASS: the first SITUATION -/
theorem q_dg_tb (n p t : Nat) : (q_dg n p).testBit t = (decide (t < 3) && n.testBit (3 * p + t)) := by
  unfold q_dg
  rw [show (8 : Nat) ^ p = 2 ^ (3 * p) by rw [Nat.pow_mul], show (8 : Nat) = 2 ^ 3 from rfl, Nat.testBit_mod_two_pow, Nat.testBit_div_two_pow, Nat.add_comm t]
theorem q_tb3 {x t : Nat} (h : x < 8) (ht : 3 ≤ t) : x.testBit t = false := Nat.testBit_lt_two_pow (Nat.lt_of_lt_of_le h (Nat.pow_le_pow_right (n := 2) (by decide) ht))
theorem q_sx_d {w a b p : Nat} (hab : a < b) : q_dg ((w ^^^ ((q_dg w a ^^^ q_dg w b) * 2 ^ (3 * a))) ^^^ ((q_dg w a ^^^ q_dg w b) * 2 ^ (3 * b))) p = q_sd w a b p := by
  have hx : (q_dg w a ^^^ q_dg w b) < 8 := Nat.xor_lt_two_pow (n := 3) (q_dg_lt w a) (q_dg_lt w b)
  have tx : ∀ t : Nat, t < 3 → (q_dg w a ^^^ q_dg w b).testBit t = (w.testBit (3 * a + t) ^^ w.testBit (3 * b + t)) := fun t ht => by
    rw [Nat.testBit_xor, q_dg_tb, q_dg_tb, decide_eq_true ht, Bool.true_and, Bool.true_and]
  obtain ⟨x, ex⟩ : ∃ x, x = q_dg w a ^^^ q_dg w b := ⟨_, rfl⟩
  rw [← ex] at hx tx ⊢
  apply Nat.eq_of_testBit_eq
  intro t
  have sd : (q_sd w a b p).testBit t = (decide (t < 3) && w.testBit (3 * (if p = a then b else if p = b then a else p) + t)) := by
    unfold q_sd
    split
    · exact q_dg_tb _ _ _
    · split <;> exact q_dg_tb _ _ _
  rw [sd, q_dg_tb, Nat.testBit_xor, Nat.testBit_xor, Nat.testBit_mul_two_pow, Nat.testBit_mul_two_pow]
  by_cases ht : t < 3
  · rw [decide_eq_true ht, Bool.true_and, Bool.true_and]
    by_cases e1 : p = a
    · rw [if_pos e1, e1, decide_eq_true (show 3 * a ≤ 3 * a + t by omega), decide_eq_false (show ¬ 3 * b ≤ 3 * a + t by omega), show 3 * a + t - 3 * a = t by omega, tx t ht]
      cases w.testBit (3 * a + t) <;> cases w.testBit (3 * b + t) <;> rfl
    · rw [if_neg e1]
      by_cases e2 : p = b
      · rw [if_pos e2, e2, decide_eq_true (show 3 * b ≤ 3 * b + t by omega), show 3 * b + t - 3 * b = t by omega, tx t ht, q_tb3 (t := 3 * b + t - 3 * a) hx (by omega)]
        cases w.testBit (3 * a + t) <;> cases w.testBit (3 * b + t) <;> cases decide (3 * a ≤ 3 * b + t) <;> rfl
      · rw [if_neg e2]
        have z1 : (decide (3 * a ≤ 3 * p + t) && x.testBit (3 * p + t - 3 * a)) = false := by
          by_cases y : 3 * a ≤ 3 * p + t
          · rw [q_tb3 hx (by omega)]
            exact Bool.and_false _
          · rw [decide_eq_false y]
            rfl
        have z2 : (decide (3 * b ≤ 3 * p + t) && x.testBit (3 * p + t - 3 * b)) = false := by
          by_cases y : 3 * b ≤ 3 * p + t
          · rw [q_tb3 hx (by omega)]
            exact Bool.and_false _
          · rw [decide_eq_false y]
            rfl
        rw [z1, z2]
        cases w.testBit (3 * p + t) <;> rfl
  · rw [decide_eq_false ht]
    rfl
theorem q_sx {pe w a b : Nat} (hw : w < 8 ^ pe) (hab : a < b) (hb : b < pe) : ((w ^^^ ((q_dg w a ^^^ q_dg w b) * 2 ^ (3 * a))) ^^^ ((q_dg w a ^^^ q_dg w b) * 2 ^ (3 * b))) = q_sw pe w a b := by
  have hx : (q_dg w a ^^^ q_dg w b) < 2 ^ 3 := Nat.xor_lt_two_pow (n := 3) (q_dg_lt w a) (q_dg_lt w b)
  have e8 : (8 : Nat) ^ pe = 2 ^ (3 * pe) := by rw [Nat.pow_mul]
  have sm : ∀ c, c < pe → (q_dg w a ^^^ q_dg w b) * 2 ^ (3 * c) < 2 ^ (3 * pe) := fun c hc => by
    have h1 : (q_dg w a ^^^ q_dg w b) * 2 ^ (3 * c) < 2 ^ 3 * 2 ^ (3 * c) := Nat.mul_lt_mul_of_pos_right hx (Nat.pow_pos (by decide))
    rw [← Nat.pow_add] at h1
    exact Nat.lt_of_lt_of_le h1 (Nat.pow_le_pow_right (by decide) (by omega))
  have lm : ((w ^^^ ((q_dg w a ^^^ q_dg w b) * 2 ^ (3 * a))) ^^^ ((q_dg w a ^^^ q_dg w b) * 2 ^ (3 * b))) < 8 ^ pe := by
    rw [e8]
    exact Nat.xor_lt_two_pow (Nat.xor_lt_two_pow (by rw [← e8]; exact hw) (sm a (by omega))) (sm b hb)
  rw [← q_en_dg pe _ lm]
  exact q_en_cg (fun p _ => q_sx_d hab)
theorem q_en_or {f : Nat → Nat} {i : Nat} (h : ∀ p, p < i → f p < 8) : q_en f i ||| f i * 2 ^ (3 * i) = q_en f (i + 1) := by
  have h1 := q_hr_lt f i h
  rw [show (8 : Nat) ^ i = 2 ^ (3 * i) by rw [Nat.pow_mul]] at h1
  show q_hr f i 0 ||| f i * 2 ^ (3 * i) = q_hr f i (8 * 0 + f i)
  rw [q_hr_eq f i (8 * 0 + f i), show (8 : Nat) ^ i = 2 ^ (3 * i) by rw [Nat.pow_mul], Nat.mul_zero, Nat.zero_add, Nat.mul_comm (f i), Nat.two_pow_add_eq_or_of_lt h1, Nat.or_comm]
theorem c_placeIn {G : qx_G} {σ : qx_S} {w p : Nat} (hw : w < 1073741824) (hp : p < 10) : qx_M G qc_T 0 YX6_placeIn [.int (nI w), .int (nI p)] σ (qr (nI (q_dg w p)) σ) := by
  have ea : w / 2 ^ (3 * p) &&& 7 = q_dg w p := by
    unfold q_dg
    rw [show (8 : Nat) ^ p = 2 ^ (3 * p) by rw [Nat.pow_mul]]
    exact Nat.and_two_pow_sub_one_eq_mod _ 3
  refine qx_M_in rfl (Nat.le_of_ble_eq_true rfl) ?_
  refine qy_wp_ok (c := CX6_placeIn) (cuts := []) vX6_placeIn wX6_placeIn 2000 0 _ _ _ ?_
  refine Exists.intro (nI 3) (And.intro rfl ?_)
  refine Exists.intro (nI (3 * p)) (And.intro (pk_mul _ _) ?_)
  refine Exists.intro (nI (w / 2 ^ (3 * p))) (And.intro (nI_shr (by omega) (by omega)) ?_)
  refine Exists.intro (nI 7) (And.intro rfl ?_)
  refine Exists.intro (nI (q_dg w p)) (And.intro ((nI_and _ _).trans (congrArg nI ea)) ?_)
  exact ⟨rfl, rfl⟩
abbrev kQA (b : Nat) : List (Nat × Option Nat) := [(b, none), (b + 1, none), (b + 2, none), (b + 3, none), (b + 4, none), (b + 5, none), (b + 6, none)]
def q_Q0 (w : Nat) : q_Q := (1, 0, fun _ => w, fun _ => 0, fun _ => 0, fun _ => 0, fun _ => 1)
theorem c_qadd0 {G : qx_G} {σ : qx_S} {b w : Nat} (hq : shQ σ b) (hb : 229 ≤ b) (h7 : qx_mi σ b 7 = nI 0) (hsl : ∀ j, j < 4096 → qx_mi σ (b + 6) j = nI 0) (hw : w < 1073741824) : qx_M G qc_T 1 YX6_add [.ref b, .int (nI w), .int (nI 0), .int (nI 0)] σ (fun r s => r = none ∧ ql (kQ b) σ s ∧ qx_mi s b 7 = nI 1 ∧ qx_mi s b 8 = qx_mi σ b 8 ∧ qx_mi s b 9 = qx_mi σ b 9 ∧ qx_mi s (b + 1) 0 = nI w ∧ qx_mi s (b + 3) 0 = nI 0 ∧ qx_mi s (b + 4) 0 = nI 0 ∧ ∃ sl, hI q_h2 (fun _ => w) 1 sl ∧ ∀ j, j < 4096 → qx_mi s (b + 6) j = nI (sl j)) := by
  have H := hI.zero q_h2 (fun _ => w)
  obtain ⟨j, ⟨hj, hE⟩, cs⟩ := c_slotOf (G := G) (n := w) hb hq (Nat.zero_le _) H hsl (fun i hi => absurd hi (by omega)) hw
  have sh : ∀ i, 1 ≤ i → i ≤ 5 → qx_sh qc_T σ (b + i) = (0, 2001) := hq.2.1
  obtain ⟨d0, ed⟩ : ∃ d0, qx_mi σ (b + 2) 0 = d0 := ⟨_, rfl⟩
  obtain ⟨w0, ew⟩ : ∃ w0, qx_mi σ (b + 5) 0 = w0 := ⟨_, rfl⟩
  have fin : ∀ s1 s2 s3 s4 s5 s6 s, s1 = qx_wi σ (b + 1) 0 (nI w) → s2 = qx_wi s1 (b + 2) 0 (d0 + nI 1) → s3 = qx_wi s2 (b + 3) 0 (nI 0) → s4 = qx_wi s3 (b + 4) 0 (nI 0) → s5 = qx_wi s4 (b + 5) 0 w0 → s6 = qx_wi s5 b 7 (nI 1) → s = qx_wi s6 (b + 6) j (nI 1) → ql (kQ b) σ s ∧ qx_mi s b 7 = nI 1 ∧ qx_mi s b 8 = qx_mi σ b 8 ∧ qx_mi s b 9 = qx_mi σ b 9 ∧ qx_mi s (b + 1) 0 = nI w ∧ qx_mi s (b + 3) 0 = nI 0 ∧ qx_mi s (b + 4) 0 = nI 0 ∧ ∃ sl, hI q_h2 (fun _ => w) 1 sl ∧ ∀ j, j < 4096 → qx_mi s (b + 6) j = nI (sl j) := by
    intro s1 s2 s3 s4 s5 s6 s e1 e2 e3 e4 e5 e6 e7
    have fr : ql (kQ b) σ s := (qf.cv (qn_wi e1) (by simp)).tr ((qf.cv (qn_wi e2) (by simp)).tr ((qf.cv (qn_wi e3) (by simp)).tr ((qf.cv (qn_wi e4) (by simp)).tr ((qf.cv (qn_wi e5) (by simp)).tr ((cv1 (qn_wif e6) (List.mem_cons_self ..)).tr (qf.cv (qn_wi e7) (by simp)))))))
    have m : ∀ y k, (y ≠ b + 1 ∨ k ≠ 0) → (y ≠ b + 2 ∨ k ≠ 0) → (y ≠ b + 3 ∨ k ≠ 0) → (y ≠ b + 4 ∨ k ≠ 0) → (y ≠ b + 5 ∨ k ≠ 0) → (y ≠ b ∨ k ≠ 7) → (y ≠ b + 6 ∨ k ≠ j) → qx_mi s y k = qx_mi σ y k := fun y k a1 a2 a3 a4 a5 a6 a7 => (qn_ne e7 a7).trans ((qn_ne e6 a6).trans ((qn_ne e5 a5).trans ((qn_ne e4 a4).trans ((qn_ne e3 a3).trans ((qn_ne e2 a2).trans (qn_ne e1 a1))))))
    have n1 : qx_mi s (b + 1) 0 = nI w := (qn_ne e7 (by omega)).trans ((qn_ne e6 (by omega)).trans ((qn_ne e5 (by omega)).trans ((qn_ne e4 (by omega)).trans ((qn_ne e3 (by omega)).trans ((qn_ne e2 (by omega)).trans (qn_eq e1))))))
    have n3 : qx_mi s (b + 3) 0 = nI 0 := (qn_ne e7 (by omega)).trans ((qn_ne e6 (by omega)).trans ((qn_ne e5 (by omega)).trans ((qn_ne e4 (by omega)).trans (qn_eq e3))))
    have n4 : qx_mi s (b + 4) 0 = nI 0 := (qn_ne e7 (by omega)).trans ((qn_ne e6 (by omega)).trans ((qn_ne e5 (by omega)).trans (qn_eq e4)))
    have Ha := H.add hE rfl
    have eva : va_up (fun _ : Nat => w) 0 w = (fun _ : Nat => w) := funext (fun i => by
      by_cases z : i = 0
      · rw [z, va_up_self]
      · rw [va_up_ne _ _ z])
    rw [eva] at Ha
    refine ⟨fr, (qn_ne e7 (by omega)).trans (qn_eq e6), m _ _ (by omega) (by omega) (by omega) (by omega) (by omega) (by omega) (by omega), m _ _ (by omega) (by omega) (by omega) (by omega) (by omega) (by omega) (by omega), n1, n3, n4, _, Ha, fun k hk => ?_⟩
    by_cases z : k = j
    · rw [z, va_up_self]; exact qn_eq e7
    · rw [va_up_ne _ _ z]
      exact (m _ _ (by omega) (by omega) (by omega) (by omega) (by omega) (by omega) (by omega)).trans (hsl k hk)
  refine qx_M_in rfl (Nat.le_of_ble_eq_true rfl) ?_
  refine qy_wp_ok (c := CX6_add) (cuts := []) vX6_add wX6_add 2000 0 _ _ _ ?_
  refine And.intro ((congrArg Prod.fst (hq.1)).trans rfl) (Exists.intro _ (And.intro (by decide) (qx_M_mono (cs) ?_)))
  rintro _ _ ⟨rfl, rfl⟩
  refine And.intro (by rw [show qx_sh qc_T _ b = _ from hq.1]; rfl) (Exists.intro (b + 6) (And.intro rfl ?_))
  refine Exists.intro (j) (Exists.intro (nI 0) (And.intro rfl (And.intro ⟨4096, hq.2.2, by omega, by decide⟩ (And.intro (hsl j hj) ?_))))
  refine And.intro (fun h18 => ?_) (fun h18 => ?_)
  · skip
    refine And.intro ((congrArg Prod.fst (hq.1)).trans rfl) (Exists.intro _ (And.intro (by decide) (qx_M_mono (c_full hq.1 h7 (Nat.zero_le _)) ?_)))
    rintro _ _ ⟨rfl, rfl⟩
    refine And.intro (fun h75 => ?_) (fun h75 => ?_)
    · skip
      have h75 := bI_f h75
      refine And.intro (by rw [show qx_sh qc_T _ b = _ from hq.1]; rfl) (Exists.intro (b + 1) (And.intro rfl ?_))
      refine And.intro (by rw [show qx_sh qc_T _ b = _ from hq.1]; rfl) (Exists.intro 7 (Exists.intro (nI 0) (And.intro rfl (And.intro h7 ?_))))
      obtain ⟨σ1, eσ1⟩ : ∃ zs, zs = (qx_wi σ (b + 1) 0 (nI w)) := ⟨_, rfl⟩
      have fσ1 := qn_wi eσ1
      refine Exists.intro (0) (Exists.intro σ1 (And.intro rfl (And.intro ⟨2001, (sh 1 (by decide) (by decide)), by decide, by decide⟩ (And.intro eσ1.symm ?_))))
      refine And.intro (by rw [show qx_sh qc_T _ b = _ from (fσ1.s _).trans (hq.1)]; rfl) (Exists.intro (b + 2) (And.intro rfl ?_))
      refine And.intro (by rw [show qx_sh qc_T _ b = _ from (fσ1.s _).trans (hq.1)]; rfl) (Exists.intro 7 (Exists.intro (nI 0) (And.intro rfl (And.intro ((qn_ne eσ1 (Or.inl (by omega))).trans (h7)) ?_))))
      refine And.intro (by rw [show qx_sh qc_T _ b = _ from (fσ1.s _).trans (hq.1)]; rfl) (Exists.intro (b + 2) (And.intro rfl ?_))
      refine Exists.intro (0) (Exists.intro d0 (And.intro rfl (And.intro ⟨2001, (fσ1.s _).trans ((sh 2 (by decide) (by decide))), by decide, by decide⟩ (And.intro ((qn_ne eσ1 (Or.inl (by omega))).trans (ed)) ?_))))
      refine Exists.intro (nI 1) (And.intro rfl ?_)
      refine Exists.intro (d0 + (nI 1)) (And.intro rfl ?_)
      obtain ⟨σ2, eσ2⟩ : ∃ zs, zs = (qx_wi σ1 (b + 2) 0 (d0 + (nI 1))) := ⟨_, rfl⟩
      have fσ2 := qn_wi eσ2
      refine Exists.intro (0) (Exists.intro σ2 (And.intro rfl (And.intro ⟨2001, (fσ1.s _).trans ((sh 2 (by decide) (by decide))), by decide, by decide⟩ (And.intro eσ2.symm ?_))))
      refine And.intro (by rw [show qx_sh qc_T _ b = _ from (fσ2.s _).trans ((fσ1.s _).trans (hq.1))]; rfl) (Exists.intro (b + 3) (And.intro rfl ?_))
      refine And.intro (by rw [show qx_sh qc_T _ b = _ from (fσ2.s _).trans ((fσ1.s _).trans (hq.1))]; rfl) (Exists.intro 7 (Exists.intro (nI 0) (And.intro rfl (And.intro ((qn_ne eσ2 (Or.inl (by omega))).trans ((qn_ne eσ1 (Or.inl (by omega))).trans (h7))) ?_))))
      obtain ⟨σ3, eσ3⟩ : ∃ zs, zs = (qx_wi σ2 (b + 3) 0 (nI 0)) := ⟨_, rfl⟩
      have fσ3 := qn_wi eσ3
      refine Exists.intro (0) (Exists.intro σ3 (And.intro rfl (And.intro ⟨2001, (fσ2.s _).trans ((fσ1.s _).trans ((sh 3 (by decide) (by decide)))), by decide, by decide⟩ (And.intro eσ3.symm ?_))))
      refine And.intro (by rw [show qx_sh qc_T _ b = _ from (fσ3.s _).trans ((fσ2.s _).trans ((fσ1.s _).trans (hq.1)))]; rfl) (Exists.intro (b + 4) (And.intro rfl ?_))
      refine And.intro (by rw [show qx_sh qc_T _ b = _ from (fσ3.s _).trans ((fσ2.s _).trans ((fσ1.s _).trans (hq.1)))]; rfl) (Exists.intro 7 (Exists.intro (nI 0) (And.intro rfl (And.intro ((qn_ne eσ3 (Or.inl (by omega))).trans ((qn_ne eσ2 (Or.inl (by omega))).trans ((qn_ne eσ1 (Or.inl (by omega))).trans (h7)))) ?_))))
      obtain ⟨σ4, eσ4⟩ : ∃ zs, zs = (qx_wi σ3 (b + 4) 0 (nI 0)) := ⟨_, rfl⟩
      have fσ4 := qn_wi eσ4
      refine Exists.intro (0) (Exists.intro σ4 (And.intro rfl (And.intro ⟨2001, (fσ3.s _).trans ((fσ2.s _).trans ((fσ1.s _).trans ((sh 4 (by decide) (by decide))))), by decide, by decide⟩ (And.intro eσ4.symm ?_))))
      refine And.intro (by rw [show qx_sh qc_T _ b = _ from (fσ4.s _).trans ((fσ3.s _).trans ((fσ2.s _).trans ((fσ1.s _).trans (hq.1))))]; rfl) (Exists.intro (b + 5) (And.intro rfl ?_))
      refine And.intro (by rw [show qx_sh qc_T _ b = _ from (fσ4.s _).trans ((fσ3.s _).trans ((fσ2.s _).trans ((fσ1.s _).trans (hq.1))))]; rfl) (Exists.intro 7 (Exists.intro (nI 0) (And.intro rfl (And.intro ((qn_ne eσ4 (Or.inl (by omega))).trans ((qn_ne eσ3 (Or.inl (by omega))).trans ((qn_ne eσ2 (Or.inl (by omega))).trans ((qn_ne eσ1 (Or.inl (by omega))).trans (h7))))) ?_))))
      refine And.intro (by rw [show qx_sh qc_T _ b = _ from (fσ4.s _).trans ((fσ3.s _).trans ((fσ2.s _).trans ((fσ1.s _).trans (hq.1))))]; rfl) (Exists.intro (b + 5) (And.intro rfl ?_))
      refine Exists.intro (0) (Exists.intro w0 (And.intro rfl (And.intro ⟨2001, (fσ4.s _).trans ((fσ3.s _).trans ((fσ2.s _).trans ((fσ1.s _).trans ((sh 5 (by decide) (by decide)))))), by decide, by decide⟩ (And.intro ((qn_ne eσ4 (Or.inl (by omega))).trans ((qn_ne eσ3 (Or.inl (by omega))).trans ((qn_ne eσ2 (Or.inl (by omega))).trans ((qn_ne eσ1 (Or.inl (by omega))).trans (ew))))) ?_))))
      obtain ⟨σ5, eσ5⟩ : ∃ zs, zs = (qx_wi σ4 (b + 5) 0 w0) := ⟨_, rfl⟩
      have fσ5 := qn_wi eσ5
      refine Exists.intro (0) (Exists.intro σ5 (And.intro rfl (And.intro ⟨2001, (fσ4.s _).trans ((fσ3.s _).trans ((fσ2.s _).trans ((fσ1.s _).trans ((sh 5 (by decide) (by decide)))))), by decide, by decide⟩ (And.intro eσ5.symm ?_))))
      refine And.intro (by rw [show qx_sh qc_T _ b = _ from (fσ5.s _).trans ((fσ4.s _).trans ((fσ3.s _).trans ((fσ2.s _).trans ((fσ1.s _).trans (hq.1)))))]; rfl) (Exists.intro 7 (Exists.intro (nI 0) (And.intro rfl (And.intro ((qn_ne eσ5 (Or.inl (by omega))).trans ((qn_ne eσ4 (Or.inl (by omega))).trans ((qn_ne eσ3 (Or.inl (by omega))).trans ((qn_ne eσ2 (Or.inl (by omega))).trans ((qn_ne eσ1 (Or.inl (by omega))).trans (h7)))))) ?_))))
      refine Exists.intro (nI 1) (And.intro rfl ?_)
      refine Exists.intro (nI 1) (And.intro rfl ?_)
      obtain ⟨σ6, eσ6⟩ : ∃ zs, zs = (qx_wi σ5 b 7 (nI 1)) := ⟨_, rfl⟩
      have fσ6 := qn_wif eσ6
      refine And.intro (by rw [show qx_sh qc_T _ b = _ from (fσ5.s _).trans ((fσ4.s _).trans ((fσ3.s _).trans ((fσ2.s _).trans ((fσ1.s _).trans (hq.1)))))]; rfl) (Exists.intro 7 (Exists.intro σ6 (And.intro rfl (And.intro eσ6.symm ?_))))
      refine And.intro (by rw [show qx_sh qc_T _ b = _ from (fσ6.s _).trans ((fσ5.s _).trans ((fσ4.s _).trans ((fσ3.s _).trans ((fσ2.s _).trans ((fσ1.s _).trans (hq.1))))))]; rfl) (Exists.intro (b + 6) (And.intro rfl ?_))
      refine And.intro (by rw [show qx_sh qc_T _ b = _ from (fσ6.s _).trans ((fσ5.s _).trans ((fσ4.s _).trans ((fσ3.s _).trans ((fσ2.s _).trans ((fσ1.s _).trans (hq.1))))))]; rfl) (Exists.intro 7 (Exists.intro (nI 1) (And.intro rfl (And.intro (qn_eq eσ6) ?_))))
      obtain ⟨σ7, eσ7⟩ : ∃ zs, zs = (qx_wi σ6 (b + 6) j (nI 1)) := ⟨_, rfl⟩
      have fσ7 := qn_wi eσ7
      refine Exists.intro (j) (Exists.intro σ7 (And.intro rfl (And.intro ⟨4096, (fσ6.s _).trans ((fσ5.s _).trans ((fσ4.s _).trans ((fσ3.s _).trans ((fσ2.s _).trans ((fσ1.s _).trans (hq.2.2)))))), by omega, by decide⟩ (And.intro eσ7.symm ?_))))
      exact ⟨rfl, fin _ _ _ _ _ _ _ eσ1 eσ2 eσ3 eσ4 eσ5 eσ6 eσ7⟩
    · skip
      have h75 := bI_t h75
      exact absurd (h75.symm.trans (decide_eq_false (by omega))) (by decide)
  · skip
    exact absurd (by decide) h18
theorem l_begin {G : qx_G} {σ : qx_S} {b y pe : Nat} {f : Nat → Nat} {Φ : qx_F} (hq : shQ σ b) (hb : 229 ≤ b) (h5 : qx_mi σ 16 5 = nI pe) (hpe : pe ≤ 10) (hy : ∃ L, qx_sh qc_T σ y = (0, L) ∧ 10 ≤ L ∧ L ≤ 100) (hf : ∀ p, p < pe → qx_mi σ y p = nI (f p) ∧ f p < 8) (key : qx_K G qc_T 2 RX6 YX6_begin 34 [.ref b, .retAddr 0, .int (nI (q_en f pe)), .retAddr 0] [] σ Φ) : ∀ (m i : Nat), m + i = pe → qx_K G qc_T 2 RX6 YX6_begin 4 [.ref b, .ref y, .int (nI (q_en f i)), .int (nI i)] [] σ Φ := by
  obtain ⟨L, hL, h10, h100⟩ := hy
  intro m
  induction m with
  | zero =>
    intro i hm
    obtain rfl : i = pe := by omega
    refine qy_wp_ok (c := CX6_begin) (cuts := [4, 34]) vX6_begin wX6_begin 2000 4 _ _ _ ?_
    refine And.intro (by rw [show qx_sh qc_T _ b = _ from hq.1]; rfl) (Exists.intro 156 (And.intro rfl ?_))
    refine And.intro rfl (Exists.intro 16 (And.intro rfl ?_))
    refine And.intro rfl (Exists.intro 5 (Exists.intro (nI i) (And.intro rfl (And.intro h5 ?_))))
    refine And.intro (fun h15 => ?_) (fun h15 => ?_)
    · skip
      have h15 := nI_leT (a := i) (b := i) (by omega) (by omega) h15
      refine qx_K_le (ls := [.ref b, .retAddr 0, .int (nI (q_en f i)), .retAddr 0]) ⟨Or.inr rfl, Or.inl rfl, Or.inr rfl, Or.inl rfl, trivial⟩ ?_
      exact key
    · skip
      have h15 := nI_leF (a := i) (b := i) (by omega) (by omega) h15
      exact absurd h15 (by omega)
  | succ m ih =>
    intro i hm
    have z := ih (i + 1) (by omega)
    obtain ⟨f1, f2⟩ := hf i (by omega)
    have eo := q_en_or (f := f) (i := i) (fun p hp => (hf p (by omega)).2)
    have lt : f i * 2 ^ (3 * i) < 4294967296 ∧ 3 * i < 32 := by
      have h1 : (2 : Nat) ^ (3 * i) ≤ 2 ^ 27 := Nat.pow_le_pow_right (by decide) (by omega)
      have h2 : f i * 2 ^ (3 * i) ≤ 7 * 2 ^ 27 := Nat.mul_le_mul (by omega) h1
      have h3 : (7 : Nat) * 2 ^ 27 < 4294967296 := by decide
      exact ⟨by omega, by omega⟩
    refine qy_wp_ok (c := CX6_begin) (cuts := [4, 34]) vX6_begin wX6_begin 2000 4 _ _ _ ?_
    refine And.intro (by rw [show qx_sh qc_T _ b = _ from hq.1]; rfl) (Exists.intro 156 (And.intro rfl ?_))
    refine And.intro rfl (Exists.intro 16 (And.intro rfl ?_))
    refine And.intro rfl (Exists.intro 5 (Exists.intro (nI pe) (And.intro rfl (And.intro h5 ?_))))
    refine And.intro (fun h15 => ?_) (fun h15 => ?_)
    · skip
      have h15 := nI_leT (a := pe) (b := i) (by omega) (by omega) h15
      exact absurd h15 (by omega)
    · skip
      have h15 := nI_leF (a := pe) (b := i) (by omega) (by omega) h15
      refine Exists.intro (i) (Exists.intro (nI (f i)) (And.intro rfl (And.intro ⟨L, hL, by omega, by omega⟩ (And.intro f1 ?_))))
      refine Exists.intro (nI 3) (And.intro rfl ?_)
      refine Exists.intro (nI (3 * i)) (And.intro (pk_mul _ _) ?_)
      refine Exists.intro (nI (f i * 2 ^ (3 * i))) (And.intro (nI_shl lt) ?_)
      refine Exists.intro (nI (q_en f (i + 1))) (And.intro ((nI_or _ _).trans (congrArg nI eo)) ?_)
      refine Exists.intro (nI (i + 1)) (And.intro (nI_add _ _) ?_)
      exact z
theorem c_begin {G : qx_G} {σ : qx_S} {b y pe e : Nat} {f : Nat → Nat} (hq : shQ σ b) (hb : 229 ≤ b) (hb2 : b + 7 ≤ σ.1) (h5 : qx_mi σ 16 5 = nI pe) (h8 : qx_mi σ 156 8 = nI e) (hpe : pe ≤ 10) (hy : ∃ L, qx_sh qc_T σ y = (0, L) ∧ 10 ≤ L ∧ L ≤ 100) (hf : ∀ p, p < pe → qx_mi σ y p = nI (f p) ∧ f p < 8) : qx_M G qc_T 2 YX6_begin [.ref b, .ref y] σ (fun r s => r = none ∧ ql (kQA b) σ s ∧ mQ s b (q_Q0 (q_en f pe)) ∧ qx_mi s b 9 = nI e) := by
  have hw : q_en f pe < 1073741824 := q_en_lt (fun i hi => (hf i hi).2) hpe
  obtain ⟨w, ew⟩ : ∃ w, w = q_en f pe := ⟨_, rfl⟩
  have fin : ∀ s0 s1 s2 s3 s4 s5 s, ql [(b + 6, none)] σ s0 → (∀ j, j < 4096 → qx_mi s0 (b + 6) j = nI 0) → s1 = qx_wi s0 b 9 (nI e) → s2 = qx_wi s1 b 8 (nI 0) → s3 = qx_wi s2 b 7 (nI 0) → (ql (kQ b) s3 s4 ∧ qx_mi s4 b 7 = nI 1 ∧ qx_mi s4 b 8 = qx_mi s3 b 8 ∧ qx_mi s4 b 9 = qx_mi s3 b 9 ∧ qx_mi s4 (b + 1) 0 = nI w ∧ qx_mi s4 (b + 3) 0 = nI 0 ∧ qx_mi s4 (b + 4) 0 = nI 0 ∧ ∃ sl, hI q_h2 (fun _ => w) 1 sl ∧ ∀ j, j < 4096 → qx_mi s4 (b + 6) j = nI (sl j)) → s5 = qx_wi s4 (b + 2) 0 (nI 0) → s = qx_wi s5 (b + 5) 0 (nI 1) → ql (kQA b) σ s ∧ mQ s b (q_Q0 w) ∧ qx_mi s b 9 = nI e := by
    intro s0 s1 s2 s3 s4 s5 s f0 g0 e1 e2 e3 ⟨f4, a7, a8, a9, a1, a3, a4, sl, H, hsl⟩ e5 e6
    have fr : ql (kQA b) σ s := (qf.cv f0 (by simp)).tr ((qf.cv (qn_wif e1) (by simp)).tr ((qf.cv (qn_wif e2) (by simp)).tr ((qf.cv (qn_wif e3) (by simp)).tr ((qf.cv f4 (by simp)).tr ((qf.cv (qn_wi e5) (by simp)).tr (qf.cv (qn_wi e6) (by simp)))))))
    have m : ∀ y k, y ≠ b + 2 → y ≠ b + 5 → qx_mi s y k = qx_mi s4 y k := fun y k h1 h2 => (qn_ne e6 (Or.inl h2)).trans (qn_ne e5 (Or.inl h1))
    refine ⟨fr, ⟨hq.fr fr, ⟨hb, by rw [fr.1]; exact hb2⟩, (m _ _ (by omega) (by omega)).trans a7, (m _ _ (by omega) (by omega)).trans (a8.trans ((qn_ne e3 (Or.inr (by decide))).trans (qn_eq e2))), by show 1 ≤ 2001; omega, by show 0 ≤ 1; omega, fun i hi => ?_, sl, H, fun j hj => (m _ _ (by omega) (by omega)).trans (hsl j hj)⟩, (m _ _ (by omega) (by omega)).trans (a9.trans ((qn_ne e3 (Or.inr (by decide))).trans ((qn_ne e2 (Or.inr (by decide))).trans (qn_eq e1))))⟩
    have hi : i < 1 := hi
    obtain rfl : i = 0 := by omega
    exact ⟨⟨(m _ _ (by omega) (by omega)).trans a1, by show w < _; rw [ew]; exact hw⟩, ⟨(qn_ne e6 (Or.inl (by omega))).trans (qn_eq e5), Nat.le_refl _⟩, (m _ _ (by omega) (by omega)).trans a3, (m _ _ (by omega) (by omega)).trans a4, qn_eq e6, by show 1 ≤ 2; omega⟩
  have key : qx_K G qc_T 2 RX6 YX6_begin 34 [.ref b, .retAddr 0, .int (nI w), .retAddr 0] [] σ (fun r s => r = none ∧ ql (kQA b) σ s ∧ mQ s b (q_Q0 w) ∧ qx_mi s b 9 = nI e) := by
    refine qy_wp_ok (c := CX6_begin) (cuts := []) vX6_begin wX6_begin 2000 34 _ _ _ ?_
    refine And.intro (by rw [show qx_sh qc_T _ b = _ from hq.1]; rfl) (Exists.intro (b + 6) (And.intro rfl ?_))
    refine Exists.intro (nI 0) (And.intro rfl ?_)
    refine Exists.intro _ (And.intro (by decide) (qx_M_mono (c_fill (N := 4096) hq.2.2 (by decide)) ?_))
    rintro _ σ1 ⟨rfl, fσ1, gσ1⟩
    refine And.intro (by rw [show qx_sh qc_T _ b = _ from (fσ1.s _).trans (hq.1)]; rfl) (Exists.intro 156 (And.intro rfl ?_))
    refine And.intro rfl (Exists.intro 8 (Exists.intro (nI e) (And.intro rfl (And.intro ((fσ1.i 156 8 (pL_ne (by simp; omega))).trans h8) ?_))))
    obtain ⟨σ2, eσ2⟩ : ∃ zs, zs = (qx_wi σ1 b 9 (nI e)) := ⟨_, rfl⟩
    have fσ2 := qn_wif eσ2
    refine And.intro (by rw [show qx_sh qc_T _ b = _ from (fσ1.s _).trans (hq.1)]; rfl) (Exists.intro 9 (Exists.intro σ2 (And.intro rfl (And.intro eσ2.symm ?_))))
    refine Exists.intro (nI 0) (And.intro rfl ?_)
    obtain ⟨σ3, eσ3⟩ : ∃ zs, zs = (qx_wi σ2 b 8 (nI 0)) := ⟨_, rfl⟩
    have fσ3 := qn_wif eσ3
    refine And.intro (by rw [show qx_sh qc_T _ b = _ from (fσ2.s _).trans ((fσ1.s _).trans (hq.1))]; rfl) (Exists.intro 8 (Exists.intro σ3 (And.intro rfl (And.intro eσ3.symm ?_))))
    refine Exists.intro (nI 0) (And.intro rfl ?_)
    obtain ⟨σ4, eσ4⟩ : ∃ zs, zs = (qx_wi σ3 b 7 (nI 0)) := ⟨_, rfl⟩
    have fσ4 := qn_wif eσ4
    refine And.intro (by rw [show qx_sh qc_T _ b = _ from (fσ3.s _).trans ((fσ2.s _).trans ((fσ1.s _).trans (hq.1)))]; rfl) (Exists.intro 7 (Exists.intro σ4 (And.intro rfl (And.intro eσ4.symm ?_))))
    refine Exists.intro (nI 0) (And.intro rfl ?_)
    refine Exists.intro (nI 0) (And.intro rfl ?_)
    refine And.intro ((congrArg Prod.fst ((fσ4.s _).trans ((fσ3.s _).trans ((fσ2.s _).trans ((fσ1.s _).trans (hq.1)))))).trans rfl) (Exists.intro _ (And.intro (by decide) (qx_M_mono (c_qadd0 ((((hq.fr fσ1).fr fσ2).fr fσ3).fr fσ4) hb (qn_eq eσ4) (fun j hj => (qn_ne eσ4 (Or.inl (by omega))).trans ((qn_ne eσ3 (Or.inl (by omega))).trans ((qn_ne eσ2 (Or.inl (by omega))).trans (gσ1 j hj)))) (by rw [ew]; exact hw)) ?_)))
    rintro _ σ5 ⟨rfl, fσ5, aσ5⟩
    refine And.intro (by rw [show qx_sh qc_T _ b = _ from (fσ5.s _).trans ((fσ4.s _).trans ((fσ3.s _).trans ((fσ2.s _).trans ((fσ1.s _).trans (hq.1)))))]; rfl) (Exists.intro (b + 2) (And.intro rfl ?_))
    refine Exists.intro (nI 0) (And.intro rfl ?_)
    refine Exists.intro (nI 0) (And.intro rfl ?_)
    obtain ⟨σ6, eσ6⟩ : ∃ zs, zs = (qx_wi σ5 (b + 2) 0 (nI 0)) := ⟨_, rfl⟩
    have fσ6 := qn_wi eσ6
    refine Exists.intro (0) (Exists.intro σ6 (And.intro rfl (And.intro ⟨2001, (fσ5.s _).trans ((fσ4.s _).trans ((fσ3.s _).trans ((fσ2.s _).trans ((fσ1.s _).trans ((hq.2.1 2 (by decide) (by decide))))))), by decide, by decide⟩ (And.intro eσ6.symm ?_))))
    refine And.intro (by rw [show qx_sh qc_T _ b = _ from (fσ6.s _).trans ((fσ5.s _).trans ((fσ4.s _).trans ((fσ3.s _).trans ((fσ2.s _).trans ((fσ1.s _).trans (hq.1))))))]; rfl) (Exists.intro (b + 5) (And.intro rfl ?_))
    refine Exists.intro (nI 0) (And.intro rfl ?_)
    refine Exists.intro (nI 1) (And.intro rfl ?_)
    obtain ⟨σ7, eσ7⟩ : ∃ zs, zs = (qx_wi σ6 (b + 5) 0 (nI 1)) := ⟨_, rfl⟩
    have fσ7 := qn_wi eσ7
    refine Exists.intro (0) (Exists.intro σ7 (And.intro rfl (And.intro ⟨2001, (fσ6.s _).trans ((fσ5.s _).trans ((fσ4.s _).trans ((fσ3.s _).trans ((fσ2.s _).trans ((fσ1.s _).trans ((hq.2.1 5 (by decide) (by decide)))))))), by decide, by decide⟩ (And.intro eσ7.symm ?_))))
    exact ⟨rfl, fin _ _ _ _ _ _ _ fσ1 gσ1 eσ2 eσ3 eσ4 ⟨fσ5, aσ5⟩ eσ6 eσ7⟩
  rw [ew] at key
  have lo := l_begin (G := G) hq hb h5 hpe hy hf key pe 0 (by omega)
  refine qx_M_in rfl (Nat.le_of_ble_eq_true rfl) ?_
  refine qy_wp_ok (c := CX6_begin) (cuts := [4]) vX6_begin wX6_begin 2000 0 _ _ _ ?_
  refine Exists.intro (nI 0) (And.intro rfl ?_)
  refine Exists.intro (nI 0) (And.intro rfl ?_)
  exact lo

