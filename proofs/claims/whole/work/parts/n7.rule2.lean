/-! a rule that is read: the class half -/
def zR' (Rs : Nat → qR) (nr : Nat) (R : qR) : Nat → qR := fun i => if i = nr then R else Rs i
theorem zR'_rf {Rs : Nat → qR} {nr : Nat} {R : qR} {x : Int32} (hr : nr < 6) (h : x = -1 ∨ q_is x nr = true) : q_rf (nr + 1) (zR' Rs nr R) x = q_rf nr Rs x := by
  unfold q_rf
  rcases h with rfl | h
  · have e1 : ∀ m, m < 10 → q_is (-1) m = false := fun m hm => Bool.eq_false_iff.mpr (fun w => by
      obtain ⟨t, t1, t2⟩ := q_is_t w (by omega)
      have := congrArg Int32.toInt t2
      rw [nI_toInt (by omega)] at this
      have k : (-1 : Int32).toInt = -1 := by decide
      omega)
    rw [e1 _ (by omega), e1 _ (by omega)]
    rfl
  · obtain ⟨t, t1, rfl⟩ := q_is_t h (by omega)
    rw [if_pos (q_is_ok (by omega) (by omega)), if_pos h]
    unfold zR'
    rw [nI_clamp (by omega), if_neg (by omega)]
theorem z_rule_okc {G : qx_G} (hG : kStr G) {n : Nat} {σ : qx_S} {S : qS} {nr : Nat} {Rs : Nat → qR} {T : q_T} {J : Nat → Option qS} {e : Nat} {ow : Nat → Nat} {R : qR} (k : zK n σ S nr Rs T J e ow) (hr : nr < 6) (hq : q_ru T = .ok R) : qx_M G qc_T 37 YX11_rule [.ref 3] σ (fun r s => r = some (.int (nI nr)) ∧ (∃ ow', zC s S (nr + 1) (zR' Rs nr R) (0, T.2) J e ow') ∧ zM s S nr Rs T J ∧ po s ≤ po σ + 3200 ∧ pcl s ≤ pcl σ + 140) := by
  obtain ⟨⟨c1, c2, c3, c4, c5, c6, c7, c8⟩, hM, hg, -⟩ := k
  have h9 := c1.1.2.2.2.2.2.2.2.2
  obtain ⟨a, d1, d2, d3, d4⟩ := c5
  have hx := d3.x d2.1
  have hw := q_ru_w c6.2.1 hq
  refine qx_M_mono (c_rule_ok hG h9 c6 c4.1.1 hr d1 d2 d3 hq) (fun r s z => ?_)
  obtain ⟨z1, ⟨⟨n1, n2⟩, f2, f3, f4, f5, f6, f7, f8, f9⟩, z3⟩ := z
  have fk : qk (fun x j => pD a x j || decide (x = 3 ∧ j = 15)) (fun x j => decide ((x = 14 ∧ j = nr) ∨ (x = 3 ∧ j = 14))) σ s := ⟨by omega, f2, fun x j hx' _ hp => (f3 x j hx' (Bool.or_eq_false_iff.mp hp).1 (of_decide_eq_false (Bool.or_eq_false_iff.mp hp).2)).1, fun x j hx' hp => f4 x j hx' (fun w => of_decide_eq_false hp (Or.inl w)) (fun w => of_decide_eq_false hp (Or.inr w))⟩
  have lo : ∀ x j, 9 ≤ x → x < 191 → (pD a x j || decide (x = 3 ∧ j = 15)) = false := fun x j q1 q2 => by
    rw [pD_nq (by omega) (by omega), decide_eq_false (by omega)]; rfl
  have p3 : ∀ j, j ≠ 15 → (pD a 3 j || decide ((3 : Nat) = 3 ∧ j = 15)) = false := fun j q1 => by
    rw [pD_nq (by omega) (by omega), decide_eq_false (by omega)]; rfl
  have hi : ∀ x j, 191 ≤ x → ow x ≠ 3 → (pD a x j || decide (x = 3 ∧ j = 15)) = false := fun x j q1 q2 => by
    rw [pD_nq (fun w => q2 (d4 x w.1 (by omega))) (by omega), decide_eq_false (by omega)]; rfl
  have rr : ∀ x j, x ≠ 14 → x ≠ 3 → decide ((x = 14 ∧ j = nr) ∨ (x = 3 ∧ j = 14)) = false := fun x j q1 q2 => decide_eq_false (by omega)
  have r14 : ∀ i, i < nr → qx_mr s 14 i = qx_mr σ 14 i := fun i hi' => f4 14 i (by omega) (by omega) (by omega)
  have i64 : ∀ x j, x < σ.1 → qx_sh qc_T σ x = (0, 6400) → qx_mi s x j = qx_mi σ x j := fun x j xl w => by
    refine (f3 x j xl (pD_nq (fun v => d3.no v.1 v.2 w) ⟨fun v => qT_no (by omega) w, fun v => qT_no (by omega) w, fun v => qT_no (by omega) w, fun v => qT_no (by omega) w⟩) (fun v => ?_)).1
    have q : qc_T 3 ≠ none ∧ qc_T 3 ≠ some (0, 6400) := by decide
    rw [v.1] at w
    unfold qx_sh at w
    cases hq' : qc_T 3 with
    | none => exact q.1 hq'
    | some v => rw [hq'] at w q; exact q.2 (congrArg some w)
  have hI : cI s S (q_rf nr Rs (S 7)) e := by
    refine c1.1.rd fk.1 fk.2.1 (fun x j xl hx' => ?_) (fun x j hx' => f4 x j (by omega) (by omega) (by omega)) ?_
    · rcases hx' with w | w | ⟨y, y1, y2, y3⟩
      · exact fk.lo h9 (by omega) (lo x j w.1 w.2)
      · exact i64 x j xl w
      · rcases c1.1.2.2.2.2.2.1 with ⟨v1, -⟩ | ⟨g, nr', x', v1, v2, v3, v4, v5, v6⟩
        · rw [v1] at y1; cases y1
        · rw [v1] at y1
          have ey : x' = y := Option.some.inj y1
          subst ey
          have enr : nr' = nr := nI_eqT (by omega) (by omega) (v3.symm.trans c4.1.1)
          have ho := c4.2 g x' (by omega) v6 x y2 (by omega)
          obtain ⟨y', q1, q2, q4, -⟩ := c4.1.2.2 g (by omega)
          have q3 : y' = x' := by rw [v6] at q1; exact (Option.some.inj q1).symm
          subst q3
          exact fk.2.2.1 x j xl (Or.inr (q4.no y2 y3)) (hi x j (by omega) (by omega))
    · rw [show qx_mr s 156 7 = qx_mr σ 156 7 from f4 _ _ (by omega) (by omega) (by omega)]
      rcases c1.1.2.2.2.2.2.1 with ⟨v1, v2⟩ | ⟨g, nr', x', v1, v2, v3, v4, v5, v6⟩
      · exact Or.inl ⟨v1, (fk.lo h9 (by omega) (lo _ _ (by omega) (by omega))).trans v2⟩
      · have enr : nr' = nr := nI_eqT (by omega) (by omega) (v3.symm.trans c4.1.1)
        exact Or.inr ⟨g, nr + 1, x', v1, (fk.lo h9 (by omega) (lo _ _ (by omega) (by omega))).trans v2, f7, by omega, by omega, (r14 g (by omega)).trans v6⟩
  have oo : ∀ x t, x < σ.1 → ow x = t → t ≠ 3 → (if σ.1 ≤ x then 3 else if ow x = 3 then 10 + nr else ow x) = t := fun x t q1 q2 q3 => by
    rw [if_neg (by omega), if_neg (by omega)]; exact q2
  have qqe : ∀ x j m, x ≠ 14 → (x = 3 → j ≠ 14) → x < 229 → qq s x j m = qq σ x j m := fun x j m q1 q2 q3 => by
    unfold qq
    rw [f4 x j (by omega) (by omega) (fun w => q2 w.1 w.2)]
  have rm : po s = po σ + 457 ∧ pcl s = pcl σ + 6 := by
    unfold po pcl
    rw [qqe _ _ _ (by omega) (by omega) (by omega), qqe _ _ _ (by omega) (by omega) (by omega), qqe _ _ _ (by omega) (by omega) (by omega), qqe _ _ _ (by omega) (by omega) (by omega), qqe _ _ _ (by omega) (by omega) (by omega), qqe _ _ _ (by omega) (by omega) (by omega), n1, n2]
    omega
  have b2 : ∀ {fld w t}, cSw σ ow S (q_rf nr Rs (S 7)) e fld w t → (fld = 17 ∨ fld = 18) → (t = 1 ∨ t = 2) → cSw s (fun x => if σ.1 ≤ x then 3 else if ow x = 3 then 10 + nr else ow x) S (q_rf nr Rs (S 7)) e fld w t := fun {fld w t} h hf ht => by
    have h' := h.k (ow' := ow) h9 fk (fun _ _ => rfl) (decide_eq_false (by omega)) (fun x j q1 _ w => hi x j q1 (by omega))
    refine ⟨h'.1, fun b hb x x1 x2 => ?_⟩
    have e1 : qx_mr s 3 fld = qx_mr σ 3 fld := f4 _ _ (by omega) (by omega) (by omega)
    rw [e1] at hb
    rcases h.1 with v | ⟨b', v1, v2, -⟩
    · rw [v] at hb; cases hb
    · have eb : b' = b := by rw [v1] at hb; exact Option.some.inj hb
      exact oo x t (by omega) (h.2 b hb x x1 x2) (by omega)
  refine ⟨z1, ⟨fun x => if σ.1 ≤ x then 3 else if ow x = 3 then 10 + nr else ow x, ?_⟩, hM.k h9 fk (fun x j q1 q2 => hi x j (by omega) (by rw [c8 x q1 q2]; omega)), by omega, by omega⟩
  unfold zC
  rw [zR'_rf hr hg.2.2.2.2.2.2.2]
  refine ⟨c1.k fk ⟨p3 _ (by omega), fun _ => lo _ _ (by omega) (by omega), fun x j w => lo _ _ (by omega) (by omega), fun x j w => lo _ _ (by omega) (by omega)⟩ hI, b2 c2 (Or.inl rfl) (Or.inl rfl), b2 c3 (Or.inr rfl) (Or.inr rfl), ⟨⟨f7, by omega, fun i hi' => ?_⟩, fun i y hi' hy x x1 x2 => ?_⟩, ⟨σ.1, f6, ⟨by omega, by omega⟩, f9, fun x x1 x2 => if_pos x1⟩, z3, fun i hi' => ⟨fun w => ?_, fun I w => ?_⟩, fun x x1 x2 => oo x 0 (by omega) (c8 x x1 x2) (by omega)⟩
  · by_cases v : i = nr
    · subst v
      refine ⟨a, f5, ⟨d2.1, by omega⟩, uR.sh d3 (fun y _ hy => fk.sv (by omega)), ?_, ?_⟩
      · show uR s a (if i = i then R else Rs i)
        rw [if_pos rfl]; exact f8
      · show q_wf (if i = i then R else Rs i)
        rw [if_pos rfl]; exact hw
    · obtain ⟨y, y1, y2, y3, y4, y5⟩ := c4.1.2.2 i (by omega)
      refine ⟨y, (r14 i (by omega)).trans y1, ⟨y2.1, by omega⟩, uR.sh y3 (fun y' _ hy => fk.sv (by omega)), ?_, ?_⟩
      · show uR s y (if i = nr then R else Rs i)
        rw [if_neg v]
        exact y4.lo (fun z q1 q2 j => by
          have o := c4.2 i y (by omega) y1 z q1 (by omega)
          exact fk.2.2.1 z j (by omega) (Or.inr (y3.no q1 q2)) (hi z j (by omega) (by omega)))
      · show q_wf (if i = nr then R else Rs i)
        rw [if_neg v]; exact y5
  · by_cases v : i = nr
    · subst v
      rw [f5] at hy
      have ea : a = y := Option.some.inj hy
      subst ea
      show (if σ.1 ≤ x then 3 else if ow x = 3 then 10 + i else ow x) = 10 + i
      rw [if_neg (by omega), if_pos (d4 x x1 (by omega))]
    · rw [r14 i (by omega)] at hy
      obtain ⟨y', y1, y2, -⟩ := c4.1.2.2 i (by omega)
      have ey : y' = y := by rw [y1] at hy; exact Option.some.inj hy
      exact oo x (10 + i) (by omega) (c4.2 i y (by omega) hy x x1 x2) (by omega)
  · exact (f4 _ _ (by omega) (by omega) (by omega)).trans ((c7 i hi').1 w)
  · have c := ((c7 i hi').2 I w).k (ow' := ow) h9 fk (fun _ _ => rfl) (rr _ _ (by omega) (by omega)) (fun x j q => rr _ _ (by omega) (by omega)) (fun x j q1 _ q3 => hi x j q1 (by omega))
    obtain ⟨gI, b, b1, b2', b3, b4, b5⟩ := (c7 i hi').2 I w
    obtain ⟨g1, b', e1, e2, e3, e4, e5⟩ := c
    have eb : b' = b := by
      rw [f4 155 i (by omega) (by omega) (by omega), b1] at e1
      exact (Option.some.inj e1).symm
    exact ⟨g1, b', e1, e2, e3, e4, fun x x1 x2 => oo x (20 + i) (by omega) (e5 x x1 x2) (by omega)⟩
