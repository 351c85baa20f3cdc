/-! THE REFERENCE: journey -/
def q_jn (x : q_B × Int32) : Int32 := if x.2 < 0 then x.2 else nI (q_lv x.1 x.2.toNatClampNeg)
theorem q_jn_i {x : q_B × Int32} {i : Nat} (e : x.2 = nI i) (hi : i < 2147483648) : q_jn x = nI (q_lv x.1 i) := by
  unfold q_jn
  have hz : ¬ nI i < (0 : Int32) := fun z => absurd ((nI_ltI (b := 0) hi (by decide)).mp z) (by omega)
  rw [e, if_neg hz, nI_clamp hi]
theorem q_jn_n {x : q_B × Int32} (e : x.2 < 0) : q_jn x = x.2 := if_pos e
theorem q_ev_le {S : qS} {rf : Option qR} {go : Option (Nat × Nat)} {k a b : Nat} {B B' : q_B} {o : Option Int32} (hB : B.1 ≤ 2000) (h : q_ev S rf go k a b B = (B', o)) : B'.1 ≤ 2001 ∧ (o = none → B'.1 ≤ 2000) := by
  by_cases z1 : q_cs S rf (q_co B k) a b = false
  · rw [q_ev_no z1] at h
    cases h
    exact ⟨by omega, fun _ => hB⟩
  have z1 : q_cs S rf (q_co B k) a b = true := by
    cases y : q_cs S rf (q_co B k) a b with
    | false => exact absurd y z1
    | true => rfl
  cases z2 : q_fi B (q_sw (s_n S 1) (q_co B k) a b) with
  | some t =>
    rw [q_ev_old (by rw [z2]; rfl)] at h
    cases h
    exact ⟨by omega, fun _ => hB⟩
  | none =>
    cases z3 : q_gl1 go (q_sw (s_n S 1) (q_co B k) a b) with
    | true =>
      rw [q_ev_goal z1 z2 z3] at h
      cases h
      exact ⟨Nat.succ_le_succ hB, fun z => by cases z⟩
    | false =>
      rcases Nat.lt_or_ge B.1 2000 with z4 | z4
      · rw [q_ev_new z1 z2 z4 z3] at h
        cases h
        exact ⟨Nat.succ_le_succ hB, fun _ => z4⟩
      · rw [q_ev_full z1 z2 z4 z3] at h
        cases h
        exact ⟨by omega, fun _ => hB⟩
theorem q_lp_le {f : Nat → q_B → q_B × Option Int32} (hf : ∀ i B B' o, B.1 ≤ 2000 → f i B = (B', o) → B'.1 ≤ 2001 ∧ (o = none → B'.1 ≤ 2000)) : ∀ (m i : Nat) (B B' : q_B) (o : Option Int32), B.1 ≤ 2000 → q_lp f m i B = (B', o) → B'.1 ≤ 2001 ∧ (o = none → B'.1 ≤ 2000)
  | 0, i, B, B', o, hB, h => by cases h; exact ⟨by omega, fun _ => hB⟩
  | m + 1, i, B, B', o, hB, h => by
    obtain ⟨x, y⟩ : ∃ x, f i B = x := ⟨_, rfl⟩
    obtain ⟨B1, o1⟩ := x
    have k := hf i B B1 o1 hB y
    cases o1 with
    | none =>
      rw [q_lp_n y] at h
      exact q_lp_le hf m (i + 1) B1 B' o (k.2 rfl) h
    | some t =>
      rw [q_lp_r y] at h
      cases h
      exact k
theorem q_wk_le {f : Nat → q_B → q_B × Option Int32} (hf : ∀ i B B' o, B.1 ≤ 2000 → f i B = (B', o) → B'.1 ≤ 2001 ∧ (o = none → B'.1 ≤ 2000)) : ∀ (m i : Nat) (B B' : q_B) (o : Option Int32), B.1 ≤ 2000 → q_wk f m i B = (B', o) → B'.1 ≤ 2001
  | 0, i, B, B', o, hB, h => by cases h; omega
  | m + 1, i, B, B', o, hB, h => by
    by_cases hi : i < B.1
    · obtain ⟨x, y⟩ : ∃ x, f i B = x := ⟨_, rfl⟩
      obtain ⟨B1, o1⟩ := x
      have k := hf i B B1 o1 hB y
      cases o1 with
      | none =>
        rw [q_wk_n hi y] at h
        exact q_wk_le hf m (i + 1) B1 B' o (k.2 rfl) h
      | some t =>
        rw [q_wk_r hi y] at h
        cases h
        exact k.1
    · rw [q_wk_e hi] at h
      cases h
      omega
theorem q_se_le (S : qS) (rf : Option qR) (go : Option (Nat × Nat)) : (q_se S rf go).1.1 ≤ 2001 := by
  have b0 : (q_B0 (q_en (s_at S) (s_n S 1))).1 ≤ 2000 := show 1 ≤ 2000 by decide
  cases z : q_gl1 go (q_en (s_at S) (s_n S 1)) with
  | true =>
    rw [q_se_0 z]
    exact Nat.le_succ_of_le b0
  | false =>
    obtain ⟨x, y⟩ : ∃ x, q_wk (q_sa S rf go) 2001 0 (q_B0 (q_en (s_at S) (s_n S 1))) = x := ⟨_, rfl⟩
    obtain ⟨B, o⟩ := x
    have k := q_wk_le (fun k B B' o hB h => q_lp_le (fun a B B' o hB h => q_lp_le (fun b B B' o hB h => q_ev_le hB h) _ _ _ _ _ hB h) _ _ _ _ _ hB h) _ _ _ _ _ b0 y
    cases o with
    | none =>
      rw [q_se_n z y]
      exact k
    | some r =>
      rw [q_se_r z y]
      exact k
theorem m_journey_no {G : qx_G} {σ : qx_S} {S : qS} (hS : qx_mi σ 207 = S) {pl pe : Nat} (e0 : S 0 = nI pl) (e1 : S 1 = nI pe) {p q : Int32} (hb : (q_is p pe && q_is q pl) = false) : qx_M G qc_T 9 YX12_journey [.ref 197, .int p, .int q] σ (qr (-1) σ) := by
  refine qx_M_in rfl (Nat.le_of_ble_eq_true rfl) ?_
  refine qy_wp_ok (c := CX12_journey) (cuts := [18]) vX12_journey wX12_journey 2000 0 _ _ _ ?_
  refine And.intro rfl (Exists.intro _ (And.intro (by decide) (qx_M_mono (m_isPerson hS e1 p) ?_)))
  rintro _ _ ⟨rfl, rfl⟩
  refine And.intro (fun h5 => ?_) (fun h5 => ?_)
  · skip
    have h5 := bI_f h5
    refine Exists.intro ((-1)) (And.intro (by decide) ?_)
    exact ⟨rfl, rfl⟩
  · skip
    have h5 := bI_t h5
    refine And.intro rfl (Exists.intro _ (And.intro (by decide) (qx_M_mono (m_isPlace hS e0 q) ?_)))
    rintro _ _ ⟨rfl, rfl⟩
    refine And.intro (fun h13 => ?_) (fun h13 => ?_)
    · skip
      have h13 := bI_t h13
      rw [h5, h13] at hb; cases hb
    · skip
      have h13 := bI_f h13
      refine Exists.intro ((-1)) (And.intro (by decide) ?_)
      exact ⟨rfl, rfl⟩
theorem m_journey_ok {G : qx_G} {σ : qx_S} {S : qS} {rf : Option qR} (hX : mX σ S rf none) (g : gS S) {p q : Nat} (hp : p < s_n S 1) (hq : q < s_n S 0) : qx_M G qc_T 9 YX12_journey [.ref 197, .int (nI p), .int (nI q)] σ (fun r s => r = some (.int (q_jn (q_se S rf (some (p, q))))) ∧ ql lV σ s ∧ mX s S rf none) := by
  have hS := hX.1
  have h10 := g.2.1.2
  have h8 := g.1.2
  have hg : gR S (some (p, q)) (nI p) (nI q) := ⟨rfl, rfl, hp, Nat.lt_of_lt_of_le hq h8⟩
  have ms := m_searched (G := G) hX g hg
  have neg : (q_se S rf (some (p, q))).2 < 0 → qx_M G qc_T 9 YX12_journey [.ref 197, .int (nI p), .int (nI q)] σ (fun r s => r = some (.int (q_jn (q_se S rf (some (p, q))))) ∧ ql lV σ s ∧ mX s S rf none) := by
    intro hneg
    rw [q_jn_n hneg]
    refine qx_M_in rfl (Nat.le_of_ble_eq_true rfl) ?_
    refine qy_wp_ok (c := CX12_journey) (cuts := [33]) vX12_journey wX12_journey 2000 0 _ _ _ ?_
    refine And.intro rfl (Exists.intro _ (And.intro (by decide) (qx_M_mono (m_isPerson hS g.2.1.1 (nI p)) ?_)))
    rintro _ _ ⟨rfl, rfl⟩
    refine And.intro (fun h5 => ?_) (fun h5 => ?_)
    · skip
      have h5 := bI_f h5
      exact absurd (h5.symm.trans (q_is_ok hp (by omega))) (by decide)
    · skip
      have h5 := bI_t h5
      refine And.intro rfl (Exists.intro _ (And.intro (by decide) (qx_M_mono (m_isPlace hS g.1.1 (nI q)) ?_)))
      rintro _ _ ⟨rfl, rfl⟩
      refine And.intro (fun h13 => ?_) (fun h13 => ?_)
      · skip
        have h13 := bI_t h13
        refine And.intro rfl (Exists.intro _ (And.intro (by decide) (qx_M_mono (ms) ?_)))
        rintro _ σ1 ⟨rfl, fσ1, xσ1, mσ1, zσ1, vσ1⟩
        refine And.intro (fun h26 => ?_) (fun h26 => ?_)
        · skip
          refine qx_K_le (ls := [.ref 197, .retAddr 0, .retAddr 0, .int ((q_se S rf (some (p, q))).2)]) ⟨Or.inr rfl, Or.inl rfl, Or.inl rfl, Or.inr rfl, trivial⟩ ?_
          exact absurd hneg (Int32.not_lt.mpr h26)
        · skip
          exact ⟨rfl, fσ1, xσ1⟩
      · skip
        have h13 := bI_f h13
        exact absurd (h13.symm.trans (q_is_ok hq (by omega))) (by decide)
  rcases q_se_an S rf (some (p, q)) with e | e | ⟨i, hi, e⟩
  · exact neg (by rw [e]; decide)
  · exact neg (by rw [e]; decide)
  · rw [e] at ms
    have hB := q_se_le S rf (some (p, q))
    rw [q_jn_i e (by omega)]
    refine qx_M_in rfl (Nat.le_of_ble_eq_true rfl) ?_
    refine qy_wp_ok (c := CX12_journey) (cuts := []) vX12_journey wX12_journey 2000 0 _ _ _ ?_
    refine And.intro rfl (Exists.intro _ (And.intro (by decide) (qx_M_mono (m_isPerson hS g.2.1.1 (nI p)) ?_)))
    rintro _ _ ⟨rfl, rfl⟩
    refine And.intro (fun h5 => ?_) (fun h5 => ?_)
    · skip
      have h5 := bI_f h5
      exact absurd (h5.symm.trans (q_is_ok hp (by omega))) (by decide)
    · skip
      have h5 := bI_t h5
      refine And.intro rfl (Exists.intro _ (And.intro (by decide) (qx_M_mono (m_isPlace hS g.1.1 (nI q)) ?_)))
      rintro _ _ ⟨rfl, rfl⟩
      refine And.intro (fun h13 => ?_) (fun h13 => ?_)
      · skip
        have h13 := bI_t h13
        refine And.intro rfl (Exists.intro _ (And.intro (by decide) (qx_M_mono (ms) ?_)))
        rintro _ σ1 ⟨rfl, fσ1, xσ1, mσ1, zσ1, vσ1⟩
        refine And.intro (fun h26 => ?_) (fun h26 => ?_)
        · skip
          have h26 := nI_leT (a := 0) (b := i) (by decide) (by omega) h26
          refine And.intro rfl (Exists.intro 222 (And.intro rfl ?_))
          refine Exists.intro (i) (Exists.intro (nI (q_lv (q_se S rf (some (p, q))).1 i)) (And.intro rfl (And.intro ⟨2001, rfl, by omega, by decide⟩ (And.intro ((mσ1.2.2.1 i hi).2.2.2.2.1) ?_))))
          exact ⟨rfl, fσ1, xσ1⟩
        · skip
          have h26 := nI_leF (a := 0) (b := i) (by decide) (by omega) h26
          exact absurd h26 (by omega)
      · skip
        have h13 := bI_f h13
        exact absurd (h13.symm.trans (q_is_ok hq (by omega))) (by decide)

