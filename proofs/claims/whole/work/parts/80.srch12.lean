/-! THE REFERENCE: row -/
def q_ro (x : q_B × Int32) (nn w : Nat) : Int32 := if x.2 < 0 then x.2 else if q_lv x.1 x.2.toNatClampNeg ≤ nn then -2 else nI (q_rw x.1 w (q_up x.1 (nn + 1) x.2.toNatClampNeg x.2.toNatClampNeg))
theorem q_ro_i {x : q_B × Int32} {i nn w : Nat} (e : x.2 = nI i) (hi : i < 2147483648) : q_ro x nn w = if q_lv x.1 i ≤ nn then -2 else nI (q_rw x.1 w (q_up x.1 (nn + 1) i i)) := by
  unfold q_ro
  have hz : ¬ nI i < (0 : Int32) := fun z => absurd ((nI_ltI (b := 0) hi (by decide)).mp z) (by omega)
  rw [e, if_neg hz, nI_clamp hi]
theorem q_ro_n {x : q_B × Int32} {nn w : Nat} (e : x.2 < 0) : q_ro x nn w = x.2 := if_pos e
theorem m_row_ok {G : qx_G} {σ : qx_S} {S : qS} {rf : Option qR} (hX : mX σ S rf none) (g : gS S) {p q nn w : Nat} (hp : p < s_n S 1) (hq : q < s_n S 0) (hn : nn < 2147483648) (hw : w ≤ 1) : qx_M G qc_T 9 YX12_row [.ref 197, .int (nI p), .int (nI q), .int (nI nn), .int (nI w)] σ (fun r s => r = some (.int (q_ro (q_se S rf (some (p, q))) nn w)) ∧ ql lV σ s ∧ mX s S rf none) := by
  have hS := hX.1
  have h10 := g.2.1.2
  have h8 := g.1.2
  have hg : gR S (some (p, q)) (nI p) (nI q) := ⟨rfl, rfl, hp, Nat.lt_of_lt_of_le hq h8⟩
  have ms := m_searched (G := G) hX g hg
  have neg : (q_se S rf (some (p, q))).2 < 0 → qx_M G qc_T 9 YX12_row [.ref 197, .int (nI p), .int (nI q), .int (nI nn), .int (nI w)] σ (fun r s => r = some (.int (q_ro (q_se S rf (some (p, q))) nn w)) ∧ ql lV σ s ∧ mX s S rf none) := by
    intro hneg
    rw [q_ro_n hneg]
    refine qx_M_in rfl (Nat.le_of_ble_eq_true rfl) ?_
    refine qy_wp_ok (c := CX12_row) (cuts := [49]) vX12_row wX12_row 2000 0 _ _ _ ?_
    refine And.intro rfl (Exists.intro _ (And.intro (by decide) (qx_M_mono (m_isPerson hS g.2.1.1 (nI p)) ?_)))
    rintro _ _ ⟨rfl, rfl⟩
    refine And.intro (fun h5 => ?_) (fun h5 => ?_)
    · skip
      have h5 := bI_f h5
      exact absurd (h5.symm.trans (q_is_ok hp (by omega))) (by decide)
    · skip
      have h5 := bI_t h5
      refine And.intro rfl (Exists.intro _ (And.intro (by decide) (qx_M_mono (m_isPlace hS g.1.1 (nI q)) ?_)))
      rintro _ _ ⟨rfl, rfl⟩
      refine And.intro (fun h13 => ?_) (fun h13 => ?_)
      · skip
        have h13 := bI_f h13
        exact absurd (h13.symm.trans (q_is_ok hq (by omega))) (by decide)
      · skip
        have h13 := bI_t h13
        refine And.intro (fun h17 => ?_) (fun h17 => ?_)
        · skip
          have h17 := nI_ltT (a := nn) (b := 0) (by omega) (by decide) h17
          exact absurd h17 (by omega)
        · skip
          have h17 := nI_ltF (a := nn) (b := 0) (by omega) (by decide) h17
          refine Exists.intro ((nI w).toInt64) (And.intro rfl ?_)
          refine Exists.intro (lN 0) (And.intro rfl ?_)
          refine Exists.intro (lN 1) (And.intro rfl ?_)
          refine Exists.intro _ (And.intro (by decide) (qx_M_mono (m_in (v := ((nI w).toInt64)) (l := (lN 0)) (h := (lN 1))) ?_))
          rintro _ _ ⟨rfl, rfl⟩
          refine And.intro (fun h28 => ?_) (fun h28 => ?_)
          · skip
            have h28 := bI_t h28
            refine And.intro rfl (Exists.intro _ (And.intro (by decide) (qx_M_mono (ms) ?_)))
            rintro _ σ1 ⟨rfl, fσ1, xσ1, mσ1, zσ1, vσ1⟩
            refine And.intro (fun h43 => ?_) (fun h43 => ?_)
            · skip
              refine qx_K_le (ls := [.ref 197, .retAddr 0, .retAddr 0, .int (nI nn), .int (nI w), .int ((q_se S rf (some (p, q))).2)]) ⟨Or.inr rfl, Or.inl rfl, Or.inl rfl, Or.inr rfl, Or.inr rfl, Or.inr rfl, trivial⟩ ?_
              exact absurd hneg (Int32.not_lt.mpr h43)
            · skip
              exact ⟨rfl, fσ1, xσ1⟩
          · skip
            have h28 := bI_f h28
            exact absurd (h28.symm.trans (q_in_ok (by omega) (by omega) (by decide))) (by decide)
  rcases q_se_an S rf (some (p, q)) with e | e | ⟨i, hi, e⟩
  · exact neg (by rw [e]; decide)
  · exact neg (by rw [e]; decide)
  · rw [e] at ms
    have hB := q_se_le S rf (some (p, q))
    rw [q_ro_i e (by omega)]
    refine qx_M_in rfl (Nat.le_of_ble_eq_true rfl) ?_
    refine qy_wp_ok (c := CX12_row) (cuts := [63]) vX12_row wX12_row 2000 0 _ _ _ ?_
    refine And.intro rfl (Exists.intro _ (And.intro (by decide) (qx_M_mono (m_isPerson hS g.2.1.1 (nI p)) ?_)))
    rintro _ _ ⟨rfl, rfl⟩
    refine And.intro (fun h5 => ?_) (fun h5 => ?_)
    · skip
      have h5 := bI_f h5
      exact absurd (h5.symm.trans (q_is_ok hp (by omega))) (by decide)
    · skip
      have h5 := bI_t h5
      refine And.intro rfl (Exists.intro _ (And.intro (by decide) (qx_M_mono (m_isPlace hS g.1.1 (nI q)) ?_)))
      rintro _ _ ⟨rfl, rfl⟩
      refine And.intro (fun h13 => ?_) (fun h13 => ?_)
      · skip
        have h13 := bI_f h13
        exact absurd (h13.symm.trans (q_is_ok hq (by omega))) (by decide)
      · skip
        have h13 := bI_t h13
        refine And.intro (fun h17 => ?_) (fun h17 => ?_)
        · skip
          have h17 := nI_ltT (a := nn) (b := 0) (by omega) (by decide) h17
          exact absurd h17 (by omega)
        · skip
          have h17 := nI_ltF (a := nn) (b := 0) (by omega) (by decide) h17
          refine Exists.intro ((nI w).toInt64) (And.intro rfl ?_)
          refine Exists.intro (lN 0) (And.intro rfl ?_)
          refine Exists.intro (lN 1) (And.intro rfl ?_)
          refine Exists.intro _ (And.intro (by decide) (qx_M_mono (m_in (v := ((nI w).toInt64)) (l := (lN 0)) (h := (lN 1))) ?_))
          rintro _ _ ⟨rfl, rfl⟩
          refine And.intro (fun h28 => ?_) (fun h28 => ?_)
          · skip
            have h28 := bI_t h28
            refine And.intro rfl (Exists.intro _ (And.intro (by decide) (qx_M_mono (ms) ?_)))
            rintro _ σ1 ⟨rfl, fσ1, xσ1, mσ1, zσ1, vσ1⟩
            have hlv := (mσ1.2.2.1 i hi).2.2.2.2.2.1
            refine And.intro (fun h43 => ?_) (fun h43 => ?_)
            · skip
              have h43 := nI_leT (a := 0) (b := i) (by decide) (by omega) h43
              refine And.intro rfl (Exists.intro 222 (And.intro rfl ?_))
              refine Exists.intro (i) (Exists.intro (nI (q_lv (q_se S rf (some (p, q))).1 i)) (And.intro rfl (And.intro ⟨2001, rfl, by omega, by decide⟩ (And.intro ((mσ1.2.2.1 i hi).2.2.2.2.1) ?_))))
              refine And.intro (fun h57 => ?_) (fun h57 => ?_)
              · skip
                have h57 := nI_ltT (a := nn) (b := q_lv (q_se S rf (some (p, q))).1 i) (by omega) (by omega) h57
                refine qx_K_le (ls := [.ref 197, .retAddr 0, .retAddr 0, .int (nI nn), .int (nI w), .int (nI i)]) ⟨Or.inr rfl, Or.inl rfl, Or.inl rfl, Or.inr rfl, Or.inr rfl, Or.inr rfl, trivial⟩ ?_
                rw [if_neg (by omega)]
                refine qx_K_mono (l_row mσ1 (q_se_bw g rf _) (by omega) hw i i (Nat.le_refl _) hi (by omega)) ?_
                rintro _ _ ⟨rfl, rfl⟩
                exact ⟨rfl, fσ1, xσ1⟩
              · skip
                have h57 := nI_ltF (a := nn) (b := q_lv (q_se S rf (some (p, q))).1 i) (by omega) (by omega) h57
                refine Exists.intro ((-2)) (And.intro (by decide) ?_)
                exact ⟨congrArg (fun z => some (Value.int z)) (if_pos (by omega)).symm, fσ1, xσ1⟩
            · skip
              have h43 := nI_leF (a := 0) (b := i) (by decide) (by omega) h43
              exact absurd h43 (by omega)
          · skip
            have h28 := bI_f h28
            exact absurd (h28.symm.trans (q_in_ok (by omega) (by omega) (by decide))) (by decide)
theorem m_row_no {G : qx_G} {σ : qx_S} {S : qS} (hS : qx_mi σ 207 = S) {pl pe : Nat} (e0 : S 0 = nI pl) (e1 : S 1 = nI pe) {p q n w : Int32} (hb : (q_is p pe && (q_is q pl && (decide (0 ≤ n) && q_in64 w.toInt64 (lN 0) (lN 1)))) = false) : qx_M G qc_T 9 YX12_row [.ref 197, .int p, .int q, .int n, .int w] σ (qr (-1) σ) := by
  refine qx_M_in rfl (Nat.le_of_ble_eq_true rfl) ?_
  refine qy_wp_ok (c := CX12_row) (cuts := [33]) vX12_row wX12_row 2000 0 _ _ _ ?_
  refine And.intro rfl (Exists.intro _ (And.intro (by decide) (qx_M_mono (m_isPerson hS e1 p) ?_)))
  rintro _ _ ⟨rfl, rfl⟩
  refine And.intro (fun h5 => ?_) (fun h5 => ?_)
  · skip
    have h5 := bI_f h5
    refine Exists.intro ((-1)) (And.intro (by decide) ?_)
    exact ⟨rfl, rfl⟩
  · skip
    have h5 := bI_t h5
    refine And.intro rfl (Exists.intro _ (And.intro (by decide) (qx_M_mono (m_isPlace hS e0 q) ?_)))
    rintro _ _ ⟨rfl, rfl⟩
    refine And.intro (fun h13 => ?_) (fun h13 => ?_)
    · skip
      have h13 := bI_f h13
      refine Exists.intro ((-1)) (And.intro (by decide) ?_)
      exact ⟨rfl, rfl⟩
    · skip
      have h13 := bI_t h13
      refine And.intro (fun h17 => ?_) (fun h17 => ?_)
      · skip
        refine Exists.intro ((-1)) (And.intro (by decide) ?_)
        exact ⟨rfl, rfl⟩
      · skip
        refine Exists.intro w.toInt64 (And.intro rfl ?_)
        refine Exists.intro (lN 0) (And.intro rfl ?_)
        refine Exists.intro (lN 1) (And.intro rfl ?_)
        refine Exists.intro _ (And.intro (by decide) (qx_M_mono (m_in (v := w.toInt64) (l := (lN 0)) (h := (lN 1))) ?_))
        rintro _ _ ⟨rfl, rfl⟩
        refine And.intro (fun h28 => ?_) (fun h28 => ?_)
        · skip
          have h28 := bI_t h28
          rw [h5, h13, h28, decide_eq_true (Int32.not_lt.mp h17)] at hb
          exact absurd hb.symm Bool.false_ne_true
        · skip
          have h28 := bI_f h28
          refine Exists.intro ((-1)) (And.intro (by decide) ?_)
          exact ⟨rfl, rfl⟩

