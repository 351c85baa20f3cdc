/-! THE REFERENCE: row, back along the book -/
def q_up (B : q_B) (t : Nat) : Nat → Nat → Nat
  | 0, i => i
  | m + 1, i => if q_lv B i ≤ t then i else q_up B t m (q_fr1 B i)
def q_rw (B : q_B) (w i : Nat) : Nat := if w = 0 then q_ba B i else q_bb B i
theorem q_up_e {B : q_B} {t m i : Nat} (h : q_lv B i ≤ t) : q_up B t m i = i := by
  cases m with
  | zero => rfl
  | succ m => exact if_pos h
theorem l_row {G : qx_G} {σ : qx_S} {B : q_B} {nn w : Nat} (hB : mS σ B) (hw : q_bw B) (hn : nn < 2001) (hw1 : w ≤ 1) : ∀ (m i : Nat), i ≤ m → i < B.1 → nn < q_lv B i →
    qx_K G qc_T 9 RX12 YX12_row 63 [.ref 197, .retAddr 0, .retAddr 0, .int (nI nn), .int (nI w), .int (nI i)] [] σ (qr (nI (q_rw B w (q_up B (nn + 1) m i))) σ) := by
  have hle := hB.1
  intro m
  induction m with
  | zero =>
    intro i hm hi hl
    exfalso
    obtain rfl : i = 0 := by omega
    rw [hw.1] at hl
    omega
  | succ m ih =>
    intro i hm hi hl
    have i0 : 0 < i := by
      rcases Nat.eq_zero_or_pos i with z | z
      · rw [z, hw.1] at hl
        omega
      · exact z
    obtain ⟨w1, w2, w3, w4⟩ := hw.2 i i0 hi
    obtain ⟨c1, c2, c3, c4, c5, c6, c7⟩ := hB.2.2.1 i hi
    rw [if_neg (by omega)] at c3
    rcases Nat.lt_or_ge (nn + 1) (q_lv B i) with z | z
    · have e : q_up B (nn + 1) (m + 1) i = q_up B (nn + 1) m (q_fr1 B i) := if_neg (by omega)
      rw [e]
      refine qy_wp_ok (c := CX12_row) (cuts := [63, 88]) vX12_row wX12_row 2000 63 _ _ _ ?_
      refine And.intro rfl (Exists.intro 222 (And.intro rfl ?_))
      refine Exists.intro (i) (Exists.intro (nI (q_lv B i)) (And.intro rfl (And.intro ⟨2001, rfl, by omega, by decide⟩ (And.intro c5 ?_))))
      refine Exists.intro (nI 1) (And.intro rfl ?_)
      refine Exists.intro (nI (nn + 1)) (And.intro (nI_add _ _) ?_)
      refine And.intro (fun h73 => ?_) (fun h73 => ?_)
      · skip
        have h73 := nI_leT (a := q_lv B i) (b := nn + 1) (by omega) (by omega) h73
        exact absurd h73 (by omega)
      · skip
        have h73 := nI_leF (a := q_lv B i) (b := nn + 1) (by omega) (by omega) h73
        refine And.intro rfl (Exists.intro 220 (And.intro rfl ?_))
        refine Exists.intro (i) (Exists.intro (nI (q_fr1 B i)) (And.intro rfl (And.intro ⟨2001, rfl, by omega, by decide⟩ (And.intro c3 ?_))))
        exact ih (q_fr1 B i) (by omega) (by omega) (by omega)
    · rw [q_up_e z]
      refine qy_wp_ok (c := CX12_row) (cuts := [63]) vX12_row wX12_row 2000 63 _ _ _ ?_
      refine And.intro rfl (Exists.intro 222 (And.intro rfl ?_))
      refine Exists.intro (i) (Exists.intro (nI (q_lv B i)) (And.intro rfl (And.intro ⟨2001, rfl, by omega, by decide⟩ (And.intro c5 ?_))))
      refine Exists.intro (nI 1) (And.intro rfl ?_)
      refine Exists.intro (nI (nn + 1)) (And.intro (nI_add _ _) ?_)
      refine And.intro (fun h73 => ?_) (fun h73 => ?_)
      · skip
        have h73 := nI_leT (a := q_lv B i) (b := nn + 1) (by omega) (by omega) h73
        refine And.intro (fun h90 => ?_) (fun h90 => ?_)
        · skip
          have h90 := nI_neT (a := w) (b := 0) (by omega) (by decide) h90
          refine And.intro rfl (Exists.intro 221 (And.intro rfl ?_))
          refine Exists.intro (i) (Exists.intro (nI (16 * q_ba B i + q_bb B i)) (And.intro rfl (And.intro ⟨2001, rfl, by omega, by decide⟩ (And.intro c4 ?_))))
          refine Exists.intro (nI 16) (And.intro rfl ?_)
          refine And.intro (by decide) (Exists.intro (nI (q_bb B i)) (And.intro ((nI_rem (by omega) (by decide)).trans (congrArg nI (by omega))) ?_))
          first | exact ⟨congrArg (fun z => some (Value.int (nI z))) (if_pos (by omega)).symm, rfl⟩ | exact ⟨congrArg (fun z => some (Value.int (nI z))) (if_neg (by omega)).symm, rfl⟩
        · skip
          have h90 := nI_eqT (a := w) (b := 0) (by omega) (by decide) h90
          refine And.intro rfl (Exists.intro 221 (And.intro rfl ?_))
          refine Exists.intro (i) (Exists.intro (nI (16 * q_ba B i + q_bb B i)) (And.intro rfl (And.intro ⟨2001, rfl, by omega, by decide⟩ (And.intro c4 ?_))))
          refine Exists.intro (nI 16) (And.intro rfl ?_)
          refine And.intro (by decide) (Exists.intro (nI (q_ba B i)) (And.intro ((nI_div (by omega) (by decide)).trans (congrArg nI (by omega))) ?_))
          first | exact ⟨congrArg (fun z => some (Value.int (nI z))) (if_pos (by omega)).symm, rfl⟩ | exact ⟨congrArg (fun z => some (Value.int (nI z))) (if_neg (by omega)).symm, rfl⟩
      · skip
        have h73 := nI_leF (a := q_lv B i) (b := nn + 1) (by omega) (by omega) h73
        exact absurd h73 (by omega)

