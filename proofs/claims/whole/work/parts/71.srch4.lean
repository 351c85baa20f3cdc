/-! THE REFERENCE: searches, one two -/
theorem l_evC {G : qx_G} {Φ : qx_F} {B : q_B} {σ : qx_S} {gp gq : Int32} {k a b n : Nat} {gl : Bool} (hB : mS σ B) (h0 : 0 < B.1) (hle : B.1 ≤ 2000) (hk : k < B.1) (ha : a < 10) (hb : b < 10) (hn : n < 1073741824) (hq : q_fi B n = none) (hful : 2000 ≤ B.1 → gl = false → Φ (some (.int (-3))) σ) (hgo : ∀ s, gl = true → ql lS σ s → mS s (q_ap B (n, k, a, b, q_lv B k + 1, 0)) → Φ (some (.int (nI B.1))) s) (hno : ∀ s, gl = false → B.1 < 2000 → ql lS σ s → mS s (q_ap B (n, k, a, b, q_lv B k + 1, 0)) → qx_K G qc_T 7 RX12 YX12_searches 176 [.ref 197, .int gp, .int gq, .int (nI k), .int (nI a), .int (nI b), .retAddr 0, .retAddr 0] [] s Φ) :
    qx_K G qc_T 7 RX12 YX12_searches 131 [.ref 197, .int gp, .int gq, .int (nI k), .int (nI a), .int (nI b), .int (nI n), .int (bI gl)] [] σ Φ := by
  refine qy_wp_ok (c := CX12_searches) (cuts := [131, 176]) vX12_searches wX12_searches 2000 131 _ _ _ ?_
  refine And.intro rfl (Exists.intro 45 (Exists.intro (nI B.1) (And.intro rfl (And.intro hB.2.1 ?_))))
  refine Exists.intro (nI 2000) (And.intro rfl ?_)
  refine And.intro (fun h138 => ?_) (fun h138 => ?_)
  · skip
    have h138 := nI_ltT (a := B.1) (b := 2000) (by omega) (by decide) h138
    refine Exists.intro (nI 16) (And.intro rfl ?_)
    refine Exists.intro (nI (16 * a)) (And.intro (pk_mul _ _) ?_)
    refine Exists.intro (nI (16 * a + b)) (And.intro (nI_add _ _) ?_)
    refine And.intro rfl (Exists.intro _ (And.intro (by decide) (qx_M_mono (m_comesB hB h0 hle hn hk ha hb hq) ?_)))
    rintro _ σ1 ⟨rfl, fσ1, aσ1⟩
    refine And.intro (fun h166 => ?_) (fun h166 => ?_)
    · skip
      have h166 := bI_f h166
      refine qx_K_le (ls := [.ref 197, .int gp, .int gq, .int (nI k), .int (nI a), .int (nI b), .retAddr 0, .retAddr 0]) ⟨Or.inr rfl, Or.inr rfl, Or.inr rfl, Or.inr rfl, Or.inr rfl, Or.inr rfl, Or.inl rfl, Or.inl rfl, trivial⟩ ?_
      first | exact hno _ h166 h138 fσ1 aσ1 | exact absurd (h143.symm.trans h166) (fun z => Bool.false_ne_true z.symm)
    · skip
      have h166 := bI_t h166
      refine And.intro rfl (Exists.intro 45 (Exists.intro (nI (B.1 + 1)) (And.intro rfl (And.intro aσ1.2.1 ?_))))
      refine Exists.intro (nI 1) (And.intro rfl ?_)
      refine Exists.intro (nI B.1) (And.intro (nI_sub (by omega)) ?_)
      exact hgo _ h166 fσ1 aσ1
  · skip
    have h138 := nI_ltF (a := B.1) (b := 2000) (by omega) (by decide) h138
    refine And.intro (fun h143 => ?_) (fun h143 => ?_)
    · skip
      have h143 := bI_t h143
      refine Exists.intro (nI 16) (And.intro rfl ?_)
      refine Exists.intro (nI (16 * a)) (And.intro (pk_mul _ _) ?_)
      refine Exists.intro (nI (16 * a + b)) (And.intro (nI_add _ _) ?_)
      refine And.intro rfl (Exists.intro _ (And.intro (by decide) (qx_M_mono (m_comesB hB h0 hle hn hk ha hb hq) ?_)))
      rintro _ σ1 ⟨rfl, fσ1, aσ1⟩
      refine And.intro (fun h166 => ?_) (fun h166 => ?_)
      · skip
        have h166 := bI_f h166
        refine qx_K_le (ls := [.ref 197, .int gp, .int gq, .int (nI k), .int (nI a), .int (nI b), .retAddr 0, .retAddr 0]) ⟨Or.inr rfl, Or.inr rfl, Or.inr rfl, Or.inr rfl, Or.inr rfl, Or.inr rfl, Or.inl rfl, Or.inl rfl, trivial⟩ ?_
        first | exact hno _ h166 h138 fσ1 aσ1 | exact absurd (h143.symm.trans h166) (fun z => Bool.false_ne_true z.symm)
      · skip
        have h166 := bI_t h166
        refine And.intro rfl (Exists.intro 45 (Exists.intro (nI (B.1 + 1)) (And.intro rfl (And.intro aσ1.2.1 ?_))))
        refine Exists.intro (nI 1) (And.intro rfl ?_)
        refine Exists.intro (nI B.1) (And.intro (nI_sub (by omega)) ?_)
        exact hgo _ h166 fσ1 aσ1
    · skip
      have h143 := bI_f h143
      refine Exists.intro ((-3)) (And.intro (by decide) ?_)
      exact hful h138 h143
theorem l_evB0 {G : qx_G} {Φ : qx_F} {σ : qx_S} {gp gq : Int32} {k a b n : Nat} (hg : gp < 0) (hc : qx_K G qc_T 7 RX12 YX12_searches 131 [.ref 197, .int gp, .int gq, .int (nI k), .int (nI a), .int (nI b), .int (nI n), .int (bI false)] [] σ Φ) :
    qx_K G qc_T 7 RX12 YX12_searches 111 [.ref 197, .int gp, .int gq, .int (nI k), .int (nI a), .int (nI b), .int (nI n), .retAddr 0] [] σ Φ := by
  refine qy_wp_ok (c := CX12_searches) (cuts := [111, 131]) vX12_searches wX12_searches 2000 111 _ _ _ ?_
  refine And.intro (fun h112 => ?_) (fun h112 => ?_)
  · skip
    refine Exists.intro (nI 0) (And.intro rfl ?_)
    exact hc
  · skip
    exact absurd hg h112
theorem l_evB1 {G : qx_G} {Φ : qx_F} {σ : qx_S} {w q d : Nat} {k a b n : Nat} (hw : w < 10) (hq : q < 8) (hd : d < 8) (hv : qx_mi σ 207 (10 + 5 * w) = nI d) (hc : qx_K G qc_T 7 RX12 YX12_searches 131 [.ref 197, .int (nI w), .int (nI q), .int (nI k), .int (nI a), .int (nI b), .int (nI n), .int (bI (decide (d = q)))] [] σ Φ) :
    qx_K G qc_T 7 RX12 YX12_searches 111 [.ref 197, .int (nI w), .int (nI q), .int (nI k), .int (nI a), .int (nI b), .int (nI n), .retAddr 0] [] σ Φ := by
  refine qy_wp_ok (c := CX12_searches) (cuts := [111, 131]) vX12_searches wX12_searches 2000 111 _ _ _ ?_
  refine And.intro (fun h112 => ?_) (fun h112 => ?_)
  · skip
    have h112 := nI_ltT (a := w) (b := 0) (by omega) (by decide) h112
    exact absurd h112 (by omega)
  · skip
    have h112 := nI_ltF (a := w) (b := 0) (by omega) (by decide) h112
    refine And.intro rfl (Exists.intro _ (And.intro (by decide) (qx_M_mono (m_at hw hv) ?_)))
    rintro _ _ ⟨rfl, rfl⟩
    refine And.intro (fun h121 => ?_) (fun h121 => ?_)
    · skip
      have h121 := nI_neT (a := d) (b := q) (by omega) (by omega) h121
      refine Exists.intro (nI 0) (And.intro rfl ?_)
      first | (rw [decide_eq_true h121] at hc; exact hc) | (rw [decide_eq_false h121] at hc; exact hc)
    · skip
      have h121 := nI_eqT (a := d) (b := q) (by omega) (by omega) h121
      refine Exists.intro (nI 1) (And.intro rfl ?_)
      first | (rw [decide_eq_true h121] at hc; exact hc) | (rw [decide_eq_false h121] at hc; exact hc)

