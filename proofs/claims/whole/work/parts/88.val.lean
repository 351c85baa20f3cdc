/-! THE REFERENCE: values -/
def mP (σ : qx_S) (Z : Nat → Int32) (T : q_T) (t : Nat) (s : q_P) : Prop := tR σ T ∧ qx_mi σ 197 9 = nI 0 ∧ qx_mi σ 197 11 = nI t ∧ t < 6 ∧ qx_mi σ 197 12 = nI s.2.2.2 ∧ s.2.2.2 ≤ 60 ∧ qx_mi σ 200 t = nI s.2.1 ∧ (∀ j, j < 400 * t → qx_mi σ 199 j = Z j) ∧ (∀ i, i < s.2.1 → qx_mi σ 199 (400 * t + i) = nI (q_sg (s.2.2.1 i))) ∧ ∃ nx, qx_mi σ 197 8 = nI nx ∧ nx ≤ T.1 ∧ q_sk T nx = s.1
def mpk (l : List (Nat × Option Nat)) : Bool := l.all (fun q => !(Nat.beq q.1 198) && !(Nat.beq q.1 199) && !(Nat.beq q.1 200) && (!(Nat.beq q.1 197) || (match q.2 with
  | none => false
  | some k => !(Nat.beq k 1) && !(Nat.beq k 8) && !(Nat.beq k 9) && !(Nat.beq k 11) && !(Nat.beq k 12))))
theorem mpk_row {l : List (Nat × Option Nat)} (h : mpk l = true) {a : Nat} (ha : a = 198 ∨ a = 199 ∨ a = 200) (j : Nat) : pL l a j = false := by
  cases hl : pL l a j with
  | false => rfl
  | true =>
    exfalso
    obtain ⟨q, hq, h1⟩ := List.any_eq_true.mp hl
    have h2 := List.all_eq_true.mp h q hq
    simp only [Bool.and_eq_true] at h1 h2
    have e1 := Nat.eq_of_beq_eq_true h1.1
    rw [e1] at h2
    rcases ha with rfl | rfl | rfl
    · exact absurd h2.1.1.1 (by decide)
    · exact absurd h2.1.1.2 (by decide)
    · exact absurd h2.1.2 (by decide)
theorem mpk_f {l : List (Nat × Option Nat)} (h : mpk l = true) {k : Nat} (hk : k = 1 ∨ k = 8 ∨ k = 9 ∨ k = 11 ∨ k = 12) : pL l 197 k = false := by
  cases hl : pL l 197 k with
  | false => rfl
  | true =>
    exfalso
    obtain ⟨⟨q1, q2⟩, hq, h1⟩ := List.any_eq_true.mp hl
    have h2 := List.all_eq_true.mp h _ hq
    simp only [Bool.and_eq_true] at h1 h2
    have e1 := Nat.eq_of_beq_eq_true h1.1
    subst e1
    cases q2 with
    | none => exact absurd h2.2 (by decide)
    | some z =>
      have e2 := Nat.eq_of_beq_eq_true h1.2
      subst e2
      rcases hk with rfl | rfl | rfl | rfl | rfl <;> exact absurd h2.2 (by decide)
theorem mP.fr {σ s' : qx_S} {Z : Nat → Int32} {T : q_T} {t : Nat} {s : q_P} {l : List (Nat × Option Nat)} (h : mP σ Z T t s) (f : ql l σ s') (hk : mpk l = true) : mP s' Z T t s := by
  obtain ⟨a, b, c, d, e, e2, g, i, j, nx, k1, k2, k3⟩ := h
  exact ⟨a.fr f (mpk_f hk (by omega)) (mpk_row hk (by omega)), (f.i _ _ (mpk_f hk (by omega))).trans b, (f.i _ _ (mpk_f hk (by omega))).trans c, d, (f.i _ _ (mpk_f hk (by omega))).trans e, e2, (f.i _ _ (mpk_row hk (by omega) _)).trans g, fun x hx => (f.i _ _ (mpk_row hk (by omega) _)).trans (i x hx), fun x hx => (f.i _ _ (mpk_row hk (by omega) _)).trans (j x hx), nx, (f.i _ _ (mpk_f hk (by omega))).trans k1, k2, k3⟩
/-- the place on the tape changes alone -/
theorem mP.to {σ s' : qx_S} {Z : Nat → Int32} {T : q_T} {t : Nat} {s : q_P} {l : List (Nat × Option Nat)} (h : mP σ Z T t s) (f : ql l σ s') (hk : pLs l [(197, some 8), (197, some 10)] = true) {n p : Nat} (h8 : qx_mi s' 197 8 = nI n) (hn : n ≤ T.1) (hp : q_sk T n = p) : mP s' Z T t (p, s.2) := by
  obtain ⟨a, b, c, d, e, e2, g, i, j, nx, k1, k2, k3⟩ := h
  have f := f.mn hk
  exact ⟨a.fr f rfl (fun _ => rfl), (f.i _ _ rfl).trans b, (f.i _ _ rfl).trans c, d, (f.i _ _ rfl).trans e, e2, (f.i _ _ rfl).trans g, fun x hx => (f.i _ _ rfl).trans (i x hx), fun x hx => (f.i _ _ rfl).trans (j x hx), n, h8, hn, hp⟩
theorem mP.sk {σ : qx_S} {Z : Nat → Int32} {T : q_T} {t : Nat} {s : q_P} (h : mP σ Z T t s) : q_sk T s.1 = s.1 ∧ s.1 ≤ T.1 ∧ T.1 ≤ 400 ∧ ∀ k, k < T.1 → T.2 k < 256 := by
  obtain ⟨a, -, -, -, -, -, -, -, -, nx, -, k2, k3⟩ := h
  rw [← k3]
  exact ⟨q_sk_i k2, q_rn_le _ k2, a.2.1, fun k hk => (a.2.2 k hk).2⟩
theorem m_seeP {G : qx_G} {σ : qx_S} {Z : Nat → Int32} {T : q_T} {t : Nat} {s : q_P} (h : mP σ Z T t s) : qx_M G qc_T 0 YX12_see [.ref 197] σ (fun r s' => r = some (.int (q_see T s.1)) ∧ ql [(197, some 8)] σ s' ∧ mP s' Z T t s ∧ qx_mi s' 197 8 = nI s.1) := by
  obtain ⟨sk, hle, -, -⟩ := h.sk
  obtain ⟨nx, k1, k2, k3⟩ := h.2.2.2.2.2.2.2.2.2
  refine qx_M_mono (m_see h.1 k2 k1) ?_
  rintro _ s' ⟨rfl, f, g⟩
  rw [k3] at g ⊢
  exact ⟨rfl, f, h.to f (by decide) g hle sk, g⟩
theorem m_isWordP {G : qx_G} {σ : qx_S} {Z : Nat → Int32} {T : q_T} {t : Nat} {s : q_P} (h : mP σ Z T t s) (j : Nat) (hj : j < 21) : qx_M G qc_T 1 YX12_isWord [.ref 197, .long (lN (q_WS.getD j 0))] σ (fun r s' => r = some (.int (bI (decide (q_kd T s.1 = 300 + j)))) ∧ ql [(197, some 8)] σ s' ∧ mP s' Z T t s ∧ qx_mi s' 197 8 = nI s.1) := by
  obtain ⟨sk, hle, -, hb⟩ := h.sk
  obtain ⟨nx, k1, k2, k3⟩ := h.2.2.2.2.2.2.2.2.2
  have hw : ∀ j, j < 21 → q_WS.getD j 0 < 72057594037927936 := by decide +kernel
  refine qx_M_mono (m_isWord h.1 k2 k1 (hw j hj)) ?_
  rintro _ s' ⟨rfl, f, g⟩
  rw [k3] at g ⊢
  rw [q_kd_w hb hj]
  exact ⟨rfl, f, h.to f (by decide) g hle sk, g⟩
/-- a word is passed -/
theorem m_passP {G : qx_G} {σ : qx_S} {Z : Nat → Int32} {T : q_T} {t : Nat} {s : q_P} (h : mP σ Z T t s) (h8 : qx_mi σ 197 8 = nI s.1) (hw : 300 ≤ q_kd T s.1 ∧ q_kd T s.1 < 999) : qx_M G qc_T 1 YX12_passWord [.ref 197] σ (fun r s' => r = none ∧ ql [(197, some 8)] σ s' ∧ mP s' Z T t (q_pas T s)) := by
  obtain ⟨sk, hle, -, hb⟩ := h.sk
  have hL : isL T s.1 = true := by
    cases hl : isL T s.1 with
    | true => rfl
    | false =>
      exfalso
      have hlt := q_kd_lt (T := T) (p := s.1) (by omega)
      cases hd : isD T s.1 with
      | true => rw [q_kd_D hd] at hw; split at hw <;> omega
      | false =>
        have b := hb _ hlt
        rw [(q_kd_S hlt hl hd).1] at hw
        split at hw
        · split at hw <;> omega
        · omega
  refine qx_M_mono (m_passWord h.1 hle h8) ?_
  rintro _ s' ⟨rfl, f, g⟩
  rw [← q_te_L hL] at g
  have ht := q_te_gt (isL_lt hL).1
  exact ⟨rfl, f, h.to f (by decide) g ht.2 rfl⟩
def q_wh (T : q_T) (p : Nat) : Int32 := if 300 ≤ q_kd T p ∧ q_kd T p < 312 then nI (q_kd T p - 300) else -1
theorem q_wh_j {T : q_T} {p j : Nat} (h : q_kd T p = 300 + j) (hj : j < 12) : q_wh T p = nI j := by
  unfold q_wh
  rw [if_pos (by omega), h, show 300 + j - 300 = j by omega]
theorem q_wh_no {T : q_T} {p : Nat} (h0 : ¬ q_kd T p = 300 + 0) (h1 : ¬ q_kd T p = 300 + 1) (h2 : ¬ q_kd T p = 300 + 2) (h3 : ¬ q_kd T p = 300 + 3) (h4 : ¬ q_kd T p = 300 + 4) (h5 : ¬ q_kd T p = 300 + 5) (h6 : ¬ q_kd T p = 300 + 6) (h7 : ¬ q_kd T p = 300 + 7) (h8 : ¬ q_kd T p = 300 + 8) (h9 : ¬ q_kd T p = 300 + 9) (h10 : ¬ q_kd T p = 300 + 10) (h11 : ¬ q_kd T p = 300 + 11) : q_wh T p = -1 := by
  unfold q_wh
  exact if_neg (by omega)
theorem m_wordHere {G : qx_G} {σ : qx_S} {Z : Nat → Int32} {T : q_T} {t : Nat} {s : q_P} (h : mP σ Z T t s) : qx_M G qc_T 2 YX12_wordHere [.ref 197] σ (fun r s' => r = some (.int (q_wh T s.1)) ∧ ql [(197, some 8)] σ s' ∧ mP s' Z T t s ∧ qx_mi s' 197 8 = nI s.1) := by
  have hf : ql [(197, some 8)] σ σ := qf.rf
  refine qx_M_in rfl (Nat.le_of_ble_eq_true rfl) ?_
  refine qy_wp_ok (c := CX12_wordHere) (cuts := []) vX12_wordHere wX12_wordHere 2000 0 _ _ _ ?_
  refine Exists.intro (lN 123581014175598) (And.intro (by decide) ?_)
  refine And.intro rfl (Exists.intro _ (And.intro (by decide) (qx_M_mono (m_isWordP h 0 (by decide)) ?_)))
  rintro _ σ1 ⟨rfl, fσ1, afσ1, gfσ1⟩
  have hf_σ1 : ql [(197, some 8)] σ σ1 := hf.tr fσ1
  have h_σ1 : mP σ1 Z T t s := afσ1
  have e8_σ1 : qx_mi σ1 197 8 = nI s.1 := gfσ1
  refine And.intro (fun h7 => ?_) (fun h7 => ?_)
  · skip
    have h7 := bI_f h7
    refine Exists.intro (lN 131277443786868) (And.intro (by decide) ?_)
    refine And.intro rfl (Exists.intro _ (And.intro (by decide) (qx_M_mono (m_isWordP h_σ1 1 (by decide)) ?_)))
    rintro _ σ2 ⟨rfl, fσ2, afσ2, gfσ2⟩
    have hf_σ2 : ql [(197, some 8)] σ σ2 := hf_σ1.tr fσ2
    have h_σ2 : mP σ2 Z T t s := afσ2
    have e8_σ2 : qx_mi σ2 197 8 = nI s.1 := gfσ2
    refine And.intro (fun h19 => ?_) (fun h19 => ?_)
    · skip
      have h19 := bI_f h19
      refine Exists.intro (lN 1752132965) (And.intro (by decide) ?_)
      refine And.intro rfl (Exists.intro _ (And.intro (by decide) (qx_M_mono (m_isWordP h_σ2 2 (by decide)) ?_)))
      rintro _ σ3 ⟨rfl, fσ3, afσ3, gfσ3⟩
      have hf_σ3 : ql [(197, some 8)] σ σ3 := hf_σ2.tr fσ3
      have h_σ3 : mP σ3 Z T t s := afσ3
      have e8_σ3 : qx_mi σ3 197 8 = nI s.1 := gfσ3
      refine And.intro (fun h31 => ?_) (fun h31 => ?_)
      · skip
        have h31 := bI_f h31
        refine Exists.intro (lN 24948) (And.intro (by decide) ?_)
        refine And.intro rfl (Exists.intro _ (And.intro (by decide) (qx_M_mono (m_isWordP h_σ3 3 (by decide)) ?_)))
        rintro _ σ4 ⟨rfl, fσ4, afσ4, gfσ4⟩
        have hf_σ4 : ql [(197, some 8)] σ σ4 := hf_σ3.tr fσ4
        have h_σ4 : mP σ4 Z T t s := afσ4
        have e8_σ4 : qx_mi σ4 197 8 = nI s.1 := gfσ4
        refine And.intro (fun h43 => ?_) (fun h43 => ?_)
        · skip
          have h43 := bI_f h43
          refine Exists.intro (lN 29807) (And.intro (by decide) ?_)
          refine And.intro rfl (Exists.intro _ (And.intro (by decide) (qx_M_mono (m_isWordP h_σ4 4 (by decide)) ?_)))
          rintro _ σ5 ⟨rfl, fσ5, afσ5, gfσ5⟩
          have hf_σ5 : ql [(197, some 8)] σ σ5 := hf_σ4.tr fσ5
          have h_σ5 : mP σ5 Z T t s := afσ5
          have e8_σ5 : qx_mi σ5 197 8 = nI s.1 := gfσ5
          refine And.intro (fun h55 => ?_) (fun h55 => ?_)
          · skip
            have h55 := bI_f h55
            refine Exists.intro (lN 2003399528) (And.intro (by decide) ?_)
            refine And.intro rfl (Exists.intro _ (And.intro (by decide) (qx_M_mono (m_isWordP h_σ5 5 (by decide)) ?_)))
            rintro _ σ6 ⟨rfl, fσ6, afσ6, gfσ6⟩
            have hf_σ6 : ql [(197, some 8)] σ σ6 := hf_σ5.tr fσ6
            have h_σ6 : mP σ6 Z T t s := afσ6
            have e8_σ6 : qx_mi σ6 197 8 = nI s.1 := gfσ6
            refine And.intro (fun h67 => ?_) (fun h67 => ?_)
            · skip
              have h67 := bI_f h67
              refine Exists.intro (lN 2003399784) (And.intro (by decide) ?_)
              refine And.intro rfl (Exists.intro _ (And.intro (by decide) (qx_M_mono (m_isWordP h_σ6 6 (by decide)) ?_)))
              rintro _ σ7 ⟨rfl, fσ7, afσ7, gfσ7⟩
              have hf_σ7 : ql [(197, some 8)] σ σ7 := hf_σ6.tr fσ7
              have h_σ7 : mP σ7 Z T t s := afσ7
              have e8_σ7 : qx_mi σ7 197 8 = nI s.1 := gfσ7
              refine And.intro (fun h79 => ?_) (fun h79 => ?_)
              · skip
                have h79 := bI_f h79
                refine Exists.intro (lN 478694368626) (And.intro (by decide) ?_)
                refine And.intro rfl (Exists.intro _ (And.intro (by decide) (qx_M_mono (m_isWordP h_σ7 7 (by decide)) ?_)))
                rintro _ σ8 ⟨rfl, fσ8, afσ8, gfσ8⟩
                have hf_σ8 : ql [(197, some 8)] σ σ8 := hf_σ7.tr fσ8
                have h_σ8 : mP σ8 Z T t s := afσ8
                have e8_σ8 : qx_mi σ8 197 8 = nI s.1 := gfσ8
                refine And.intro (fun h92 => ?_) (fun h92 => ?_)
                · skip
                  have h92 := bI_f h92
                  refine Exists.intro (lN 1919512167) (And.intro (by decide) ?_)
                  refine And.intro rfl (Exists.intro _ (And.intro (by decide) (qx_M_mono (m_isWordP h_σ8 8 (by decide)) ?_)))
                  rintro _ σ9 ⟨rfl, fσ9, afσ9, gfσ9⟩
                  have hf_σ9 : ql [(197, some 8)] σ σ9 := hf_σ8.tr fσ9
                  have h_σ9 : mP σ9 Z T t s := afσ9
                  have e8_σ9 : qx_mi σ9 197 8 = nI s.1 := gfσ9
                  refine And.intro (fun h105 => ?_) (fun h105 => ?_)
                  · skip
                    have h105 := bI_f h105
                    refine Exists.intro (lN 1870095731) (And.intro (by decide) ?_)
                    refine And.intro rfl (Exists.intro _ (And.intro (by decide) (qx_M_mono (m_isWordP h_σ9 9 (by decide)) ?_)))
                    rintro _ σ10 ⟨rfl, fσ10, afσ10, gfσ10⟩
                    have hf_σ10 : ql [(197, some 8)] σ σ10 := hf_σ9.tr fσ10
                    have h_σ10 : mP σ10 Z T t s := afσ10
                    have e8_σ10 : qx_mi σ10 197 8 = nI s.1 := gfσ10
                    refine And.intro (fun h118 => ?_) (fun h118 => ?_)
                    · skip
                      have h118 := bI_f h118
                      refine Exists.intro (lN 6578553) (And.intro (by decide) ?_)
                      refine And.intro rfl (Exists.intro _ (And.intro (by decide) (qx_M_mono (m_isWordP h_σ10 10 (by decide)) ?_)))
                      rintro _ σ11 ⟨rfl, fσ11, afσ11, gfσ11⟩
                      have hf_σ11 : ql [(197, some 8)] σ σ11 := hf_σ10.tr fσ11
                      have h_σ11 : mP σ11 Z T t s := afσ11
                      have e8_σ11 : qx_mi σ11 197 8 = nI s.1 := gfσ11
                      refine And.intro (fun h131 => ?_) (fun h131 => ?_)
                      · skip
                        have h131 := bI_f h131
                        refine Exists.intro (lN 470021465444) (And.intro (by decide) ?_)
                        refine And.intro rfl (Exists.intro _ (And.intro (by decide) (qx_M_mono (m_isWordP h_σ11 11 (by decide)) ?_)))
                        rintro _ σ12 ⟨rfl, fσ12, afσ12, gfσ12⟩
                        have hf_σ12 : ql [(197, some 8)] σ σ12 := hf_σ11.tr fσ12
                        have h_σ12 : mP σ12 Z T t s := afσ12
                        have e8_σ12 : qx_mi σ12 197 8 = nI s.1 := gfσ12
                        refine And.intro (fun h146 => ?_) (fun h146 => ?_)
                        · skip
                          have h146 := bI_f h146
                          refine Exists.intro ((-1)) (And.intro (by decide) ?_)
                          first | exact ⟨congrArg (fun z => some (Value.int z)) (q_wh_j (j := 10) (of_decide_eq_true h131) (by decide)).symm, hf_σ12, h_σ12, e8_σ12⟩ | exact ⟨congrArg (fun z => some (Value.int z)) (q_wh_j (j := 11) (of_decide_eq_true h146) (by decide)).symm, hf_σ12, h_σ12, e8_σ12⟩ | exact ⟨congrArg (fun z => some (Value.int z)) (q_wh_no (of_decide_eq_false h7) (of_decide_eq_false h19) (of_decide_eq_false h31) (of_decide_eq_false h43) (of_decide_eq_false h55) (of_decide_eq_false h67) (of_decide_eq_false h79) (of_decide_eq_false h92) (of_decide_eq_false h105) (of_decide_eq_false h118) (of_decide_eq_false h131) (of_decide_eq_false h146)).symm, hf_σ12, h_σ12, e8_σ12⟩
                        · skip
                          have h146 := bI_t h146
                          refine Exists.intro (nI 11) (And.intro rfl ?_)
                          first | exact ⟨congrArg (fun z => some (Value.int z)) (q_wh_j (j := 10) (of_decide_eq_true h131) (by decide)).symm, hf_σ12, h_σ12, e8_σ12⟩ | exact ⟨congrArg (fun z => some (Value.int z)) (q_wh_j (j := 11) (of_decide_eq_true h146) (by decide)).symm, hf_σ12, h_σ12, e8_σ12⟩ | exact ⟨congrArg (fun z => some (Value.int z)) (q_wh_no (of_decide_eq_false h7) (of_decide_eq_false h19) (of_decide_eq_false h31) (of_decide_eq_false h43) (of_decide_eq_false h55) (of_decide_eq_false h67) (of_decide_eq_false h79) (of_decide_eq_false h92) (of_decide_eq_false h105) (of_decide_eq_false h118) (of_decide_eq_false h131) (of_decide_eq_false h146)).symm, hf_σ12, h_σ12, e8_σ12⟩
                      · skip
                        have h131 := bI_t h131
                        refine Exists.intro (nI 10) (And.intro rfl ?_)
                        first | exact ⟨congrArg (fun z => some (Value.int z)) (q_wh_j (j := 10) (of_decide_eq_true h131) (by decide)).symm, hf_σ11, h_σ11, e8_σ11⟩ | exact ⟨congrArg (fun z => some (Value.int z)) (q_wh_j (j := 11) (of_decide_eq_true h146) (by decide)).symm, hf_σ11, h_σ11, e8_σ11⟩ | exact ⟨congrArg (fun z => some (Value.int z)) (q_wh_no (of_decide_eq_false h7) (of_decide_eq_false h19) (of_decide_eq_false h31) (of_decide_eq_false h43) (of_decide_eq_false h55) (of_decide_eq_false h67) (of_decide_eq_false h79) (of_decide_eq_false h92) (of_decide_eq_false h105) (of_decide_eq_false h118) (of_decide_eq_false h131) (of_decide_eq_false h146)).symm, hf_σ11, h_σ11, e8_σ11⟩
                    · skip
                      have h118 := bI_t h118
                      refine Exists.intro (nI 9) (And.intro rfl ?_)
                      exact ⟨congrArg (fun z => some (Value.int z)) (q_wh_j (j := 9) (of_decide_eq_true h118) (by decide)).symm, hf_σ10, h_σ10, e8_σ10⟩
                  · skip
                    have h105 := bI_t h105
                    refine Exists.intro (nI 8) (And.intro rfl ?_)
                    exact ⟨congrArg (fun z => some (Value.int z)) (q_wh_j (j := 8) (of_decide_eq_true h105) (by decide)).symm, hf_σ9, h_σ9, e8_σ9⟩
                · skip
                  have h92 := bI_t h92
                  refine Exists.intro (nI 7) (And.intro rfl ?_)
                  exact ⟨congrArg (fun z => some (Value.int z)) (q_wh_j (j := 7) (of_decide_eq_true h92) (by decide)).symm, hf_σ8, h_σ8, e8_σ8⟩
              · skip
                have h79 := bI_t h79
                refine Exists.intro (nI 6) (And.intro rfl ?_)
                exact ⟨congrArg (fun z => some (Value.int z)) (q_wh_j (j := 6) (of_decide_eq_true h79) (by decide)).symm, hf_σ7, h_σ7, e8_σ7⟩
            · skip
              have h67 := bI_t h67
              refine Exists.intro (nI 5) (And.intro rfl ?_)
              exact ⟨congrArg (fun z => some (Value.int z)) (q_wh_j (j := 5) (of_decide_eq_true h67) (by decide)).symm, hf_σ6, h_σ6, e8_σ6⟩
          · skip
            have h55 := bI_t h55
            refine Exists.intro (nI 4) (And.intro rfl ?_)
            exact ⟨congrArg (fun z => some (Value.int z)) (q_wh_j (j := 4) (of_decide_eq_true h55) (by decide)).symm, hf_σ5, h_σ5, e8_σ5⟩
        · skip
          have h43 := bI_t h43
          refine Exists.intro (nI 3) (And.intro rfl ?_)
          exact ⟨congrArg (fun z => some (Value.int z)) (q_wh_j (j := 3) (of_decide_eq_true h43) (by decide)).symm, hf_σ4, h_σ4, e8_σ4⟩
      · skip
        have h31 := bI_t h31
        refine Exists.intro (nI 2) (And.intro rfl ?_)
        exact ⟨congrArg (fun z => some (Value.int z)) (q_wh_j (j := 2) (of_decide_eq_true h31) (by decide)).symm, hf_σ3, h_σ3, e8_σ3⟩
    · skip
      have h19 := bI_t h19
      refine Exists.intro (nI 1) (And.intro rfl ?_)
      exact ⟨congrArg (fun z => some (Value.int z)) (q_wh_j (j := 1) (of_decide_eq_true h19) (by decide)).symm, hf_σ2, h_σ2, e8_σ2⟩
  · skip
    have h7 := bI_t h7
    refine Exists.intro (nI 0) (And.intro rfl ?_)
    exact ⟨congrArg (fun z => some (Value.int z)) (q_wh_j (j := 0) (of_decide_eq_true h7) (by decide)).symm, hf_σ1, h_σ1, e8_σ1⟩
theorem mP.em {σ σ1 σ2 : qx_S} {Z : Nat → Int32} {T : q_T} {t c : Nat} {s : q_P} (h : mP σ Z T t s) (e1 : σ1 = qx_wi σ 199 (400 * t + s.2.1) (nI (q_sg c))) (e2 : σ2 = qx_wi σ1 200 t (nI (s.2.1 + 1))) : mP σ2 Z T t (q_em c s) := by
  obtain ⟨a, b, c1, d, e, e2', g, i, j, nx, k1, k2, k3⟩ := h
  have f1 := qn_wi e1
  have f2 := qn_wi e2
  refine ⟨(a.fr f1 rfl (fun _ => rfl)).fr f2 rfl (fun _ => rfl), (f2.i _ _ rfl).trans ((f1.i _ _ rfl).trans b), (f2.i _ _ rfl).trans ((f1.i _ _ rfl).trans c1), d, (f2.i _ _ rfl).trans ((f1.i _ _ rfl).trans e), e2', qn_eq e2, fun x hx => (f2.i _ _ rfl).trans ((qn_ne e1 (Or.inr (by omega))).trans (i x hx)), fun x hx => (f2.i _ _ rfl).trans ?_, nx, (f2.i _ _ rfl).trans ((f1.i _ _ rfl).trans k1), k2, k3⟩
  have hx' : x < s.2.1 + 1 := hx
  show _ = nI (q_sg (va_up s.2.2.1 s.2.1 c x))
  by_cases z : x = s.2.1
  · rw [z, va_up_self]
    exact qn_eq e1
  · rw [va_up_ne _ _ z]
    exact (qn_ne e1 (Or.inr (by omega))).trans (j x (by omega))
theorem m_puts {G : qx_G} {σ : qx_S} {Z : Nat → Int32} {T : q_T} {t : Nat} {s : q_P} (h : mP σ Z T t s) (hl : s.2.1 < 400) {x v : Nat} (c : Nat) (hc : x + 16 * v = q_sg c) : qx_M G qc_T 0 YX12_puts [.ref 197, .int (nI x), .int (nI v)] σ (fun r s' => r = none ∧ ql [(199, none), (200, none)] σ s' ∧ mP s' Z T t (q_em c s)) := by
  have t6 := h.2.2.2.1
  have e11 := h.2.2.1
  have e200 := h.2.2.2.2.2.2.1
  refine qx_M_in rfl (Nat.le_of_ble_eq_true rfl) ?_
  refine qy_wp_ok (c := CX12_puts) (cuts := []) vX12_puts wX12_puts 2000 0 _ _ _ ?_
  refine And.intro rfl (Exists.intro 199 (And.intro rfl ?_))
  refine Exists.intro (nI 400) (And.intro rfl ?_)
  refine And.intro rfl (Exists.intro 11 (Exists.intro (nI t) (And.intro rfl (And.intro e11 ?_))))
  refine Exists.intro (nI (400 * t)) (And.intro (pk_mul _ _) ?_)
  refine And.intro rfl (Exists.intro 200 (And.intro rfl ?_))
  refine And.intro rfl (Exists.intro 11 (Exists.intro (nI t) (And.intro rfl (And.intro e11 ?_))))
  refine Exists.intro (t) (Exists.intro (nI s.2.1) (And.intro rfl (And.intro ⟨7, rfl, by omega, by decide⟩ (And.intro e200 ?_))))
  refine Exists.intro (nI (400 * t + s.2.1)) (And.intro (nI_add _ _) ?_)
  refine Exists.intro (nI 16) (And.intro rfl ?_)
  refine Exists.intro (nI (16 * v)) (And.intro (pk_mul _ _) ?_)
  refine Exists.intro (nI (q_sg c)) (And.intro ((nI_add _ _).trans (congrArg nI hc)) ?_)
  obtain ⟨σ1, eσ1⟩ : ∃ zs, zs = (qx_wi σ 199 (400 * t + s.2.1) (nI (q_sg c))) := ⟨_, rfl⟩
  have fσ1 := qn_wi eσ1
  refine Exists.intro (400 * t + s.2.1) (Exists.intro σ1 (And.intro rfl (And.intro ⟨2400, rfl, by omega, by decide⟩ (And.intro eσ1.symm ?_))))
  refine And.intro rfl (Exists.intro 200 (And.intro rfl ?_))
  refine And.intro rfl (Exists.intro 11 (Exists.intro (nI t) (And.intro rfl (And.intro ((fσ1.i _ _ rfl).trans (e11)) ?_))))
  refine Exists.intro (t) (Exists.intro (nI s.2.1) (And.intro rfl (And.intro ⟨7, rfl, by omega, by decide⟩ (And.intro ((fσ1.i _ _ rfl).trans (e200)) ?_))))
  refine Exists.intro (nI 1) (And.intro rfl ?_)
  refine Exists.intro (nI (s.2.1 + 1)) (And.intro (nI_add _ _) ?_)
  obtain ⟨σ2, eσ2⟩ : ∃ zs, zs = (qx_wi σ1 200 t (nI (s.2.1 + 1))) := ⟨_, rfl⟩
  have fσ2 := qn_wi eσ2
  refine Exists.intro (t) (Exists.intro σ2 (And.intro rfl (And.intro ⟨7, rfl, by omega, by decide⟩ (And.intro eσ2.symm ?_))))
  exact ⟨rfl, (fσ1.mn (by decide)).tr (fσ2.mn (by decide)), h.em eσ1 eσ2⟩
theorem m_makes_ok {G : qx_G} {σ : qx_S} {Z : Nat → Int32} {T : q_T} {t : Nat} {s : q_P} (h : mP σ Z T t s) (hm : s.2.2.2 ≠ 60) {a : Nat} : qx_M G qc_T 1 YX12_makes [.ref 197, .int (nI a)] σ (fun r s' => r = some (.int (bI true)) ∧ ql [(197, some 12)] σ s' ∧ mP s' Z T t (s.1, s.2.1, s.2.2.1, s.2.2.2 + 1)) := by
  have e12 := h.2.2.2.2.1
  have l60 := h.2.2.2.2.2.1
  refine qx_M_in rfl (Nat.le_of_ble_eq_true rfl) ?_
  refine qy_wp_ok (c := CX12_makes) (cuts := [9]) vX12_makes wX12_makes 2000 0 _ _ _ ?_
  refine And.intro rfl (Exists.intro 12 (Exists.intro (nI s.2.2.2) (And.intro rfl (And.intro e12 ?_))))
  refine Exists.intro (nI 60) (And.intro rfl ?_)
  refine And.intro (fun h6 => ?_) (fun h6 => ?_)
  · skip
    have h6 := nI_neT (a := s.2.2.2) (b := 60) (by omega) (by decide) h6
    refine And.intro rfl (Exists.intro 12 (Exists.intro (nI s.2.2.2) (And.intro rfl (And.intro e12 ?_))))
    refine Exists.intro (nI 1) (And.intro rfl ?_)
    refine Exists.intro (nI (s.2.2.2 + 1)) (And.intro (nI_add _ _) ?_)
    obtain ⟨σ1, eσ1⟩ : ∃ zs, zs = (qx_wi σ 197 12 (nI (s.2.2.2 + 1))) := ⟨_, rfl⟩
    have fσ1 := qn_wif eσ1
    refine And.intro rfl (Exists.intro 12 (Exists.intro σ1 (And.intro rfl (And.intro eσ1.symm ?_))))
    refine Exists.intro (nI 1) (And.intro rfl ?_)
    refine And.intro (Or.inr rfl) ?_
    obtain ⟨a, b, c, d, e, e2, g, i, j, nx, k1, k2, k3⟩ := h
    exact ⟨rfl, fσ1, a.fr fσ1 rfl (fun _ => rfl), (fσ1.i _ _ rfl).trans b, (fσ1.i _ _ rfl).trans c, d, qn_eq eσ1, show s.2.2.2 + 1 ≤ 60 by omega, (fσ1.i _ _ rfl).trans g, fun x hx => (fσ1.i _ _ rfl).trans (i x hx), fun x hx => (fσ1.i _ _ rfl).trans (j x hx), nx, (fσ1.i _ _ rfl).trans k1, k2, k3⟩
  · skip
    have h6 := nI_eqT (a := s.2.2.2) (b := 60) (by omega) (by decide) h6
    exact absurd h6 hm
theorem m_makes_no {G : qx_G} {σ : qx_S} {Z : Nat → Int32} {T : q_T} {t : Nat} {s : q_P} (h : mP σ Z T t s) (hm : s.2.2.2 = 60) {a : Nat} : qx_M G qc_T 1 YX12_makes [.ref 197, .int (nI a)] σ (fun r s' => r = some (.int (bI false)) ∧ ql [(197, some 9)] σ s' ∧ qx_mi s' 197 9 = nI (1 + 8 * a + 3)) := by
  have e12 : qx_mi σ 197 12 = nI 60 := h.2.2.2.2.1.trans (by rw [hm])
  refine qx_M_in rfl (Nat.le_of_ble_eq_true rfl) ?_
  refine qy_wp_ok (c := CX12_makes) (cuts := []) vX12_makes wX12_makes 2000 0 _ _ _ ?_
  refine And.intro rfl (Exists.intro 12 (Exists.intro (nI 60) (And.intro rfl (And.intro e12 ?_))))
  refine Exists.intro (nI 60) (And.intro rfl ?_)
  refine And.intro (fun h6 => ?_) (fun h6 => ?_)
  · skip
    exact absurd (by decide) h6
  · skip
    refine Exists.intro (nI 3) (And.intro rfl ?_)
    refine And.intro rfl (Exists.intro _ (And.intro (by decide) (qx_M_mono (m_fails h.2.1) ?_)))
    rintro _ σ1 ⟨rfl, fσ1, gσ1⟩
    refine And.intro (bI_01 _) ?_
    exact ⟨rfl, fσ1, gσ1⟩
abbrev lP : List (Nat × Option Nat) := [(197, some 8), (197, some 9), (197, some 10), (197, some 12), (199, none), (200, none)]
/-- what reading answers -/
def rP (σ s' : qx_S) (Z : Nat → Int32) (T : q_T) (t : Nat) (x : q_X) (r : Option Value) : Prop := ql lP σ s' ∧ (match x with
  | .error f => r = some (.int (bI false)) ∧ qx_mi s' 197 9 = nI f ∧ ∀ j, j < 400 * t → qx_mi s' 199 j = Z j
  | .ok st => r = some (.int (bI true)) ∧ mP s' Z T t st)
theorem mP.z {σ s' : qx_S} {Z : Nat → Int32} {T : q_T} {t : Nat} {s : q_P} {l : List (Nat × Option Nat)} (h : mP σ Z T t s) (f : ql l σ s') (hk : ∀ j, pL l 199 j = false) : ∀ j, j < 400 * t → qx_mi s' 199 j = Z j := fun j hj => (f.i _ _ (hk j)).trans (h.2.2.2.2.2.2.2.1 j hj)
theorem q_nf1_v {T : q_T} {p : Nat} (h : isD T p = true) : q_nf1 T p (nI 0) (nI 99999) = if q_kd T p = 256 then none else some (1 + 8 * p + 1) := by
  have hv := q_nu_lt T p
  have a1 : nI 0 ≤ nI (q_nu T p) := (nI_leI (by decide) (by omega)).mpr (by omega)
  have a2 : nI (q_nu T p) ≤ nI 99999 := (nI_leI (by omega) (by decide)).mpr (by omega)
  unfold q_nf1
  rw [if_pos h, q_kd_D h]
  by_cases z : q_de T p - p ≤ 5
  · rw [if_pos ⟨z, a1, a2⟩, if_pos z, if_pos rfl]
  · rw [if_neg (fun y => z y.1), if_neg z, if_neg (by decide)]
theorem q_kd_nD {T : q_T} {p : Nat} (hb : ∀ k, k < T.1 → T.2 k < 256) (h : isD T p = false) : q_kd T p ≠ 256 ∧ q_kd T p ≠ 257 := by
  rcases Nat.lt_or_ge p T.1 with y | y
  · have b := hb p y
    cases hl : isL T p with
    | true => rw [q_kd_L hl]; split <;> omega
    | false =>
      rw [(q_kd_S y hl h).1]
      split
      · split <;> omega
      · omega
  · rw [(q_kd_E y).1]
    omega
theorem m_numP {G : qx_G} {σ : qx_S} {Z : Nat → Int32} {T : q_T} {t : Nat} {s : q_P} (h : mP σ Z T t s) (lo hi : Int32) : qx_M G qc_T 1 YX12_numberHere [.ref 197, .int lo, .int hi] σ (fun r s' => ql lN1 σ s' ∧ (match q_nf1 T s.1 lo hi with
    | some f => r = some (.int (bI false)) ∧ qx_mi s' 197 9 = nI f ∧ ∀ j, j < 400 * t → qx_mi s' 199 j = Z j
    | none => r = some (.int (bI true)) ∧ mP s' Z T t (q_pas T s) ∧ qx_mi s' 197 10 = nI (q_nu T s.1))) := by
  obtain ⟨hsk, hle, h400, hb⟩ := h.sk
  obtain ⟨nx, k1, k2, k3⟩ := h.2.2.2.2.2.2.2.2.2
  refine qx_M_mono (m_numberHere (lo := lo) (hi := hi) h.1 k2 k1 h.2.1) ?_
  rintro _ s' ⟨rfl, f, g1, g2⟩
  rw [k3] at g1 g2 ⊢
  refine ⟨f, ?_⟩
  cases e : q_nf1 T s.1 lo hi with
  | some z => exact ⟨rfl, g1 z e, h.z f (fun _ => rfl)⟩
  | none =>
    obtain ⟨y1, y2, y3⟩ := g2 e
    have hD : isD T s.1 = true := by
      unfold q_nf1 at e
      split at e
      · next z => exact z
      · cases e
    have hte := q_te_gt (isD_lt hD).1
    rw [← q_te_D hD] at y2
    obtain ⟨a, b, c, d, e1, e2, g, i, j, -⟩ := h
    exact ⟨rfl, ⟨a.fr f rfl (fun _ => rfl), y1, (f.i _ _ rfl).trans c, d, (f.i _ _ rfl).trans e1, e2, (f.i _ _ rfl).trans g, fun x hx => (f.i _ _ rfl).trans (i x hx), fun x hx => (f.i _ _ rfl).trans (j x hx), _, y2, hte.2, rfl⟩, y3⟩
theorem q_V_long {T : q_T} {s : q_P} (h : q_kd T s.1 = 257) : q_V T s = .error (1 + 8 * s.1 + 1) := if_pos h
theorem q_V_full {T : q_T} {s : q_P} (h : q_isv (q_kd T s.1) = true) (hm : s.2.2.2 = 60) : q_V T s = .error (1 + 8 * s.1 + 3) := by
  have := of_decide_eq_true h
  unfold q_V
  rw [if_neg (by omega), if_pos h, if_pos hm]
theorem q_V_ok {T : q_T} {s : q_P} (h : q_isv (q_kd T s.1) = true) (hm : s.2.2.2 ≠ 60) : q_V T s = .ok (q_em (q_vc T s.1) (q_mk T s)) := by
  have := of_decide_eq_true h
  unfold q_V
  rw [if_neg (by omega), if_pos h, if_neg hm]
theorem q_V_no {T : q_T} {s : q_P} (h : q_isv (q_kd T s.1) = false) (h7 : q_kd T s.1 ≠ 257) : q_V T s = .error (1 + 8 * s.1 + 0) := by
  unfold q_V
  rw [if_neg h7, if_neg (by rw [h]; decide)]
theorem q_sg_n {c : Nat} (h : c < 100000) : 0 + 16 * c = q_sg c := by
  unfold q_sg
  rw [if_pos h]
  omega
theorem q_sg_w {j : Nat} (h : j < 12) : 1 + 16 * j = q_sg (100000 + j) := by
  unfold q_sg
  rw [if_neg (by omega), if_pos (by omega)]
  omega
theorem m_value {G : qx_G} {σ : qx_S} {Z : Nat → Int32} {T : q_T} {t : Nat} {s : q_P} (h : mP σ Z T t s) (hl : s.2.1 ≤ s.1) : qx_M G qc_T 3 YX12_value [.ref 197] σ (fun r s' => rP σ s' Z T t (q_V T s) r) := by
  obtain ⟨hsk, hle, h400, hb⟩ := h.sk
  cases hD : isD T s.1 with
  | true =>
    have hlt := (isD_lt hD).1
    have hkd : q_kd T s.1 = 256 ∨ q_kd T s.1 = 257 := by rw [q_kd_D hD]; split <;> omega
    have nv := q_nf1_v hD
    by_cases k6 : q_kd T s.1 = 256
    · rw [if_pos k6] at nv
      have hisv : q_isv (q_kd T s.1) = true := decide_eq_true (Or.inl k6)
      have num : ∀ σ1, mP σ1 Z T t s → qx_M G qc_T 1 YX12_numberHere [.ref 197, .int (nI 0), .int (nI 99999)] σ1 (fun r s' => ql lN1 σ1 s' ∧ r = some (.int (bI true)) ∧ mP s' Z T t (q_pas T s) ∧ qx_mi s' 197 10 = nI (q_nu T s.1)) := by
        intro σ1 a
        have := m_numP (G := G) a (nI 0) (nI 99999)
        rw [nv] at this
        exact this
      by_cases m6 : s.2.2.2 = 60
      · rw [q_V_full hisv m6]
        refine qx_M_in rfl (Nat.le_of_ble_eq_true rfl) ?_
        refine qy_wp_ok (c := CX12_value) (cuts := []) vX12_value wX12_value 2000 0 _ _ _ ?_
        refine And.intro rfl (Exists.intro _ (And.intro (by decide) (qx_M_mono (m_seeP h) ?_)))
        rintro _ σ1 ⟨rfl, fσ1, aσ1, gσ1⟩
        refine And.intro rfl (Exists.intro 8 (Exists.intro (nI s.1) (And.intro rfl (And.intro gσ1 ?_))))
        refine And.intro rfl (Exists.intro 8 (Exists.intro (nI s.1) (And.intro rfl (And.intro gσ1 ?_))))
        refine And.intro rfl (Exists.intro _ (And.intro (by decide) (qx_M_mono (m_isDigit aσ1.1 (by omega)) ?_)))
        rintro _ _ ⟨rfl, rfl⟩
        refine And.intro (fun h18 => ?_) (fun h18 => ?_)
        · skip
          have h18 := bI_f h18
          exact absurd (h18.symm.trans (hD)) (by decide)
        · skip
          have h18 := bI_t h18
          refine Exists.intro (nI 0) (And.intro rfl ?_)
          refine Exists.intro (nI 99999) (And.intro rfl ?_)
          refine And.intro rfl (Exists.intro _ (And.intro (by decide) (qx_M_mono (num _ aσ1) ?_)))
          rintro _ σ2 ⟨fσ2, rfl, aσ2, nσ2⟩
          refine And.intro (fun h28 => ?_) (fun h28 => ?_)
          · skip
            have h28 := bI_f h28
            exact absurd (h28.symm.trans (rfl)) (by decide)
          · skip
            have h28 := bI_t h28
            refine And.intro rfl (Exists.intro _ (And.intro (by decide) (qx_M_mono (m_makes_no aσ2 m6) ?_)))
            rintro _ σ3 ⟨rfl, fσ3, gσ3⟩
            refine And.intro (fun h36 => ?_) (fun h36 => ?_)
            · skip
              have h36 := bI_t h36
              exact absurd (h36.symm.trans (rfl)) (by decide)
            · skip
              have h36 := bI_f h36
              refine Exists.intro (nI 0) (And.intro rfl ?_)
              refine And.intro (Or.inl rfl) ?_
              exact ⟨(fσ1.mn (m := lP) (by decide)).tr ((fσ2.mn (by decide)).tr (fσ3.mn (by decide))), rfl, gσ3, aσ2.z fσ3 (fun _ => rfl)⟩
      · rw [q_V_ok hisv m6]
        have hnu := q_nu_lt T s.1
        have evc : q_vc T s.1 = q_nu T s.1 := if_pos k6
        have hcg : 0 + 16 * q_nu T s.1 = q_sg (q_vc T s.1) := by rw [evc]; exact q_sg_n hnu
        refine qx_M_in rfl (Nat.le_of_ble_eq_true rfl) ?_
        refine qy_wp_ok (c := CX12_value) (cuts := []) vX12_value wX12_value 2000 0 _ _ _ ?_
        refine And.intro rfl (Exists.intro _ (And.intro (by decide) (qx_M_mono (m_seeP h) ?_)))
        rintro _ σ1 ⟨rfl, fσ1, aσ1, gσ1⟩
        refine And.intro rfl (Exists.intro 8 (Exists.intro (nI s.1) (And.intro rfl (And.intro gσ1 ?_))))
        refine And.intro rfl (Exists.intro 8 (Exists.intro (nI s.1) (And.intro rfl (And.intro gσ1 ?_))))
        refine And.intro rfl (Exists.intro _ (And.intro (by decide) (qx_M_mono (m_isDigit aσ1.1 (by omega)) ?_)))
        rintro _ _ ⟨rfl, rfl⟩
        refine And.intro (fun h18 => ?_) (fun h18 => ?_)
        · skip
          have h18 := bI_f h18
          exact absurd (h18.symm.trans (hD)) (by decide)
        · skip
          have h18 := bI_t h18
          refine Exists.intro (nI 0) (And.intro rfl ?_)
          refine Exists.intro (nI 99999) (And.intro rfl ?_)
          refine And.intro rfl (Exists.intro _ (And.intro (by decide) (qx_M_mono (num _ aσ1) ?_)))
          rintro _ σ2 ⟨fσ2, rfl, aσ2, nσ2⟩
          refine And.intro (fun h28 => ?_) (fun h28 => ?_)
          · skip
            have h28 := bI_f h28
            exact absurd (h28.symm.trans (rfl)) (by decide)
          · skip
            have h28 := bI_t h28
            refine And.intro rfl (Exists.intro _ (And.intro (by decide) (qx_M_mono (m_makes_ok aσ2 m6) ?_)))
            rintro _ σ3 ⟨rfl, fσ3, aσ3⟩
            refine And.intro (fun h36 => ?_) (fun h36 => ?_)
            · skip
              have h36 := bI_t h36
              refine Exists.intro (nI 0) (And.intro rfl ?_)
              refine And.intro rfl (Exists.intro 10 (Exists.intro (nI (q_nu T s.1)) (And.intro rfl (And.intro ((fσ3.i _ _ rfl).trans (nσ2)) ?_))))
              refine And.intro rfl (Exists.intro _ (And.intro (by decide) (qx_M_mono (m_puts aσ3 (show s.2.1 < 400 by omega) (q_vc T s.1) hcg) ?_)))
              rintro _ σ4 ⟨rfl, fσ4, aσ4⟩
              refine Exists.intro (nI 1) (And.intro rfl ?_)
              refine And.intro (Or.inr rfl) ?_
              exact ⟨(fσ1.mn (m := lP) (by decide)).tr ((fσ2.mn (by decide)).tr ((fσ3.mn (by decide)).tr (fσ4.mn (by decide)))), rfl, aσ4⟩
            · skip
              have h36 := bI_f h36
              exact absurd (h36.symm.trans (rfl)) (by decide)
    · have k7 : q_kd T s.1 = 257 := by omega
      rw [if_neg k6] at nv
      rw [q_V_long k7]
      have num : ∀ σ1, mP σ1 Z T t s → qx_M G qc_T 1 YX12_numberHere [.ref 197, .int (nI 0), .int (nI 99999)] σ1 (fun r s' => ql lN1 σ1 s' ∧ r = some (.int (bI false)) ∧ qx_mi s' 197 9 = nI (1 + 8 * s.1 + 1) ∧ ∀ j, j < 400 * t → qx_mi s' 199 j = Z j) := by
        intro σ1 a
        have := m_numP (G := G) a (nI 0) (nI 99999)
        rw [nv] at this
        exact this
      refine qx_M_in rfl (Nat.le_of_ble_eq_true rfl) ?_
      refine qy_wp_ok (c := CX12_value) (cuts := []) vX12_value wX12_value 2000 0 _ _ _ ?_
      refine And.intro rfl (Exists.intro _ (And.intro (by decide) (qx_M_mono (m_seeP h) ?_)))
      rintro _ σ1 ⟨rfl, fσ1, aσ1, gσ1⟩
      refine And.intro rfl (Exists.intro 8 (Exists.intro (nI s.1) (And.intro rfl (And.intro gσ1 ?_))))
      refine And.intro rfl (Exists.intro 8 (Exists.intro (nI s.1) (And.intro rfl (And.intro gσ1 ?_))))
      refine And.intro rfl (Exists.intro _ (And.intro (by decide) (qx_M_mono (m_isDigit aσ1.1 (by omega)) ?_)))
      rintro _ _ ⟨rfl, rfl⟩
      refine And.intro (fun h18 => ?_) (fun h18 => ?_)
      · skip
        have h18 := bI_f h18
        exact absurd (h18.symm.trans (hD)) (by decide)
      · skip
        have h18 := bI_t h18
        refine Exists.intro (nI 0) (And.intro rfl ?_)
        refine Exists.intro (nI 99999) (And.intro rfl ?_)
        refine And.intro rfl (Exists.intro _ (And.intro (by decide) (qx_M_mono (num _ aσ1) ?_)))
        rintro _ σ2 ⟨fσ2, rfl, nσ2, zσ2⟩
        refine And.intro (fun h28 => ?_) (fun h28 => ?_)
        · skip
          have h28 := bI_f h28
          refine Exists.intro (nI 0) (And.intro rfl ?_)
          refine And.intro (Or.inl rfl) ?_
          exact ⟨(fσ1.mn (m := lP) (by decide)).tr (fσ2.mn (by decide)), rfl, nσ2, zσ2⟩
        · skip
          have h28 := bI_t h28
          exact absurd (h28.symm.trans (rfl)) (by decide)
  | false =>
    obtain ⟨n6, n7⟩ := q_kd_nD hb hD
    by_cases hw : 300 ≤ q_kd T s.1 ∧ q_kd T s.1 < 312
    · have hisv : q_isv (q_kd T s.1) = true := decide_eq_true (Or.inr hw)
      have ewh : q_wh T s.1 = nI (q_kd T s.1 - 300) := if_pos hw
      have whr : ∀ σ1, mP σ1 Z T t s → qx_M G qc_T 2 YX12_wordHere [.ref 197] σ1 (fun r s' => r = some (.int (nI (q_kd T s.1 - 300))) ∧ ql [(197, some 8)] σ1 s' ∧ mP s' Z T t s ∧ qx_mi s' 197 8 = nI s.1) := by
        intro σ1 a
        have := m_wordHere (G := G) a
        rw [ewh] at this
        exact this
      by_cases m6 : s.2.2.2 = 60
      · rw [q_V_full hisv m6]
        refine qx_M_in rfl (Nat.le_of_ble_eq_true rfl) ?_
        refine qy_wp_ok (c := CX12_value) (cuts := []) vX12_value wX12_value 2000 0 _ _ _ ?_
        refine And.intro rfl (Exists.intro _ (And.intro (by decide) (qx_M_mono (m_seeP h) ?_)))
        rintro _ σ1 ⟨rfl, fσ1, aσ1, gσ1⟩
        refine And.intro rfl (Exists.intro 8 (Exists.intro (nI s.1) (And.intro rfl (And.intro gσ1 ?_))))
        refine And.intro rfl (Exists.intro 8 (Exists.intro (nI s.1) (And.intro rfl (And.intro gσ1 ?_))))
        refine And.intro rfl (Exists.intro _ (And.intro (by decide) (qx_M_mono (m_isDigit aσ1.1 (by omega)) ?_)))
        rintro _ _ ⟨rfl, rfl⟩
        refine And.intro (fun h18 => ?_) (fun h18 => ?_)
        · skip
          have h18 := bI_f h18
          refine And.intro rfl (Exists.intro _ (And.intro (by decide) (qx_M_mono (whr _ aσ1) ?_)))
          rintro _ σ2 ⟨rfl, fσ2, aσ2, gσ2⟩
          refine And.intro (fun h58 => ?_) (fun h58 => ?_)
          · skip
            have h58 := nI_leT (a := 0) (b := q_kd T s.1 - 300) (by decide) (by omega) h58
            refine And.intro rfl (Exists.intro _ (And.intro (by decide) (qx_M_mono (m_makes_no aσ2 m6) ?_)))
            rintro _ σ3 ⟨rfl, fσ3, gσ3⟩
            refine And.intro (fun h73 => ?_) (fun h73 => ?_)
            · skip
              have h73 := bI_t h73
              exact absurd (h73.symm.trans (rfl)) (by decide)
            · skip
              have h73 := bI_f h73
              refine Exists.intro (nI 0) (And.intro rfl ?_)
              refine And.intro (Or.inl rfl) ?_
              exact ⟨(fσ1.mn (m := lP) (by decide)).tr ((fσ2.mn (by decide)).tr (fσ3.mn (by decide))), rfl, gσ3, aσ2.z fσ3 (fun _ => rfl)⟩
          · skip
            have h58 := nI_leF (a := 0) (b := q_kd T s.1 - 300) (by decide) (by omega) h58
            exact absurd h58 (by omega)
        · skip
          have h18 := bI_t h18
          exact absurd (h18.symm.trans (hD)) (by decide)
      · rw [q_V_ok hisv m6]
        have evc : q_vc T s.1 = 100000 + (q_kd T s.1 - 300) := if_neg n6
        have hcg : 1 + 16 * (q_kd T s.1 - 300) = q_sg (q_vc T s.1) := by rw [evc]; exact q_sg_w (by omega)
        have hlt := q_kd_lt (T := T) (p := s.1) (by omega)
        refine qx_M_in rfl (Nat.le_of_ble_eq_true rfl) ?_
        refine qy_wp_ok (c := CX12_value) (cuts := []) vX12_value wX12_value 2000 0 _ _ _ ?_
        refine And.intro rfl (Exists.intro _ (And.intro (by decide) (qx_M_mono (m_seeP h) ?_)))
        rintro _ σ1 ⟨rfl, fσ1, aσ1, gσ1⟩
        refine And.intro rfl (Exists.intro 8 (Exists.intro (nI s.1) (And.intro rfl (And.intro gσ1 ?_))))
        refine And.intro rfl (Exists.intro 8 (Exists.intro (nI s.1) (And.intro rfl (And.intro gσ1 ?_))))
        refine And.intro rfl (Exists.intro _ (And.intro (by decide) (qx_M_mono (m_isDigit aσ1.1 (by omega)) ?_)))
        rintro _ _ ⟨rfl, rfl⟩
        refine And.intro (fun h18 => ?_) (fun h18 => ?_)
        · skip
          have h18 := bI_f h18
          refine And.intro rfl (Exists.intro _ (And.intro (by decide) (qx_M_mono (whr _ aσ1) ?_)))
          rintro _ σ2 ⟨rfl, fσ2, aσ2, gσ2⟩
          refine And.intro (fun h58 => ?_) (fun h58 => ?_)
          · skip
            have h58 := nI_leT (a := 0) (b := q_kd T s.1 - 300) (by decide) (by omega) h58
            refine And.intro rfl (Exists.intro _ (And.intro (by decide) (qx_M_mono (m_makes_ok aσ2 m6) ?_)))
            rintro _ σ3 ⟨rfl, fσ3, aσ3⟩
            refine And.intro (fun h73 => ?_) (fun h73 => ?_)
            · skip
              have h73 := bI_t h73
              refine And.intro rfl (Exists.intro _ (And.intro (by decide) (qx_M_mono (m_passP aσ3 ((fσ3.i _ _ rfl).trans gσ2) (show 300 ≤ q_kd T s.1 ∧ q_kd T s.1 < 999 by omega)) ?_)))
              rintro _ σ4 ⟨rfl, fσ4, aσ4⟩
              refine Exists.intro (nI 1) (And.intro rfl ?_)
              refine And.intro rfl (Exists.intro _ (And.intro (by decide) (qx_M_mono (m_puts aσ4 (show s.2.1 < 400 by omega) (q_vc T s.1) hcg) ?_)))
              rintro _ σ5 ⟨rfl, fσ5, aσ5⟩
              refine Exists.intro (nI 1) (And.intro rfl ?_)
              refine And.intro (Or.inr rfl) ?_
              exact ⟨(fσ1.mn (m := lP) (by decide)).tr ((fσ2.mn (by decide)).tr ((fσ3.mn (by decide)).tr ((fσ4.mn (by decide)).tr (fσ5.mn (by decide))))), rfl, aσ5⟩
            · skip
              have h73 := bI_f h73
              exact absurd (h73.symm.trans (rfl)) (by decide)
          · skip
            have h58 := nI_leF (a := 0) (b := q_kd T s.1 - 300) (by decide) (by omega) h58
            exact absurd h58 (by omega)
        · skip
          have h18 := bI_t h18
          exact absurd (h18.symm.trans (hD)) (by decide)
    · have hisv : q_isv (q_kd T s.1) = false := decide_eq_false (fun z => z.elim n6 hw)
      rw [q_V_no hisv n7]
      have ewh : q_wh T s.1 = -1 := if_neg hw
      have whr : ∀ σ1, mP σ1 Z T t s → qx_M G qc_T 2 YX12_wordHere [.ref 197] σ1 (fun r s' => r = some (.int (-1)) ∧ ql [(197, some 8)] σ1 s' ∧ mP s' Z T t s ∧ qx_mi s' 197 8 = nI s.1) := by
        intro σ1 a
        have := m_wordHere (G := G) a
        rw [ewh] at this
        exact this
      refine qx_M_in rfl (Nat.le_of_ble_eq_true rfl) ?_
      refine qy_wp_ok (c := CX12_value) (cuts := []) vX12_value wX12_value 2000 0 _ _ _ ?_
      refine And.intro rfl (Exists.intro _ (And.intro (by decide) (qx_M_mono (m_seeP h) ?_)))
      rintro _ σ1 ⟨rfl, fσ1, aσ1, gσ1⟩
      refine And.intro rfl (Exists.intro 8 (Exists.intro (nI s.1) (And.intro rfl (And.intro gσ1 ?_))))
      refine And.intro rfl (Exists.intro 8 (Exists.intro (nI s.1) (And.intro rfl (And.intro gσ1 ?_))))
      refine And.intro rfl (Exists.intro _ (And.intro (by decide) (qx_M_mono (m_isDigit aσ1.1 (by omega)) ?_)))
      rintro _ _ ⟨rfl, rfl⟩
      refine And.intro (fun h18 => ?_) (fun h18 => ?_)
      · skip
        have h18 := bI_f h18
        refine And.intro rfl (Exists.intro _ (And.intro (by decide) (qx_M_mono (whr _ aσ1) ?_)))
        rintro _ σ2 ⟨rfl, fσ2, aσ2, gσ2⟩
        refine And.intro (fun h58 => ?_) (fun h58 => ?_)
        · skip
          exact absurd h58 (by decide)
        · skip
          refine Exists.intro (nI 0) (And.intro rfl ?_)
          refine And.intro rfl (Exists.intro _ (And.intro (by decide) (qx_M_mono (m_fails aσ2.2.1) ?_)))
          rintro _ σ3 ⟨rfl, fσ3, gσ3⟩
          refine And.intro (bI_01 _) ?_
          exact ⟨(fσ1.mn (m := lP) (by decide)).tr ((fσ2.mn (by decide)).tr (fσ3.mn (by decide))), rfl, gσ3, aσ2.z fσ3 (fun _ => rfl)⟩
      · skip
        have h18 := bI_t h18
        exact absurd (h18.symm.trans (hD)) (by decide)

