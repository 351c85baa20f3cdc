/-! THE REFERENCE: tests, what is open -/
def mKs1 (σ : qx_S) : List Nat → Prop
  | [] => True
  | x :: st => qx_mi σ 204 st.length = nI x ∧ mKs1 σ st
def mKs (σ : qx_S) (st : List Nat) : Prop := qx_mi σ 197 16 = nI st.length ∧ qx_mi σ 197 13 = nI (q_dp st) ∧ mKs1 σ st
theorem mKs1.fr {σ s : qx_S} {l : List (Nat × Option Nat)} (f : ql l σ s) (h : ∀ j, pL l 204 j = false) : ∀ st, mKs1 σ st → mKs1 s st
  | [], _ => trivial
  | _ :: st, k => ⟨(f.i _ _ (h _)).trans k.1, mKs1.fr f h st k.2⟩
theorem mKs.fr {σ s : qx_S} {l : List (Nat × Option Nat)} {st : List Nat} (k : mKs σ st) (f : ql l σ s) (h1 : pL l 197 16 = false) (h2 : pL l 197 13 = false) (h : ∀ j, pL l 204 j = false) : mKs s st := ⟨(f.i _ _ h1).trans k.1, (f.i _ _ h2).trans k.2.1, mKs1.fr f h st k.2.2⟩
theorem mKs1.up {σ s : qx_S} {k : Nat} {v : Int32} (e : s = qx_wi σ 204 k v) : ∀ st, st.length ≤ k → mKs1 σ st → mKs1 s st
  | [], _, _ => trivial
  | x :: st, h, m => by
    have h : st.length + 1 ≤ k := h
    exact ⟨(qn_ne e (Or.inr (by omega))).trans m.1, mKs1.up e st (by omega) m.2⟩
theorem q_dp_le : ∀ st, q_dp st ≤ st.length
  | [] => Nat.le_refl _
  | x :: st => by
    have := q_dp_le st
    show (if x = 11 ∨ x = 91 then 1 else 0) + q_dp st ≤ st.length + 1
    split <;> omega
theorem m_strength {G : qx_G} {σ : qx_S} {x : Nat} (hx : x < 128) : qx_M G qc_T 0 YX12_strength [.int (nI x)] σ (qr (nI (q_sth x)) σ) := by
  refine qx_M_in rfl (Nat.le_of_ble_eq_true rfl) ?_
  refine qy_wp_ok (c := CX12_strength) (cuts := []) vX12_strength wX12_strength 2000 0 _ _ _ ?_
  refine Exists.intro (nI 13) (And.intro rfl ?_)
  refine And.intro (fun h3 => ?_) (fun h3 => ?_)
  · skip
    have h3 := nI_neT (a := x) (b := 13) (by omega) (by decide) h3
    refine Exists.intro (nI 12) (And.intro rfl ?_)
    refine And.intro (fun h13 => ?_) (fun h13 => ?_)
    · skip
      have h13 := nI_neT (a := x) (b := 12) (by omega) (by decide) h13
      refine Exists.intro (nI 11) (And.intro rfl ?_)
      refine And.intro (fun h23 => ?_) (fun h23 => ?_)
      · skip
        have h23 := nI_neT (a := x) (b := 11) (by omega) (by decide) h23
        refine Exists.intro (nI 0) (And.intro rfl ?_)
        unfold q_sth
        first | (rw [if_pos (show x = 13 by omega)]; exact ⟨rfl, rfl⟩) | (rw [if_neg (show ¬ x = 13 by omega), if_pos (show x = 12 by omega)]; exact ⟨rfl, rfl⟩) | (rw [if_neg (show ¬ x = 13 by omega), if_neg (show ¬ x = 12 by omega), if_pos (show x = 11 by omega)]; exact ⟨rfl, rfl⟩) | (rw [if_neg (show ¬ x = 13 by omega), if_neg (show ¬ x = 12 by omega), if_neg (show ¬ x = 11 by omega)]; exact ⟨rfl, rfl⟩)
      · skip
        have h23 := nI_eqT (a := x) (b := 11) (by omega) (by decide) h23
        refine Exists.intro (nI 3) (And.intro rfl ?_)
        unfold q_sth
        first | (rw [if_pos (show x = 13 by omega)]; exact ⟨rfl, rfl⟩) | (rw [if_neg (show ¬ x = 13 by omega), if_pos (show x = 12 by omega)]; exact ⟨rfl, rfl⟩) | (rw [if_neg (show ¬ x = 13 by omega), if_neg (show ¬ x = 12 by omega), if_pos (show x = 11 by omega)]; exact ⟨rfl, rfl⟩) | (rw [if_neg (show ¬ x = 13 by omega), if_neg (show ¬ x = 12 by omega), if_neg (show ¬ x = 11 by omega)]; exact ⟨rfl, rfl⟩)
    · skip
      have h13 := nI_eqT (a := x) (b := 12) (by omega) (by decide) h13
      refine Exists.intro (nI 2) (And.intro rfl ?_)
      unfold q_sth
      first | (rw [if_pos (show x = 13 by omega)]; exact ⟨rfl, rfl⟩) | (rw [if_neg (show ¬ x = 13 by omega), if_pos (show x = 12 by omega)]; exact ⟨rfl, rfl⟩) | (rw [if_neg (show ¬ x = 13 by omega), if_neg (show ¬ x = 12 by omega), if_pos (show x = 11 by omega)]; exact ⟨rfl, rfl⟩) | (rw [if_neg (show ¬ x = 13 by omega), if_neg (show ¬ x = 12 by omega), if_neg (show ¬ x = 11 by omega)]; exact ⟨rfl, rfl⟩)
  · skip
    have h3 := nI_eqT (a := x) (b := 13) (by omega) (by decide) h3
    refine Exists.intro (nI 1) (And.intro rfl ?_)
    unfold q_sth
    first | (rw [if_pos (show x = 13 by omega)]; exact ⟨rfl, rfl⟩) | (rw [if_neg (show ¬ x = 13 by omega), if_pos (show x = 12 by omega)]; exact ⟨rfl, rfl⟩) | (rw [if_neg (show ¬ x = 13 by omega), if_neg (show ¬ x = 12 by omega), if_pos (show x = 11 by omega)]; exact ⟨rfl, rfl⟩) | (rw [if_neg (show ¬ x = 13 by omega), if_neg (show ¬ x = 12 by omega), if_neg (show ¬ x = 11 by omega)]; exact ⟨rfl, rfl⟩)
abbrev lF : List (Nat × Option Nat) := [(197, some 8), (197, some 9), (197, some 10), (197, some 12), (199, none), (200, none), (197, some 13), (197, some 16), (204, none)]
theorem l_settles {G : qx_G} {σ0 : qx_S} {Z : Nat → Int32} {T : q_T} {t l : Nat} (hl : 1 ≤ l ∧ l ≤ 3) : ∀ (st : List Nat) (s : q_P) (σ : qx_S), wS st → mP σ Z T t s → mKs σ st → s.2.1 + st.length ≤ 400 → ql lF σ0 σ →
    qx_K G qc_T 1 RX12 YX12_settles 0 [.ref 197, .int (nI l)] [] σ (fun r s' => r = none ∧ ql lF σ0 s' ∧ mP s' Z T t (q_stl l st s).2 ∧ mKs s' (q_stl l st s).1 ∧ qx_mi s' 197 8 = qx_mi σ 197 8) := by
  intro st
  induction st with
  | nil =>
    intro s σ hw h k hb hf
    refine qy_wp_ok (c := CX12_settles) (cuts := [0]) vX12_settles wX12_settles 2000 0 _ _ _ ?_
    refine And.intro rfl (Exists.intro 16 (Exists.intro (nI 0) (And.intro rfl (And.intro k.1 ?_))))
    refine And.intro (fun h4 => ?_) (fun h4 => ?_)
    · skip
      exact ⟨rfl, hf, h, k, rfl⟩
    · skip
      exact absurd (by decide) h4
  | cons x st ih =>
    intro s σ hw h k hb hf
    have hb : s.2.1 + (st.length + 1) ≤ 400 := hb
    obtain ⟨w1, w2, w3, w4⟩ := hw
    have hx : x < 128 := by omega
    have k16 : qx_mi σ 197 16 = nI (st.length + 1) := k.1
    have k13 := k.2.1
    have kx := k.2.2.1
    have hsx : q_sth x ≤ 3 := by
      unfold q_sth
      split
      · omega
      · split
        · omega
        · split <;> omega
    have ec : q_stl l (x :: st) s = if l ≤ q_sth x then q_stl l st (q_em (100010 + x) s) else (x :: st, s) := rfl
    by_cases hle : l ≤ q_sth x
    · rw [if_pos hle] at ec
      rw [ec]
      have x3 : x = 11 ∨ x = 12 ∨ x = 13 := by
        rcases w2 with e | e | e | e
        · omega
        · omega
        · omega
        · rw [e] at hle
          have : q_sth 91 = 0 := by decide
          omega
      have hcg : x + 16 * 0 = q_sg (100010 + x) := by
        unfold q_sg
        rw [if_neg (by omega), if_neg (by omega)]
        omega
      by_cases x11 : x = 11
      · subst x11
        rw [q_dp_n] at k13
        have hdl := q_dp_le st
        refine qy_wp_ok (c := CX12_settles) (cuts := [0]) vX12_settles wX12_settles 2000 0 _ _ _ ?_
        refine And.intro rfl (Exists.intro 16 (Exists.intro (nI (st.length + 1)) (And.intro rfl (And.intro k16 ?_))))
        refine And.intro (fun h4 => ?_) (fun h4 => ?_)
        · skip
          have h4 := nI_leT (a := st.length + 1) (b := 0) (by omega) (by decide) h4
          exact absurd h4 (by omega)
        · skip
          have h4 := nI_leF (a := st.length + 1) (b := 0) (by omega) (by decide) h4
          refine And.intro rfl (Exists.intro 204 (And.intro rfl ?_))
          refine And.intro rfl (Exists.intro 16 (Exists.intro (nI (st.length + 1)) (And.intro rfl (And.intro k16 ?_))))
          refine Exists.intro (nI 1) (And.intro rfl ?_)
          refine Exists.intro (nI st.length) (And.intro (nI_sub (by omega)) ?_)
          refine Exists.intro (st.length) (Exists.intro (nI 11) (And.intro rfl (And.intro ⟨400, rfl, by omega, by decide⟩ (And.intro kx ?_))))
          refine Exists.intro _ (And.intro (by decide) (qx_M_mono (m_strength (by decide)) ?_))
          rintro _ _ ⟨rfl, rfl⟩
          refine And.intro (fun h22 => ?_) (fun h22 => ?_)
          · skip
            have h22 := nI_ltT (a := q_sth 11) (b := l) (by omega) (by omega) h22
            exact absurd h22 (by omega)
          · skip
            have h22 := nI_ltF (a := q_sth 11) (b := l) (by omega) (by omega) h22
            refine And.intro rfl (Exists.intro 16 (Exists.intro (nI (st.length + 1)) (And.intro rfl (And.intro k16 ?_))))
            refine Exists.intro (nI 1) (And.intro rfl ?_)
            refine Exists.intro (nI st.length) (And.intro (nI_sub (by omega)) ?_)
            obtain ⟨σ1, eσ1⟩ : ∃ zs, zs = (qx_wi σ 197 16 (nI st.length)) := ⟨_, rfl⟩
            have fσ1 := qn_wif eσ1
            refine And.intro rfl (Exists.intro 16 (Exists.intro σ1 (And.intro rfl (And.intro eσ1.symm ?_))))
            have hf_σ1 : ql lF σ0 σ1 := hf.tr (fσ1.mn (by decide))
            have h_σ1 : mP σ1 Z T t s := h.fr fσ1 (by decide)
            refine And.intro rfl (Exists.intro 204 (And.intro rfl ?_))
            refine And.intro rfl (Exists.intro 16 (Exists.intro (nI st.length) (And.intro rfl (And.intro (qn_eq eσ1) ?_))))
            refine Exists.intro (st.length) (Exists.intro (nI 11) (And.intro rfl (And.intro ⟨400, rfl, by omega, by decide⟩ (And.intro ((fσ1.i _ _ rfl).trans (kx)) ?_))))
            refine Exists.intro (nI 0) (And.intro rfl ?_)
            refine And.intro rfl (Exists.intro _ (And.intro (by decide) (qx_M_mono (m_puts h_σ1 (show s.2.1 < 400 by omega) (100010 + 11) hcg) ?_)))
            rintro _ σ2 ⟨rfl, fσ2, bσ2⟩
            have hf_σ2 : ql lF σ0 σ2 := hf_σ1.tr (fσ2.mn (by decide))
            refine And.intro rfl (Exists.intro 204 (And.intro rfl ?_))
            refine And.intro rfl (Exists.intro 16 (Exists.intro (nI st.length) (And.intro rfl (And.intro ((fσ2.i _ _ rfl).trans (qn_eq eσ1)) ?_))))
            refine Exists.intro (st.length) (Exists.intro (nI 11) (And.intro rfl (And.intro ⟨400, rfl, by omega, by decide⟩ (And.intro ((fσ2.i _ _ rfl).trans ((fσ1.i _ _ rfl).trans (kx))) ?_))))
            refine Exists.intro (nI 11) (And.intro rfl ?_)
            refine And.intro (fun h60 => ?_) (fun h60 => ?_)
            · skip
              exact absurd (by decide) h60
            · skip
              refine And.intro rfl (Exists.intro 13 (Exists.intro (nI (q_dp st + 1)) (And.intro rfl (And.intro ((fσ2.i _ _ rfl).trans ((qn_ne eσ1 (Or.inr (by decide))).trans (k13))) ?_))))
              refine Exists.intro (nI 1) (And.intro rfl ?_)
              refine Exists.intro (nI (q_dp st)) (And.intro (nI_sub (by omega)) ?_)
              obtain ⟨σ3, eσ3⟩ : ∃ zs, zs = (qx_wi σ2 197 13 (nI (q_dp st))) := ⟨_, rfl⟩
              have fσ3 := qn_wif eσ3
              refine And.intro rfl (Exists.intro 13 (Exists.intro σ3 (And.intro rfl (And.intro eσ3.symm ?_))))
              have hf_σ3 : ql lF σ0 σ3 := hf_σ2.tr (fσ3.mn (by decide))
              refine qx_K_mono (ih _ _ w1 (bσ2.fr fσ3 (by decide)) ⟨(fσ3.i _ _ rfl).trans ((fσ2.i _ _ rfl).trans (qn_eq eσ1)), qn_eq eσ3, mKs1.fr fσ3 (fun _ => rfl) st (mKs1.fr fσ2 (fun _ => rfl) st (mKs1.fr fσ1 (fun _ => rfl) st k.2.2.2))⟩ (show s.2.1 + 1 + st.length ≤ 400 by omega) hf_σ3) ?_
              rintro _ s' ⟨rfl, y1, y2, y3, y4⟩
              exact ⟨rfl, y1, y2, y3, y4.trans ((fσ3.i _ _ rfl).trans ((fσ2.i _ _ rfl).trans (fσ1.i _ _ rfl)))⟩
      · have edp : q_dp (x :: st) = q_dp st := by
          show (if x = 11 ∨ x = 91 then 1 else 0) + q_dp st = _
          rw [if_neg (by omega)]
          omega
        rw [edp] at k13
        refine qy_wp_ok (c := CX12_settles) (cuts := [0, 63]) vX12_settles wX12_settles 2000 0 _ _ _ ?_
        refine And.intro rfl (Exists.intro 16 (Exists.intro (nI (st.length + 1)) (And.intro rfl (And.intro k16 ?_))))
        refine And.intro (fun h4 => ?_) (fun h4 => ?_)
        · skip
          have h4 := nI_leT (a := st.length + 1) (b := 0) (by omega) (by decide) h4
          exact absurd h4 (by omega)
        · skip
          have h4 := nI_leF (a := st.length + 1) (b := 0) (by omega) (by decide) h4
          refine And.intro rfl (Exists.intro 204 (And.intro rfl ?_))
          refine And.intro rfl (Exists.intro 16 (Exists.intro (nI (st.length + 1)) (And.intro rfl (And.intro k16 ?_))))
          refine Exists.intro (nI 1) (And.intro rfl ?_)
          refine Exists.intro (nI st.length) (And.intro (nI_sub (by omega)) ?_)
          refine Exists.intro (st.length) (Exists.intro (nI x) (And.intro rfl (And.intro ⟨400, rfl, by omega, by decide⟩ (And.intro kx ?_))))
          refine Exists.intro _ (And.intro (by decide) (qx_M_mono (m_strength hx) ?_))
          rintro _ _ ⟨rfl, rfl⟩
          refine And.intro (fun h22 => ?_) (fun h22 => ?_)
          · skip
            have h22 := nI_ltT (a := q_sth x) (b := l) (by omega) (by omega) h22
            exact absurd h22 (by omega)
          · skip
            have h22 := nI_ltF (a := q_sth x) (b := l) (by omega) (by omega) h22
            refine And.intro rfl (Exists.intro 16 (Exists.intro (nI (st.length + 1)) (And.intro rfl (And.intro k16 ?_))))
            refine Exists.intro (nI 1) (And.intro rfl ?_)
            refine Exists.intro (nI st.length) (And.intro (nI_sub (by omega)) ?_)
            obtain ⟨σ1, eσ1⟩ : ∃ zs, zs = (qx_wi σ 197 16 (nI st.length)) := ⟨_, rfl⟩
            have fσ1 := qn_wif eσ1
            refine And.intro rfl (Exists.intro 16 (Exists.intro σ1 (And.intro rfl (And.intro eσ1.symm ?_))))
            have hf_σ1 : ql lF σ0 σ1 := hf.tr (fσ1.mn (by decide))
            have h_σ1 : mP σ1 Z T t s := h.fr fσ1 (by decide)
            refine And.intro rfl (Exists.intro 204 (And.intro rfl ?_))
            refine And.intro rfl (Exists.intro 16 (Exists.intro (nI st.length) (And.intro rfl (And.intro (qn_eq eσ1) ?_))))
            refine Exists.intro (st.length) (Exists.intro (nI x) (And.intro rfl (And.intro ⟨400, rfl, by omega, by decide⟩ (And.intro ((fσ1.i _ _ rfl).trans (kx)) ?_))))
            refine Exists.intro (nI 0) (And.intro rfl ?_)
            refine And.intro rfl (Exists.intro _ (And.intro (by decide) (qx_M_mono (m_puts h_σ1 (show s.2.1 < 400 by omega) (100010 + x) hcg) ?_)))
            rintro _ σ2 ⟨rfl, fσ2, bσ2⟩
            have hf_σ2 : ql lF σ0 σ2 := hf_σ1.tr (fσ2.mn (by decide))
            refine And.intro rfl (Exists.intro 204 (And.intro rfl ?_))
            refine And.intro rfl (Exists.intro 16 (Exists.intro (nI st.length) (And.intro rfl (And.intro ((fσ2.i _ _ rfl).trans (qn_eq eσ1)) ?_))))
            refine Exists.intro (st.length) (Exists.intro (nI x) (And.intro rfl (And.intro ⟨400, rfl, by omega, by decide⟩ (And.intro ((fσ2.i _ _ rfl).trans ((fσ1.i _ _ rfl).trans (kx))) ?_))))
            refine Exists.intro (nI 11) (And.intro rfl ?_)
            refine And.intro (fun h60 => ?_) (fun h60 => ?_)
            · skip
              have h60 := nI_neT (a := x) (b := 11) (by omega) (by decide) h60
              refine qx_K_mono (ih _ _ w1 bσ2 ⟨(fσ2.i _ _ rfl).trans (qn_eq eσ1), (fσ2.i _ _ rfl).trans ((fσ1.i _ _ rfl).trans k13), mKs1.fr fσ2 (fun _ => rfl) st (mKs1.fr fσ1 (fun _ => rfl) st k.2.2.2)⟩ (show s.2.1 + 1 + st.length ≤ 400 by omega) hf_σ2) ?_
              rintro _ s' ⟨rfl, y1, y2, y3, y4⟩
              exact ⟨rfl, y1, y2, y3, y4.trans ((fσ2.i _ _ rfl).trans (fσ1.i _ _ rfl))⟩
            · skip
              have h60 := nI_eqT (a := x) (b := 11) (by omega) (by decide) h60
              exact absurd h60 x11
    · rw [if_neg hle] at ec
      rw [ec]
      refine qy_wp_ok (c := CX12_settles) (cuts := [0, 25]) vX12_settles wX12_settles 2000 0 _ _ _ ?_
      refine And.intro rfl (Exists.intro 16 (Exists.intro (nI (st.length + 1)) (And.intro rfl (And.intro k16 ?_))))
      refine And.intro (fun h4 => ?_) (fun h4 => ?_)
      · skip
        have h4 := nI_leT (a := st.length + 1) (b := 0) (by omega) (by decide) h4
        exact absurd h4 (by omega)
      · skip
        have h4 := nI_leF (a := st.length + 1) (b := 0) (by omega) (by decide) h4
        refine And.intro rfl (Exists.intro 204 (And.intro rfl ?_))
        refine And.intro rfl (Exists.intro 16 (Exists.intro (nI (st.length + 1)) (And.intro rfl (And.intro k16 ?_))))
        refine Exists.intro (nI 1) (And.intro rfl ?_)
        refine Exists.intro (nI st.length) (And.intro (nI_sub (by omega)) ?_)
        refine Exists.intro (st.length) (Exists.intro (nI x) (And.intro rfl (And.intro ⟨400, rfl, by omega, by decide⟩ (And.intro kx ?_))))
        refine Exists.intro _ (And.intro (by decide) (qx_M_mono (m_strength hx) ?_))
        rintro _ _ ⟨rfl, rfl⟩
        refine And.intro (fun h22 => ?_) (fun h22 => ?_)
        · skip
          have h22 := nI_ltT (a := q_sth x) (b := l) (by omega) (by omega) h22
          exact ⟨rfl, hf, h, k, rfl⟩
        · skip
          have h22 := nI_ltF (a := q_sth x) (b := l) (by omega) (by omega) h22
          exact absurd h22 (by omega)
theorem m_settles {G : qx_G} {σ : qx_S} {Z : Nat → Int32} {T : q_T} {t l : Nat} {st : List Nat} {s : q_P} (hl : 1 ≤ l ∧ l ≤ 3) (hw : wS st) (h : mP σ Z T t s) (k : mKs σ st) (hb : s.2.1 + st.length ≤ s.1) : qx_M G qc_T 1 YX12_settles [.ref 197, .int (nI l)] σ (fun r s' => r = none ∧ ql lF σ s' ∧ mP s' Z T t (q_stl l st s).2 ∧ mKs s' (q_stl l st s).1 ∧ qx_mi s' 197 8 = qx_mi σ 197 8) := by
  obtain ⟨-, hle, h400, -⟩ := h.sk
  refine qx_M_in rfl (Nat.le_of_ble_eq_true rfl) ?_
  exact l_settles hl st s σ hw h k (by omega) qf.rf
theorem l_isInside {G : qx_G} {σ : qx_S} : ∀ (m i : Nat) (st : List Nat), i + m = st.length → st.length ≤ 400 → mKs σ st → wS st → (∀ u v, st = u ++ v → v.length ≤ i → 91 ∉ v) →
    qx_K G qc_T 0 RX12 YX12_isInside 2 [.ref 197, .int (nI i)] [] σ (qr (bI (decide (91 ∈ st))) σ) := by
  intro m
  induction m with
  | zero =>
    intro i st hi h4 k hw hn
    have e : decide (91 ∈ st) = false := decide_eq_false (hn [] st rfl (by omega))
    rw [e]
    have k16 := k.1
    refine qy_wp_ok (c := CX12_isInside) (cuts := [2]) vX12_isInside wX12_isInside 2000 2 _ _ _ ?_
    refine And.intro rfl (Exists.intro 16 (Exists.intro (nI st.length) (And.intro rfl (And.intro k16 ?_))))
    refine And.intro (fun h7 => ?_) (fun h7 => ?_)
    · skip
      have h7 := nI_leT (a := st.length) (b := i) (by omega) (by omega) h7
      refine Exists.intro (nI 0) (And.intro rfl ?_)
      refine And.intro (Or.inl rfl) ?_
      exact ⟨rfl, rfl⟩
    · skip
      have h7 := nI_leF (a := st.length) (b := i) (by omega) (by omega) h7
      exact absurd h7 (by omega)
  | succ m ih =>
    intro i st hi h4 k hw hn
    have k16 := k.1
    obtain ⟨x, u, v, e, ev, hx⟩ : ∃ x u v, st = u ++ x :: v ∧ v.length = i ∧ qx_mi σ 204 i = nI x := by
      have : ∀ (st : List Nat), i < st.length → mKs1 σ st → ∃ x u v, st = u ++ x :: v ∧ v.length = i ∧ qx_mi σ 204 i = nI x := by
        intro st
        induction st with
        | nil => intro h; exact absurd h (by simp)
        | cons y st ih2 =>
          intro h k
          have h : i < st.length + 1 := h
          by_cases z : i = st.length
          · exact ⟨y, [], st, rfl, z.symm, by rw [z]; exact k.1⟩
          · obtain ⟨x, u, v, e, ev, hx⟩ := ih2 (by omega) k.2
            exact ⟨x, y :: u, v, by rw [e]; rfl, ev, hx⟩
      exact this st (by omega) k.2.2
    have hxs : x < 128 := by
      have : ∀ (u : List Nat), wS (u ++ x :: v) → x < 128 := by
        intro u
        induction u with
        | nil => intro w; have w2 : x = 11 ∨ x = 12 ∨ x = 13 ∨ x = 91 := w.2.1; omega
        | cons y u ih2 => intro w; exact ih2 w.1
      exact this u (e ▸ hw)
    have nx := ih (i + 1) st (by omega) h4 k hw
    refine qy_wp_ok (c := CX12_isInside) (cuts := [2]) vX12_isInside wX12_isInside 2000 2 _ _ _ ?_
    refine And.intro rfl (Exists.intro 16 (Exists.intro (nI st.length) (And.intro rfl (And.intro k16 ?_))))
    refine And.intro (fun h7 => ?_) (fun h7 => ?_)
    · skip
      have h7 := nI_leT (a := st.length) (b := i) (by omega) (by omega) h7
      exact absurd h7 (by omega)
    · skip
      have h7 := nI_leF (a := st.length) (b := i) (by omega) (by omega) h7
      refine And.intro rfl (Exists.intro 204 (And.intro rfl ?_))
      refine Exists.intro (i) (Exists.intro (nI x) (And.intro rfl (And.intro ⟨400, rfl, by omega, by decide⟩ (And.intro hx ?_))))
      refine Exists.intro (nI 91) (And.intro rfl ?_)
      refine And.intro (fun h18 => ?_) (fun h18 => ?_)
      · skip
        have h18 := nI_neT (a := x) (b := 91) (by omega) (by decide) h18
        refine Exists.intro (nI (i + 1)) (And.intro (nI_add _ _) ?_)
        refine nx (fun u' v' e' l' z => ?_)
        rcases Nat.lt_or_ge v'.length (i + 1) with y | y
        · exact hn u' v' e' (by omega) z
        · have y : v'.length = (x :: v).length := by
            show v'.length = v.length + 1
            omega
          have e3 : v' = x :: v := (List.append_inj' (e'.symm.trans e) y).2
          rw [e3] at z
          rcases List.mem_cons.mp z with w | w
          · exact h18 w.symm
          · exact hn (u ++ [x]) v (by rw [e]; simp) (by omega) w
      · skip
        have h18 := nI_eqT (a := x) (b := 91) (by omega) (by decide) h18
        refine Exists.intro (nI 1) (And.intro rfl ?_)
        refine And.intro (Or.inr rfl) ?_
        have e2 : decide (91 ∈ st) = true := decide_eq_true (by rw [e, h18]; simp)
        rw [e2]
        exact ⟨rfl, rfl⟩
theorem m_isInside {G : qx_G} {σ : qx_S} {st : List Nat} (h4 : st.length ≤ 400) (k : mKs σ st) (hw : wS st) : qx_M G qc_T 0 YX12_isInside [.ref 197] σ (qr (bI (decide (91 ∈ st))) σ) := by
  refine qx_M_in rfl (Nat.le_of_ble_eq_true rfl) ?_
  refine qy_wp_ok (c := CX12_isInside) (cuts := [2]) vX12_isInside wX12_isInside 2000 0 _ _ _ ?_
  refine Exists.intro (nI 0) (And.intro rfl ?_)
  refine l_isInside st.length 0 st (by omega) h4 k hw (fun u v e l z => ?_)
  cases v with
  | nil => exact absurd z (by simp)
  | cons a b => exact absurd l (by simp)

