/-! THE CLASS: Country.readFrom -/
abbrev kE : List (Nat × Option Nat) := [(9, none), (10, none), (11, none), (12, none), (13, none), (4, some 5), (6, none), (7, none), (8, none), (4, some 6), (4, some 7)]
theorem dR.ct {σ s' : qx_S} {D : qS} (h : dR σ 9 D) (f : ql kCt σ s') : dR s' 9 D := by
  obtain ⟨a1, a2, a3, a4, a5, a6, a7, bn, a8, a9, a10⟩ := h
  exact ⟨(f.i _ _ rfl).trans a1, (f.i _ _ rfl).trans a2, (f.i _ _ rfl).trans a3, fun p hp => ⟨(f.i 10 _ rfl).trans (a4 p hp).1, (f.i 11 _ rfl).trans (a4 p hp).2⟩, fun p hp q hq => (f.i 12 _ rfl).trans (a5 p hp q hq), fun k h1 h2 => (f.i 12 _ rfl).trans (a6 k h1 h2), fun q hq => (f.i 13 _ rfl).trans (a7 q hq), bn, (f.i _ _ rfl).trans a8, a9, a10⟩
/-- what the country's text answers -/
def rF (σ s' : qx_S) (x : Except Nat qS) (r : Option Value) : Prop := ql kE σ s' ∧ (match x with
  | .error f => r = some (.int (bI false)) ∧ qx_mi s' 4 7 = nI f
  | .ok D => r = some (.int (bI true)) ∧ dR s' 9 D)
theorem c_clauseC_er {G : qx_G} {σ : qx_S} {T : q_T} {p f : Nat} {D : qS} (ex : q_lnb T p D = .error f) (h : cT σ T (q_nx T p)) (hd : dR σ 9 D) (g : gD D) (hc : q_cbg (q_kd T p) = true) (m3 : q_kd T p = 300 → s_n D 1 < 10) (m4 : q_kd T p = 314 → s_n D 2 < 8) : qx_M G qc_T 3 YX1_readClause [.ref 9, .ref 4, .int (nI (q_kd T p))] σ (fun r s' => r = some (.int (bI false)) ∧ ql kD σ s' ∧ qx_mi s' 4 7 = nI f) := by
  refine qx_M_mono (c_clauseC h hd g hc m3 m4) (fun r s' z => ?_)
  obtain ⟨-, -, z1, z2⟩ := z
  rw [ex] at z2
  exact ⟨z2.1, z1, z2.2⟩
theorem c_clauseC_ok {G : qx_G} {σ : qx_S} {T : q_T} {p : Nat} {D : qS} {y : Nat × qS} (ex : q_lnb T p D = .ok y) (h : cT σ T (q_nx T p)) (hd : dR σ 9 D) (g : gD D) (hc : q_cbg (q_kd T p) = true) (m3 : q_kd T p = 300 → s_n D 1 < 10) (m4 : q_kd T p = 314 → s_n D 2 < 8) : qx_M G qc_T 3 YX1_readClause [.ref 9, .ref 4, .int (nI (q_kd T p))] σ (fun r s' => r = some (.int (bI true)) ∧ ql kD σ s' ∧ cT s' T y.1 ∧ dR s' 9 y.2) := by
  refine qx_M_mono (c_clauseC h hd g hc m3 m4) (fun r s' z => ?_)
  obtain ⟨-, -, z1, z2⟩ := z
  rw [ex] at z2
  exact ⟨z2.1, z1, z2.2.1, z2.2.2⟩
theorem l_cf {G : qx_G} {σ0 : qx_S} {T : q_T} : ∀ (m told p : Nat) (D : qS) (σ : qx_S), m + told = 49 → cT σ T p → dR σ 9 D → gC D → (told = 0 ↔ s_n D 0 = 0) → told ≤ 48 → ql kE σ0 σ →
    qx_K G qc_T 11 RX1 YX1_readFrom 10 [.ref 9, .ref 4, .int (nI told), .retAddr 0] [] σ (fun r s' => rF σ0 s' (q_coc T m p D told) r) := by
  intro m
  induction m with
  | zero =>
    intro told p D σ hm _ _ _ _ hn
    omega
  | succ m ih =>
    intro told p D σ hm h hd g hi hn hf
    obtain ⟨hle, h400, hb⟩ := h.le
    have hkl := q_kd_le hb p
    have ci := c_isClause (G := G) (σ := σ) (k := q_kd T p) hkl
    cases hc : q_cbg (q_kd T p) with
    | false =>
      have e1 : q_k1 T p D told = .error (1 + 8 * p + 0) := by unfold q_k1; rw [hc]; rfl
      rw [q_coc_er e1]
      rw [hc] at ci
      refine qy_wp_ok (c := CX1_readFrom) (cuts := []) vX1_readFrom wX1_readFrom 2000 10 _ _ _ ?_
      refine Exists.intro (nI 48) (And.intro rfl ?_)
      refine And.intro (fun h13 => ?_) (fun h13 => ?_)
      · skip
        have h13 := nI_ltT (a := 48) (b := told) (by decide) (by omega) h13
        exact absurd h13 (by omega)
      · skip
        have h13 := nI_ltF (a := 48) (b := told) (by decide) (by omega) h13
        refine And.intro rfl (Exists.intro _ (And.intro (by decide) (qx_M_mono (c_kind h) ?_)))
        rintro _ _ ⟨rfl, rfl⟩
        refine Exists.intro _ (And.intro (by decide) (qx_M_mono (ci) ?_))
        rintro _ _ ⟨rfl, rfl⟩
        refine And.intro (fun h25 => ?_) (fun h25 => ?_)
        · skip
          have h25 := bI_t h25
          exact absurd (h25.symm.trans (rfl)) (by decide)
        · skip
          have h25 := bI_f h25
          refine Exists.intro (nI 0) (And.intro rfl ?_)
          refine And.intro rfl (Exists.intro _ (And.intro (by decide) (qx_M_mono (c_fail h) ?_)))
          rintro _ ρ ⟨rfl, fρ, gρ⟩
          refine And.intro (bI_01 _) ?_
          exact ⟨hf.tr (fρ.mn (by decide)), rfl, gρ⟩
    | true =>
      have c1 := of_decide_eq_true hc
      have k9 : q_kd T p ≠ 999 := by omega
      have mk := c_kind_n (G := G) h k9
      rw [hc, kI_lt (show q_kd T p < 999 by omega)] at ci
      have mm := c_mayStand (G := G) (k := q_kd T p) (ln := told) hd g.1 (by omega) hn
      cases hs : q_ms D (q_kd T p) told with
      | false =>
        rw [q_coc_er (q_k1_n hn hc hs g.1 hi)]
        rw [hs] at mm
        refine qy_wp_ok (c := CX1_readFrom) (cuts := []) vX1_readFrom wX1_readFrom 2000 10 _ _ _ ?_
        refine Exists.intro (nI 48) (And.intro rfl ?_)
        refine And.intro (fun h13 => ?_) (fun h13 => ?_)
        · skip
          have h13 := nI_ltT (a := 48) (b := told) (by decide) (by omega) h13
          exact absurd h13 (by omega)
        · skip
          have h13 := nI_ltF (a := 48) (b := told) (by decide) (by omega) h13
          refine And.intro rfl (Exists.intro _ (And.intro (by decide) (qx_M_mono (mk) ?_)))
          rintro _ _ ⟨rfl, rfl⟩
          refine Exists.intro _ (And.intro (by decide) (qx_M_mono (ci) ?_))
          rintro _ _ ⟨rfl, rfl⟩
          refine And.intro (fun h25 => ?_) (fun h25 => ?_)
          · skip
            have h25 := bI_t h25
            refine And.intro rfl (Exists.intro _ (And.intro (by decide) (qx_M_mono (mm) ?_)))
            rintro _ _ ⟨rfl, rfl⟩
            refine And.intro (fun h40 => ?_) (fun h40 => ?_)
            · skip
              have h40 := bI_t h40
              exact absurd (h40.symm.trans (rfl)) (by decide)
            · skip
              have h40 := bI_f h40
              refine Exists.intro (nI 4) (And.intro rfl ?_)
              refine And.intro rfl (Exists.intro _ (And.intro (by decide) (qx_M_mono (c_fail h) ?_)))
              rintro _ ρ ⟨rfl, fρ, gρ⟩
              refine And.intro (bI_01 _) ?_
              exact ⟨hf.tr (fρ.mn (by decide)), rfl, gρ⟩
          · skip
            have h25 := bI_f h25
            exact absurd (h25.symm.trans (rfl)) (by decide)
      | true =>
        have e1 := q_k1_y hc hs hi
        obtain ⟨m1, -, m3, m4⟩ := of_decide_eq_true hs
        rw [hs] at mm
        cases ex : q_lnb T p D with
        | error f =>
          rw [q_coc_er (e1.trans ex)]
          refine qy_wp_ok (c := CX1_readFrom) (cuts := []) vX1_readFrom wX1_readFrom 2000 10 _ _ _ ?_
          refine Exists.intro (nI 48) (And.intro rfl ?_)
          refine And.intro (fun h13 => ?_) (fun h13 => ?_)
          · skip
            have h13 := nI_ltT (a := 48) (b := told) (by decide) (by omega) h13
            exact absurd h13 (by omega)
          · skip
            have h13 := nI_ltF (a := 48) (b := told) (by decide) (by omega) h13
            refine And.intro rfl (Exists.intro _ (And.intro (by decide) (qx_M_mono (mk) ?_)))
            rintro _ _ ⟨rfl, rfl⟩
            refine Exists.intro _ (And.intro (by decide) (qx_M_mono (ci) ?_))
            rintro _ _ ⟨rfl, rfl⟩
            refine And.intro (fun h25 => ?_) (fun h25 => ?_)
            · skip
              have h25 := bI_t h25
              refine And.intro rfl (Exists.intro _ (And.intro (by decide) (qx_M_mono (mm) ?_)))
              rintro _ _ ⟨rfl, rfl⟩
              refine And.intro (fun h40 => ?_) (fun h40 => ?_)
              · skip
                have h40 := bI_t h40
                refine And.intro rfl (Exists.intro _ (And.intro (by decide) (qx_M_mono (c_pass h k9) ?_)))
                rintro _ ρ ⟨rfl, fρ, cρ⟩
                refine And.intro rfl (Exists.intro _ (And.intro (by decide) (qx_M_mono (c_clauseC_er ex cρ (hd.fr fρ (by decide)) g.1 hc m3 m4) ?_)))
                rintro _ τ ⟨rfl, fτ, gτ⟩
                refine And.intro (fun h59 => ?_) (fun h59 => ?_)
                · skip
                  have h59 := bI_t h59
                  exact absurd (h59.symm.trans (rfl)) (by decide)
                · skip
                  have h59 := bI_f h59
                  refine Exists.intro (nI 0) (And.intro rfl ?_)
                  refine And.intro (Or.inl rfl) ?_
                  exact ⟨hf.tr ((fρ.mn (by decide)).tr (fτ.mn (by decide))), rfl, gτ⟩
              · skip
                have h40 := bI_f h40
                exact absurd (h40.symm.trans (rfl)) (by decide)
            · skip
              have h25 := bI_f h25
              exact absurd (h25.symm.trans (rfl)) (by decide)
        | ok y =>
          obtain ⟨gy, -, y0, -⟩ := q_k1_g g (e1.trans ex)
          rw [q_coc_ok (e1.trans ex)]
          have key : ∀ μ, cT μ T y.1 → dR μ 9 y.2 → ql kE σ0 μ → qx_K G qc_T 11 RX1 YX1_readFrom 64 [.ref 9, .ref 4, .int (nI told), .retAddr 0] [] μ (fun r s' => rF σ0 s' (q_crr T m y.1 y.2 (told + 1)) r) := by
            intro μ h1 hd1 hf1
            unfold q_crr
            by_cases k59 : q_kd T y.1 = 59
            · rw [if_pos k59]
              have mk := c_kind_n (G := G) h1 (by omega)
              rw [k59] at mk
              refine qy_wp_ok (c := CX1_readFrom) (cuts := [10]) vX1_readFrom wX1_readFrom 2000 64 _ _ _ ?_
              refine And.intro rfl (Exists.intro _ (And.intro (by decide) (qx_M_mono (mk) ?_)))
              rintro _ _ ⟨rfl, rfl⟩
              refine Exists.intro ((-1)) (And.intro (by decide) ?_)
              refine And.intro (fun h69 => ?_) (fun h69 => ?_)
              · skip
                refine Exists.intro (nI 59) (And.intro rfl ?_)
                refine And.intro rfl (Exists.intro _ (And.intro (by decide) (qx_M_mono (c_take_t h1 k59 (by decide)) ?_)))
                rintro _ ρ ⟨rfl, fρ, cρ⟩
                refine And.intro (fun h80 => ?_) (fun h80 => ?_)
                · skip
                  have h80 := bI_t h80
                  refine Exists.intro (nI (told + 1)) (And.intro (nI_add _ _) ?_)
                  exact ih (told + 1) _ _ _ (by omega) cρ (hd1.fr fρ (by decide)) gy (by omega) (by omega) (hf1.tr (fρ.mn (by decide)))
                · skip
                  have h80 := bI_f h80
                  exact absurd (h80.symm.trans (rfl)) (by decide)
              · skip
                exact absurd h69 (by decide)
            · rw [if_neg k59]
              by_cases ke : q_kd T y.1 = 999
              · rw [if_pos ke]
                refine qy_wp_ok (c := CX1_readFrom) (cuts := []) vX1_readFrom wX1_readFrom 2000 64 _ _ _ ?_
                refine And.intro rfl (Exists.intro _ (And.intro (by decide) (qx_M_mono (c_kind_e h1 ke) ?_)))
                rintro _ _ ⟨rfl, rfl⟩
                refine Exists.intro ((-1)) (And.intro (by decide) ?_)
                refine And.intro (fun h69 => ?_) (fun h69 => ?_)
                · skip
                  exact absurd (by decide) h69
                · skip
                  refine Exists.intro (nI 1) (And.intro rfl ?_)
                  refine And.intro (Or.inr rfl) ?_
                  exact ⟨hf1, rfl, hd1⟩
              · rw [if_neg ke]
                have mk := c_kind_n (G := G) h1 ke
                have hkl1 := q_kd_le hb y.1
                have hne : ¬ nI (q_kd T y.1) = (-1 : Int32) := fun z => by
                  have h2 := congrArg Int32.toInt z
                  rw [nI_toInt (by omega)] at h2
                  exact absurd h2 (by rw [show (-1 : Int32).toInt = -1 from rfl]; omega)
                refine qy_wp_ok (c := CX1_readFrom) (cuts := []) vX1_readFrom wX1_readFrom 2000 64 _ _ _ ?_
                refine And.intro rfl (Exists.intro _ (And.intro (by decide) (qx_M_mono (mk) ?_)))
                rintro _ _ ⟨rfl, rfl⟩
                refine Exists.intro ((-1)) (And.intro (by decide) ?_)
                refine And.intro (fun h69 => ?_) (fun h69 => ?_)
                · skip
                  refine Exists.intro (nI 59) (And.intro rfl ?_)
                  refine And.intro rfl (Exists.intro _ (And.intro (by decide) (qx_M_mono (c_take_f h1 k59 (by decide)) ?_)))
                  rintro _ _ ⟨rfl, rfl⟩
                  refine And.intro (fun h80 => ?_) (fun h80 => ?_)
                  · skip
                    have h80 := bI_t h80
                    exact absurd (h80.symm.trans (rfl)) (by decide)
                  · skip
                    have h80 := bI_f h80
                    refine Exists.intro (nI 0) (And.intro rfl ?_)
                    refine And.intro rfl (Exists.intro _ (And.intro (by decide) (qx_M_mono (c_fail h1) ?_)))
                    rintro _ ρ ⟨rfl, fρ, gρ⟩
                    refine And.intro (bI_01 _) ?_
                    exact ⟨hf1.tr (fρ.mn (by decide)), rfl, gρ⟩
                · skip
                  exact absurd h69 hne
          refine qy_wp_ok (c := CX1_readFrom) (cuts := [64]) vX1_readFrom wX1_readFrom 2000 10 _ _ _ ?_
          refine Exists.intro (nI 48) (And.intro rfl ?_)
          refine And.intro (fun h13 => ?_) (fun h13 => ?_)
          · skip
            have h13 := nI_ltT (a := 48) (b := told) (by decide) (by omega) h13
            exact absurd h13 (by omega)
          · skip
            have h13 := nI_ltF (a := 48) (b := told) (by decide) (by omega) h13
            refine And.intro rfl (Exists.intro _ (And.intro (by decide) (qx_M_mono (mk) ?_)))
            rintro _ _ ⟨rfl, rfl⟩
            refine Exists.intro _ (And.intro (by decide) (qx_M_mono (ci) ?_))
            rintro _ _ ⟨rfl, rfl⟩
            refine And.intro (fun h25 => ?_) (fun h25 => ?_)
            · skip
              have h25 := bI_t h25
              refine And.intro rfl (Exists.intro _ (And.intro (by decide) (qx_M_mono (mm) ?_)))
              rintro _ _ ⟨rfl, rfl⟩
              refine And.intro (fun h40 => ?_) (fun h40 => ?_)
              · skip
                have h40 := bI_t h40
                refine And.intro rfl (Exists.intro _ (And.intro (by decide) (qx_M_mono (c_pass h k9) ?_)))
                rintro _ ρ ⟨rfl, fρ, cρ⟩
                refine And.intro rfl (Exists.intro _ (And.intro (by decide) (qx_M_mono (c_clauseC_ok ex cρ (hd.fr fρ (by decide)) g.1 hc m3 m4) ?_)))
                rintro _ τ ⟨rfl, fτ, cτ, dτ⟩
                refine And.intro (fun h59 => ?_) (fun h59 => ?_)
                · skip
                  have h59 := bI_t h59
                  refine qx_K_le (ls := [.ref 9, .ref 4, .int (nI told), .retAddr 0]) ⟨Or.inr rfl, Or.inr rfl, Or.inr rfl, Or.inl rfl, trivial⟩ ?_
                  exact key _ cτ dτ (hf.tr ((fρ.mn (by decide)).tr (fτ.mn (by decide))))
                · skip
                  have h59 := bI_f h59
                  exact absurd (h59.symm.trans (rfl)) (by decide)
              · skip
                have h40 := bI_f h40
                exact absurd (h40.symm.trans (rfl)) (by decide)
            · skip
              have h25 := bI_f h25
              exact absurd (h25.symm.trans (rfl)) (by decide)
theorem c_readFrom {G : qx_G} (hG : kStr G) {σ : qx_S} {T : q_T} (hT : tC σ T) (D : qS) : qx_M G qc_T 11 YX1_readFrom [.ref 9, .ref 4] σ (fun r s' => rF σ s' (q_cty T D) r) := by
  have key : ∀ ρ τ, ql [(9, none), (12, none), (13, none)] σ ρ → dR ρ 9 (q_z3 D) → rCut ρ τ T → qx_K G qc_T 11 RX1 YX1_readFrom 10 [.ref 9, .ref 4, .int (nI 0), .retAddr 0] [] τ (fun r s' => rF σ s' (q_cty T D) r) := by
    intro ρ τ f1 hd hc
    obtain ⟨n, n0, c1, c2, c3, c4, c5, f4⟩ := hc
    have hT4 : tC τ T := (hT.fr f1 rfl (fun _ => rfl)).fr f4 rfl (fun _ => rfl)
    exact l_cf 49 0 _ _ τ rfl ⟨hT4, n, 0, n0, c1, c2, c3, c4, rfl⟩ (hd.ct f4) (q_z3_g D) ⟨fun _ => sn_z3 D 0 (by decide), fun _ => rfl⟩ (by decide) ((f1.mn (by decide)).tr (f4.mn (by decide)))
  refine qx_M_in rfl (Nat.le_of_ble_eq_true rfl) ?_
  refine qy_wp_ok (c := CX1_readFrom) (cuts := [10]) vX1_readFrom wX1_readFrom 2000 0 _ _ _ ?_
  refine And.intro rfl (Exists.intro _ (And.intro (by decide) (qx_M_mono (c_clear D) ?_)))
  rintro _ ρ ⟨rfl, fρ, dρ⟩
  refine And.intro rfl (Exists.intro _ (And.intro (by decide) (qx_M_mono (c_cut hG (hT.fr fρ rfl (fun _ => rfl))) ?_)))
  rintro _ τ ⟨rfl, cτ⟩
  refine Exists.intro (nI 0) (And.intro rfl ?_)
  exact key _ _ fρ dρ cτ

