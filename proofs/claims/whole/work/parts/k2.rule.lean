/-! THE CLASS: rule -/
def pD (a x j : Nat) : Bool := decide (a ≤ x ∧ x ≤ a + 5) || pL [(4, none), (6, none), (7, none), (8, none)] x j
theorem pD_of {a x j : Nat} (h : pD a x j = false) : (x < a ∨ a + 5 < x) ∧ x ≠ 4 ∧ x ≠ 6 ∧ x ≠ 7 ∧ x ≠ 8 := by
  unfold pD at h
  rw [Bool.or_eq_false_iff] at h
  have h1 := of_decide_eq_false h.1
  have h2 := h.2
  refine ⟨by omega, ?_, ?_, ?_, ?_⟩ <;> (rintro rfl; simp [pL] at h2)
theorem pD_no {a x j : Nat} (h : x < a ∨ a + 5 < x) (h4 : x ≠ 4) (h6 : x ≠ 6) (h7 : x ≠ 7) (h8 : x ≠ 8) : pD a x j = false := by
  unfold pD
  rw [decide_eq_false (by omega), Bool.false_or]
  exact pL_ne (by simp; omega)
theorem fC.d {a : Nat} {σ s : qx_S} (f : fC a σ s) : qf (pD a) σ s := f.mono (fun x j h => by
  have k := pD_of h
  unfold pC
  rw [decide_eq_false (by omega), Bool.false_or]
  exact pL_ne (by simp; omega))
theorem qf.d4 {a : Nat} {σ s : qx_S} {l : List (Nat × Option Nat)} (f : ql l σ s) (h : ∀ q, q ∈ l → q.1 = 4) : qf (pD a) σ s := f.mono (fun x j hx => by
  have k := pD_of hx
  exact pL_ne (fun q hq => Or.inl (fun z => k.2.1 (z.symm.trans (h q hq)))))
theorem c_rule_full {G : qx_G} {σ : qx_S} (h15 : qx_mi σ 3 15 = nI 6) : qx_M G qc_T 37 YX11_rule [.ref 3] σ (qr (-1) σ) := by
  refine qx_M_in rfl (Nat.le_of_ble_eq_true rfl) ?_
  refine qy_wp_ok (c := CX11_rule) (cuts := [11]) vX11_rule wX11_rule 2000 0 _ _ _ ?_
  refine And.intro rfl (Exists.intro 15 (Exists.intro (nI 6) (And.intro rfl (And.intro h15 ?_))))
  refine Exists.intro (nI 6) (And.intro rfl ?_)
  refine And.intro (fun h6 => ?_) (fun h6 => ?_)
  · skip
    exact absurd h6 (by decide)
  · skip
    refine Exists.intro ((-1)) (And.intro (by decide) ?_)
    exact ⟨rfl, rfl⟩
theorem c_rule_err {G : qx_G} (hG : kStr G) {σ : qx_S} {T : q_T} {f nr a : Nat} (hT : tC σ T) (h15 : qx_mi σ 3 15 = nI nr) (hr : nr < 6) (hd : qx_mr σ 3 14 = some a) (hs : shR σ a) (e : q_ru T = .error f) : qx_M G qc_T 37 YX11_rule [.ref 3] σ (fun r s => r = some (.int (-2 - nI f)) ∧ qf (pD a) σ s ∧ tC s (0, T.2)) := by
  have mr := c_readRule (G := G) hG hT hs
  rw [e] at mr
  refine qx_M_in rfl (Nat.le_of_ble_eq_true rfl) ?_
  refine qy_wp_ok (c := CX11_rule) (cuts := []) vX11_rule wX11_rule 2000 0 _ _ _ ?_
  refine And.intro rfl (Exists.intro 15 (Exists.intro (nI nr) (And.intro rfl (And.intro h15 ?_))))
  refine Exists.intro (nI 6) (And.intro rfl ?_)
  refine And.intro (fun h6 => ?_) (fun h6 => ?_)
  · skip
    have h6 := nI_ltT (a := nr) (b := 6) (by omega) (by decide) h6
    refine And.intro rfl (Exists.intro 14 (Exists.intro (some a) (And.intro rfl (And.intro hd ?_))))
    refine And.intro rfl (Exists.intro 4 (And.intro rfl ?_))
    refine And.intro ((congrArg Prod.fst (hs.2.1)).trans rfl) (Exists.intro _ (And.intro (by decide) (qx_M_mono (mr) ?_)))
    rintro _ ρ ⟨fρ, rfl, gρ⟩
    refine And.intro rfl (Exists.intro 4 (And.intro rfl ?_))
    refine Exists.intro (nI 0) (And.intro rfl ?_)
    obtain ⟨σ2, eσ2⟩ : ∃ zs, zs = (qx_wi ρ 4 4 (nI 0)) := ⟨_, rfl⟩
    have fσ2 := qn_wif eσ2
    refine And.intro rfl (Exists.intro 4 (Exists.intro σ2 (And.intro rfl (And.intro eσ2.symm ?_))))
    refine And.intro (fun h32 => ?_) (fun h32 => ?_)
    · skip
      have h32 := bI_t h32
      exact absurd (h32.symm.trans (rfl)) (by decide)
    · skip
      have h32 := bI_f h32
      refine Exists.intro ((-2)) (And.intro (by decide) ?_)
      refine And.intro rfl (Exists.intro 4 (And.intro rfl ?_))
      refine And.intro rfl (Exists.intro 7 (Exists.intro (nI f) (And.intro rfl (And.intro ((qn_ne eσ2 (Or.inr (by decide))).trans (gρ)) ?_))))
      refine Exists.intro ((-2) - (nI f)) (And.intro rfl ?_)
      exact ⟨rfl, fρ.d.tr (qf.d4 fσ2 (by simp)), qn_eq eσ2, Nat.zero_le _, fun k hk => absurd hk (by show ¬ k < 0; omega)⟩
  · skip
    have h6 := nI_ltF (a := nr) (b := 6) (by omega) (by decide) h6
    exact absurd h6 (by omega)
/-- a rule is kept -/
def fRu (σ s : qx_S) (a nr : Nat) (R : qR) : Prop := (s.1 = σ.1 + 6 ∧ s.2.1 = σ.2.1 + 457) ∧ (∀ x, x < σ.1 → s.2.2.1 x = σ.2.2.1 x) ∧ (∀ x j, x < σ.1 → pD a x j = false → ¬ (x = 3 ∧ j = 15) → qx_mi s x j = qx_mi σ x j ∧ qx_ml s x j = qx_ml σ x j) ∧ (∀ x j, x < σ.1 → ¬ (x = 14 ∧ j = nr) → ¬ (x = 3 ∧ j = 14) → qx_mr s x j = qx_mr σ x j) ∧ qx_mr s 14 nr = some a ∧ qx_mr s 3 14 = some σ.1 ∧ qx_mi s 3 15 = nI (nr + 1) ∧ uR s a R ∧ shR s σ.1
theorem uR.lo' {σ s : qx_S} {a : Nat} {R : qR} (h : uR σ a R) (f : ∀ y, a ≤ y → y ≤ a + 5 → ∀ j, qx_mi s y j = qx_mi σ y j) : uR s a R := h.lo f
theorem rl46 {G : qx_G} {σ s1 : qx_S} {T : q_T} {R : qR} {nr a : Nat} (h9 : 229 ≤ s1.1) (n1 : s1.1 = σ.1) (m1 : s1.2.1 = σ.2.1) (f : qf (pD a) σ s1) (h15 : qx_mi s1 3 15 = nI nr) (hr : nr < 6) (hd : qx_mr s1 3 14 = some a) (ha : 191 ≤ a ∧ a + 6 ≤ s1.1) (hs : shR s1 a) (hu : uR s1 a R) (ht : tC s1 T) : qx_K G qc_T 37 RX11 YX11_rule 46 [.ref 3, .retAddr 0] [] s1 (fun r s => r = some (.int (nI nr)) ∧ fRu σ s a nr R ∧ tC s T) := by
  obtain ⟨c, hc⟩ : ∃ c, s1.1 = c := ⟨_, rfl⟩
  have ns1 : s1.1 = c := hc
  have ms1 : s1.2.1 = s1.2.1 + 0 := rfl
  have qs1 : qh c s1 s1 := qh.rf
  have zs1 : kz c [(3, some 15)] s1 := fun a j h1 h2 => absurd h2 (by omega)
  have hTc : ∀ a, c ≤ a → qc_T a = none := fun a ha => qc_hi (by omega)
  refine qy_wp_ok (c := CX11_rule) (cuts := []) vX11_rule wX11_rule 2000 46 _ _ _ ?_
  refine And.intro rfl (Exists.intro 14 (And.intro rfl ?_))
  refine And.intro rfl (Exists.intro 15 (Exists.intro (nI nr) (And.intro rfl (And.intro h15 ?_))))
  refine And.intro rfl (Exists.intro 14 (Exists.intro (some a) (And.intro rfl (And.intro hd ?_))))
  obtain ⟨σ1, eσ1⟩ : ∃ zs, zs = (qx_wr s1 14 nr (some a)) := ⟨_, rfl⟩
  refine Exists.intro (nr) (Exists.intro σ1 (Exists.intro 5 (And.intro rfl (And.intro ⟨⟨6, rfl, by omega, by decide⟩, by decide, by decide⟩ (And.intro (by rw [show qx_sh qc_T _ a = _ from hs.2.1]; rfl) (And.intro eσ1.symm ?_))))))
  have nσ1 : σ1.1 = c := (by rw [eσ1]; exact ns1)
  have mσ1 : σ1.2.1 = s1.2.1 + 0 := (by rw [eσ1]; exact ms1)
  have zσ1 := zs1.wr eσ1
  obtain ⟨σ2, eσ2⟩ : ∃ zs, zs = qx_al σ1 (45, 0) 9 := ⟨_, rfl⟩
  refine Exists.intro c (Exists.intro σ2 (And.intro nσ1 (And.intro eσ2.symm ?_)))
  have nσ2 : σ2.1 = c + 1 := by have := ka_1 eσ2; omega
  have mσ2 : σ2.2.1 = s1.2.1 + 9 := by have := ka_2 eσ2; omega
  have zσ2 := zσ1.al eσ2
  have yσ2 : qx_sh qc_T σ2 c = (45, 0) := ka_n eσ2 nσ1 (hTc _ (by omega))
  refine Exists.intro _ (And.intro (by decide) (qx_M_mono (c_i5 (by omega) hTc nσ2 (show qx_sh qc_T σ2 c = (45, 0) from yσ2) (fun j => (show qx_mi σ2 c j = nI 0 from ka_0 eσ2 nσ1))) ?_))
  rintro _ σ3 ⟨rfl, hσ3, nσ3, mσ3, kσ3, sσ3⟩
  have nσ3 : σ3.1 = c + 6 := by omega
  have mσ3 : σ3.2.1 = s1.2.1 + 457 := by omega
  have zσ3 := zσ2.ca hσ3 (by omega) kσ3 (fun _ _ _ _ => rfl)
  obtain ⟨σ4, eσ4⟩ : ∃ zs, zs = (qx_wr σ3 3 14 (some c)) := ⟨_, rfl⟩
  refine And.intro rfl (Exists.intro 14 (Exists.intro σ4 (And.intro rfl (And.intro eσ4.symm ?_))))
  have nσ4 : σ4.1 = c + 6 := (by rw [eσ4]; exact nσ3)
  have mσ4 : σ4.2.1 = s1.2.1 + 457 := (by rw [eσ4]; exact mσ3)
  have zσ4 := zσ3.wr eσ4
  refine And.intro rfl (Exists.intro 15 (Exists.intro (nI nr) (And.intro rfl (And.intro ((kw_i eσ4).trans ((hσ3.i (by omega)).trans ((ka_i eσ2 (by omega)).trans ((kw_i eσ1).trans (h15))))) ?_))))
  refine Exists.intro (nI 1) (And.intro rfl ?_)
  refine Exists.intro (nI (nr + 1)) (And.intro (nI_add _ _) ?_)
  obtain ⟨σ5, eσ5⟩ : ∃ zs, zs = (qx_wi σ4 3 15 (nI (nr + 1))) := ⟨_, rfl⟩
  refine And.intro rfl (Exists.intro 15 (Exists.intro σ5 (And.intro rfl (And.intro eσ5.symm ?_))))
  have nσ5 : σ5.1 = c + 6 := (by rw [eσ5]; exact nσ4)
  have mσ5 : σ5.2.1 = s1.2.1 + 457 := (by rw [eσ5]; exact mσ4)
  have zσ5 := zσ4.wi eσ5 (Or.inr (by simp [pL]))
  refine And.intro rfl (Exists.intro 15 (Exists.intro (nI (nr + 1)) (And.intro rfl (And.intro (qn_eq eσ5) ?_))))
  refine Exists.intro (nI 1) (And.intro rfl ?_)
  refine Exists.intro (nI ((nr + 1) - 1)) (And.intro (nI_sub (by omega)) ?_)
  have dy : ∀ x, x < c → σ5.2.2.1 x = s1.2.2.1 x := fun x hx => by
    rw [show σ5.2.2.1 = σ4.2.2.1 by rw [eσ5]; rfl, show σ4.2.2.1 = σ3.2.2.1 by rw [eσ4]; rfl, hσ3.2.1 x hx]
    exact (ka_d eσ2 (by omega)).trans (by rw [eσ1]; rfl)
  have mi : ∀ x j, x < c → ¬ (x = 3 ∧ j = 15) → qx_mi σ5 x j = qx_mi s1 x j := fun x j hx hn => (qn_ne eσ5 (by omega)).trans ((kw_i eσ4).trans ((hσ3.i hx).trans ((ka_i eσ2 (by omega)).trans (kw_i eσ1))))
  have ml : ∀ x j, x < c → qx_ml σ5 x j = qx_ml s1 x j := fun x j hx => (show qx_ml σ5 x j = qx_ml σ4 x j by rw [eσ5]; rfl).trans ((kw_l eσ4).trans ((hσ3.l hx).trans ((ka_l eσ2 (by omega)).trans (kw_l eσ1))))
  have mr : ∀ x j, x < c → ¬ (x = 14 ∧ j = nr) → ¬ (x = 3 ∧ j = 14) → qx_mr σ5 x j = qx_mr s1 x j := fun x j hx h1 h2 => (kx_r eσ5).trans ((kw_ne eσ4 (by omega)).trans ((hσ3.r hx).trans ((ka_r eσ2 (by omega)).trans (kw_ne eσ1 (by omega)))))
  have ec : σ.1 = c := n1.symm.trans hc
  have ks : ∀ y, qx_sh qc_T σ5 y = qx_sh qc_T σ3 y := fun y => (kx_s eσ5).trans (kw_s eσ4)
  refine ⟨rfl, ⟨⟨by omega, by omega⟩, fun x hx => (dy x (by omega)).trans (by rw [f.2.2.1]), fun x j hx hp hn => ⟨(mi x j (by omega) hn).trans (f.i _ _ hp), (ml x j (by omega)).trans (f.l _ _ hp)⟩, fun x j hx h1 h2 => (mr x j (by omega) h1 h2).trans (f.r _ _), ?_, ?_, qn_eq eσ5, hu.lo (fun y h1 h2 j => mi y j (by omega) (by omega)), ?_⟩, ?_⟩
  · exact (kx_r eσ5).trans ((kw_ne eσ4 (Or.inl (by decide))).trans ((hσ3.r (by omega)).trans ((ka_r eσ2 (by omega)).trans (kw_eq eσ1))))
  · rw [ec]; exact (kx_r eσ5).trans (kw_eq eσ4)
  · rw [ec]; exact ⟨by omega, (ks _).trans sσ3.1, (ks _).trans sσ3.2.1, (ks _).trans sσ3.2.2.1, (ks _).trans sσ3.2.2.2.1, (ks _).trans sσ3.2.2.2.2.1, (ks _).trans sσ3.2.2.2.2.2⟩
  · exact ⟨(mi 4 4 (by omega) (by omega)).trans ht.1, ht.2.1, fun k hk => ⟨(mi 5 k (by omega) (by omega)).trans (ht.2.2 k hk).1, (ht.2.2 k hk).2⟩⟩
theorem c_rule_ok {G : qx_G} (hG : kStr G) {σ : qx_S} {T : q_T} {R : qR} {nr a : Nat} (h9 : 229 ≤ σ.1) (hT : tC σ T) (h15 : qx_mi σ 3 15 = nI nr) (hr : nr < 6) (hd : qx_mr σ 3 14 = some a) (ha : 191 ≤ a ∧ a + 6 ≤ σ.1) (hs : shR σ a) (e : q_ru T = .ok R) : qx_M G qc_T 37 YX11_rule [.ref 3] σ (fun r s => r = some (.int (nI nr)) ∧ fRu σ s a nr R ∧ tC s (0, T.2)) := by
  have mr := c_readRule (G := G) hG hT hs
  rw [e] at mr
  refine qx_M_in rfl (Nat.le_of_ble_eq_true rfl) ?_
  refine qy_wp_ok (c := CX11_rule) (cuts := [46]) vX11_rule wX11_rule 2000 0 _ _ _ ?_
  refine And.intro rfl (Exists.intro 15 (Exists.intro (nI nr) (And.intro rfl (And.intro h15 ?_))))
  refine Exists.intro (nI 6) (And.intro rfl ?_)
  refine And.intro (fun h6 => ?_) (fun h6 => ?_)
  · skip
    have h6 := nI_ltT (a := nr) (b := 6) (by omega) (by decide) h6
    refine And.intro rfl (Exists.intro 14 (Exists.intro (some a) (And.intro rfl (And.intro hd ?_))))
    refine And.intro rfl (Exists.intro 4 (And.intro rfl ?_))
    refine And.intro ((congrArg Prod.fst (hs.2.1)).trans rfl) (Exists.intro _ (And.intro (by decide) (qx_M_mono (mr) ?_)))
    rintro _ ρ ⟨fρ, rfl, uρ⟩
    refine And.intro rfl (Exists.intro 4 (And.intro rfl ?_))
    refine Exists.intro (nI 0) (And.intro rfl ?_)
    obtain ⟨σ2, eσ2⟩ : ∃ zs, zs = (qx_wi ρ 4 4 (nI 0)) := ⟨_, rfl⟩
    have fσ2 := qn_wif eσ2
    refine And.intro rfl (Exists.intro 4 (Exists.intro σ2 (And.intro rfl (And.intro eσ2.symm ?_))))
    refine And.intro (fun h32 => ?_) (fun h32 => ?_)
    · skip
      have h32 := bI_t h32
      refine qx_K_le (ls := [.ref 3, .retAddr 0]) ⟨Or.inr rfl, Or.inl rfl, trivial⟩ ?_
      have ft : qf (pD a) σ σ2 := fρ.d.tr (qf.d4 fσ2 (by simp))
      exact rl46 (by rw [ft.1]; exact h9) ft.1 ft.2.1 ft ((ft.i _ _ (pD_no (by omega) (by decide) (by decide) (by decide) (by decide))).trans h15) hr ((ft.r _ _).trans hd) (by rw [ft.1]; exact ha) (hs.fr ft) (uρ.lo (fun y h1 h2 j => fσ2.i _ _ (pL_ne (by simp; omega)))) ⟨qn_eq eσ2, Nat.zero_le _, fun k hk => absurd hk (by show ¬ k < 0; omega)⟩
    · skip
      have h32 := bI_f h32
      exact absurd (h32.symm.trans (rfl)) (by decide)
  · skip
    have h6 := nI_ltF (a := nr) (b := 6) (by omega) (by decide) h6
    exact absurd h6 (by omega)

