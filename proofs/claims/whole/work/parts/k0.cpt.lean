/-! THE CLASS: a STATE is copied -/
def kT9 (a : Nat) : Nat → Nat → Bool := fun y _ => Nat.ble a y && Nat.ble y (a + 139)
theorem kT9_no {a y j : Nat} (h : y < a ∨ a + 139 < y) : kT9 a y j = false := by
  unfold kT9
  rcases h with h | h
  · rw [show Nat.ble a y = false from Bool.eq_false_iff.mpr (fun w => by have := Nat.le_of_ble_eq_true w; omega)]
    rfl
  · rw [show Nat.ble y (a + 139) = false from Bool.eq_false_iff.mpr (fun w => by have := Nat.le_of_ble_eq_true w; omega)]
    exact Bool.and_false _
theorem kT9_yes {a y j : Nat} (h : kT9 a y j = false) : y < a ∨ a + 139 < y := by
  unfold kT9 at h
  rcases Nat.lt_or_ge y a with z | z
  · exact Or.inl z
  · rcases Nat.lt_or_ge (a + 139) y with w | w
    · exact Or.inr w
    · rw [Nat.ble_eq_true_of_le z, Nat.ble_eq_true_of_le w] at h
      exact absurd h (by decide)
theorem qf.kT9 {l : List (Nat × Option Nat)} {a : Nat} {σ s : qx_S} (f : ql l σ s) (h : ∀ q, q ∈ l → a ≤ q.1 ∧ q.1 ≤ a + 139) : qf (kT9 a) σ s :=
  f.mono (fun y j hy => pL_ne (fun q hq => Or.inl (fun z => by
    have := h q hq
    have := kT9_yes hy
    omega)))
theorem cpS.fb {σ s s2 : qx_S} {a b : Nat} (h : cpS σ s a b) (k : ∀ y j, a ≤ y → y ≤ a + 4 → qx_mi s2 y j = qx_mi s y j) : cpS σ s2 a b :=
  ⟨fun i hi => (k _ _ (by omega) (by omega)).trans (h.1 i hi), fun j hj => ⟨(k _ _ (by omega) (by omega)).trans (h.2.1 j hj).1, (k _ _ (by omega) (by omega)).trans (h.2.1 j hj).2⟩, fun j hj => (k _ _ (by omega) (by omega)).trans (h.2.2.1 j hj), fun j hj => (k _ _ (by omega) (by omega)).trans (h.2.2.2 j hj)⟩
theorem cpS.bk {σ σ' s : qx_S} {a b : Nat} (h : cpS σ' s a b) (k : ∀ y j, b ≤ y → y ≤ b + 4 → qx_mi σ' y j = qx_mi σ y j) : cpS σ s a b :=
  ⟨fun i hi => (h.1 i hi).trans (k _ _ (by omega) (by omega)), fun j hj => ⟨(h.2.1 j hj).1.trans (k _ _ (by omega) (by omega)), (h.2.1 j hj).2.trans (k _ _ (by omega) (by omega))⟩, fun j hj => (h.2.2.1 j hj).trans (k _ _ (by omega) (by omega)), fun j hj => (h.2.2.2 j hj).trans (k _ _ (by omega) (by omega))⟩
theorem cpL.fb {σ s s2 : qx_S} {a b : Nat} (h : cpL σ s a b) (k : ∀ y j, a ≤ y → y ≤ a + 4 → qx_mi s2 y j = qx_mi s y j) : cpL σ s2 a b :=
  ⟨fun i hi => (k _ _ (by omega) (by omega)).trans (h.1 i hi), fun j hj => ⟨(k _ _ (by omega) (by omega)).trans (h.2.1 j hj).1, (k _ _ (by omega) (by omega)).trans (h.2.1 j hj).2⟩, fun j hj => (k _ _ (by omega) (by omega)).trans (h.2.2.1 j hj), fun j hj => (k _ _ (by omega) (by omega)).trans (h.2.2.2 j hj)⟩
theorem cpG.fb {σ s s2 : qx_S} {a b : Nat} (h : cpG σ s a b) (k : ∀ y j, a ≤ y → y ≤ a + 1 → qx_mi s2 y j = qx_mi s y j) : cpG σ s2 a b :=
  ⟨(k _ _ (by omega) (by omega)).trans h.1, fun j hj => (k _ _ (by omega) (by omega)).trans (h.2 j hj)⟩
theorem cpG.bk {σ σ' s : qx_S} {a b : Nat} (h : cpG σ' s a b) (k : ∀ y j, b ≤ y → y ≤ b + 1 → qx_mi σ' y j = qx_mi σ y j) : cpG σ s a b :=
  ⟨h.1.trans (k _ _ (by omega) (by omega)), fun j hj => (h.2 j hj).trans (k _ _ (by omega) (by omega))⟩
/-- so far: i of the past, k of the book -/
def cpJ (σ s : qx_S) (a b i k : Nat) : Prop := qf (kT9 a) σ s ∧ cpL σ s (a + 1) (b + 1) ∧ cpS σ s (a + 6) (b + 6) ∧ (∀ t, t < i → cpS σ s (a + 16 + 5 * t) (b + 16 + 5 * t)) ∧ (0 < k → cpG σ s (a + 12) (b + 12)) ∧ ∀ t, t + 1 < k → cpG σ s (a + 116 + 2 * t) (b + 116 + 2 * t)
theorem cpJ.fr {σ s s2 : qx_S} {a b i k : Nat} (h : cpJ σ s a b i k) (f : qf (kT9 a) s s2) (m : ∀ y j, (a + 1 ≤ y ∧ y ≤ a + 10) ∨ (a + 16 ≤ y ∧ y < a + 16 + 5 * i) ∨ (0 < k ∧ a + 12 ≤ y ∧ y ≤ a + 13) ∨ (a + 116 ≤ y ∧ y + 2 < a + 116 + 2 * k) → qx_mi s2 y j = qx_mi s y j) : cpJ σ s2 a b i k := by
  obtain ⟨h1, h2, h3, h4, h5, h6⟩ := h
  exact ⟨h1.tr f, h2.fb (fun y j _ _ => m y j (by omega)), h3.fb (fun y j _ _ => m y j (by omega)), fun t ht => (h4 t ht).fb (fun y j _ _ => m y j (by omega)), fun h0 => (h5 h0).fb (fun y j _ _ => m y j (by omega)), fun t ht => (h6 t ht).fb (fun y j _ _ => m y j (by omega))⟩
theorem iC.c6 {S : qS} (h : iC S) : (S 4).toNatClampNeg ≤ 6 := h.2.1
/-- all copied -/
theorem cSt.cp {σ s : qx_S} {a b : Nat} {S : qS} (h : cSt σ b S) (g : gT S) (c : cpJ σ s a b 20 13) (f15 : ∀ j, j < 10 → qx_mi s (a + 15) j = qx_mi σ (b + 15) j) (ff : ∀ k, 6 ≤ k → k ≤ 10 → qx_mi s a k = qx_mi σ b k) : cSt s a S := by
  obtain ⟨a1, a2, ⟨pf, p1, p2, p3⟩, a4, a5, a6, a7, a8, a9, a10⟩ := h
  obtain ⟨-, c2, c3, c4, c5, c6⟩ := c
  have c5 := c5 (by decide)
  have hpe := g.pe
  have i6 : (S 4).toNatClampNeg ≤ 6 := g.2.2.1.2.1
  refine ⟨a1.cp g.1.1 c2, a2.cp hpe c3, ⟨pf, p1, (ff 6 (by omega) (by omega)).trans p2, fun i hi => (p3 i hi).cp hpe (c4 _ (Nat.mod_lt _ (by decide)))⟩, ⟨c5.1.trans a4.1, fun j hj => (c5.2 j (by omega)).trans (a4.2 j hj)⟩, fun i hi => ?_, fun p hp => (f15 p (by omega)).trans (a6 p hp), (ff 7 (by omega) (by omega)).trans a7, (ff 8 (by omega) (by omega)).trans a8, (ff 9 (by omega) (by omega)).trans a9, (ff 10 (by omega) (by omega)).trans a10⟩
  have b12 := g.b12
  have k := c6 i (by omega)
  have l6 : (S (254 + 7 * i)).toNatClampNeg ≤ 6 := (g.2.2.2.1.2.2 i hi).2.2.1
  exact ⟨k.1.trans (a5 i hi).1, fun j hj => (k.2 j (by omega)).trans ((a5 i hi).2 j hj)⟩
theorem cpT_end {G : qx_G} {σ s : qx_S} {a b : Nat} {S : qS} (ha : cSh s a) (hb : cSh s b) (hab : a + 139 < b ∨ b + 139 < a) (h : cSt σ b S) (g : gT S) (c : cpJ σ s a b 20 13) : qx_K G qc_T 2 RX8 YX8_copyFrom 91 [.ref a, .ref b, .retAddr 0] [] s (fun r s' => r = none ∧ qf (kT9 a) σ s' ∧ cSt s' a S) := by
  have f := c.1
  have eb : ∀ y j, b ≤ y → y ≤ b + 139 → qx_mi s y j = qx_mi σ y j := fun y j _ _ => f.i _ _ (kT9_no (by omega))
  obtain ⟨v6, e6⟩ : ∃ v, qx_mi s b 6 = v := ⟨_, rfl⟩
  obtain ⟨v7, e7⟩ : ∃ v, qx_mi s b 7 = v := ⟨_, rfl⟩
  obtain ⟨v8, e8⟩ : ∃ v, qx_mi s b 8 = v := ⟨_, rfl⟩
  obtain ⟨v9, e9⟩ : ∃ v, qx_mi s b 9 = v := ⟨_, rfl⟩
  obtain ⟨v10, e10⟩ : ∃ v, qx_mi s b 10 = v := ⟨_, rfl⟩
  refine qy_wp_ok (c := CX8_copyFrom) (cuts := []) vX8_copyFrom wX8_copyFrom 2000 91 _ _ _ ?_
  refine And.intro (by rw [show qx_sh qc_T _ b = _ from hb.1]; rfl) (Exists.intro (b + 15) (And.intro rfl ?_))
  refine Exists.intro (nI 0) (And.intro rfl ?_)
  refine And.intro (by rw [show qx_sh qc_T _ a = _ from ha.1]; rfl) (Exists.intro (a + 15) (And.intro rfl ?_))
  refine Exists.intro (nI 0) (And.intro rfl ?_)
  refine Exists.intro (nI 10) (And.intro rfl ?_)
  obtain ⟨σ1, eσ1⟩ : ∃ zs, zs = (qy_cp s (b + 15) (a + 15) 0 0 10) := ⟨_, rfl⟩
  have fσ1 := qn_cp eσ1
  refine Exists.intro 10 (Exists.intro 0 (Exists.intro 0 (Exists.intro σ1 (And.intro rfl (And.intro rfl (And.intro rfl (And.intro (show ¬ b + 15 = a + 15 by omega) (And.intro ⟨10, hb.2.2.2.2.2.2.1, by decide, by decide⟩ (And.intro ⟨10, ha.2.2.2.2.2.2.1, by decide, by decide⟩ (And.intro eσ1.symm ?_))))))))))
  refine And.intro (by rw [show qx_sh qc_T _ b = _ from (fσ1.s _).trans (hb.1)]; rfl) (Exists.intro 6 (Exists.intro v6 (And.intro rfl (And.intro ((qn_cpne eσ1 (by omega)).trans (e6)) ?_))))
  obtain ⟨σ2, eσ2⟩ : ∃ zs, zs = (qx_wi σ1 a 6 v6) := ⟨_, rfl⟩
  have fσ2 := qn_wif eσ2
  refine And.intro (by rw [show qx_sh qc_T _ a = _ from (fσ1.s _).trans (ha.1)]; rfl) (Exists.intro 6 (Exists.intro σ2 (And.intro rfl (And.intro eσ2.symm ?_))))
  refine And.intro (by rw [show qx_sh qc_T _ b = _ from (fσ2.s _).trans ((fσ1.s _).trans (hb.1))]; rfl) (Exists.intro 7 (Exists.intro v7 (And.intro rfl (And.intro ((qn_ne eσ2 (Or.inl (by omega))).trans ((qn_cpne eσ1 (by omega)).trans (e7))) ?_))))
  obtain ⟨σ3, eσ3⟩ : ∃ zs, zs = (qx_wi σ2 a 7 v7) := ⟨_, rfl⟩
  have fσ3 := qn_wif eσ3
  refine And.intro (by rw [show qx_sh qc_T _ a = _ from (fσ2.s _).trans ((fσ1.s _).trans (ha.1))]; rfl) (Exists.intro 7 (Exists.intro σ3 (And.intro rfl (And.intro eσ3.symm ?_))))
  refine And.intro (by rw [show qx_sh qc_T _ b = _ from (fσ3.s _).trans ((fσ2.s _).trans ((fσ1.s _).trans (hb.1)))]; rfl) (Exists.intro 8 (Exists.intro v8 (And.intro rfl (And.intro ((qn_ne eσ3 (Or.inl (by omega))).trans ((qn_ne eσ2 (Or.inl (by omega))).trans ((qn_cpne eσ1 (by omega)).trans (e8)))) ?_))))
  obtain ⟨σ4, eσ4⟩ : ∃ zs, zs = (qx_wi σ3 a 8 v8) := ⟨_, rfl⟩
  have fσ4 := qn_wif eσ4
  refine And.intro (by rw [show qx_sh qc_T _ a = _ from (fσ3.s _).trans ((fσ2.s _).trans ((fσ1.s _).trans (ha.1)))]; rfl) (Exists.intro 8 (Exists.intro σ4 (And.intro rfl (And.intro eσ4.symm ?_))))
  refine And.intro (by rw [show qx_sh qc_T _ b = _ from (fσ4.s _).trans ((fσ3.s _).trans ((fσ2.s _).trans ((fσ1.s _).trans (hb.1))))]; rfl) (Exists.intro 9 (Exists.intro v9 (And.intro rfl (And.intro ((qn_ne eσ4 (Or.inl (by omega))).trans ((qn_ne eσ3 (Or.inl (by omega))).trans ((qn_ne eσ2 (Or.inl (by omega))).trans ((qn_cpne eσ1 (by omega)).trans (e9))))) ?_))))
  obtain ⟨σ5, eσ5⟩ : ∃ zs, zs = (qx_wi σ4 a 9 v9) := ⟨_, rfl⟩
  have fσ5 := qn_wif eσ5
  refine And.intro (by rw [show qx_sh qc_T _ a = _ from (fσ4.s _).trans ((fσ3.s _).trans ((fσ2.s _).trans ((fσ1.s _).trans (ha.1))))]; rfl) (Exists.intro 9 (Exists.intro σ5 (And.intro rfl (And.intro eσ5.symm ?_))))
  refine And.intro (by rw [show qx_sh qc_T _ b = _ from (fσ5.s _).trans ((fσ4.s _).trans ((fσ3.s _).trans ((fσ2.s _).trans ((fσ1.s _).trans (hb.1)))))]; rfl) (Exists.intro 10 (Exists.intro v10 (And.intro rfl (And.intro ((qn_ne eσ5 (Or.inl (by omega))).trans ((qn_ne eσ4 (Or.inl (by omega))).trans ((qn_ne eσ3 (Or.inl (by omega))).trans ((qn_ne eσ2 (Or.inl (by omega))).trans ((qn_cpne eσ1 (by omega)).trans (e10)))))) ?_))))
  obtain ⟨σ6, eσ6⟩ : ∃ zs, zs = (qx_wi σ5 a 10 v10) := ⟨_, rfl⟩
  have fσ6 := qn_wif eσ6
  refine And.intro (by rw [show qx_sh qc_T _ a = _ from (fσ5.s _).trans ((fσ4.s _).trans ((fσ3.s _).trans ((fσ2.s _).trans ((fσ1.s _).trans (ha.1)))))]; rfl) (Exists.intro 10 (Exists.intro σ6 (And.intro rfl (And.intro eσ6.symm ?_))))
  have m : ∀ y j, y ≠ a + 15 → y ≠ a → qx_mi σ6 y j = qx_mi s y j := fun y j h1 h2 => (qn_ne eσ6 (Or.inl h2)).trans ((qn_ne eσ5 (Or.inl h2)).trans ((qn_ne eσ4 (Or.inl h2)).trans ((qn_ne eσ3 (Or.inl h2)).trans ((qn_ne eσ2 (Or.inl h2)).trans (qn_cpne eσ1 h1)))))
  have k : ∀ {l : List (Nat × Option Nat)} {x y : qx_S}, ql l x y → (∀ q, q ∈ l → a ≤ q.1 ∧ q.1 ≤ a + 139) → qf (kT9 a) x y := fun f h => qf.kT9 f h
  have ft : qf (kT9 a) s σ6 := (k fσ1 (by simp)).tr ((k fσ2 (by simp)).tr ((k fσ3 (by simp)).tr ((k fσ4 (by simp)).tr ((k fσ5 (by simp)).tr (k fσ6 (by simp))))))
  refine ⟨rfl, f.tr ft, h.cp g (c.fr ft (fun y j hy => m y j (by omega) (by omega))) (fun j hj => ?_) (fun k h1 h2 => ?_)⟩
  · exact (qn_ne eσ6 (Or.inl (by omega))).trans ((qn_ne eσ5 (Or.inl (by omega))).trans ((qn_ne eσ4 (Or.inl (by omega))).trans ((qn_ne eσ3 (Or.inl (by omega))).trans ((qn_ne eσ2 (Or.inl (by omega))).trans ((qn_cpeq eσ1 hj).trans (eb _ _ (by omega) (by omega)))))))
  · rcases (show k = 6 ∨ k = 7 ∨ k = 8 ∨ k = 9 ∨ k = 10 by omega) with rfl | rfl | rfl | rfl | rfl
    · exact (qn_ne eσ6 (Or.inr (by decide))).trans ((qn_ne eσ5 (Or.inr (by decide))).trans ((qn_ne eσ4 (Or.inr (by decide))).trans ((qn_ne eσ3 (Or.inr (by decide))).trans ((qn_eq eσ2).trans (e6.symm.trans (eb _ _ (by omega) (by omega)))))))
    · exact (qn_ne eσ6 (Or.inr (by decide))).trans ((qn_ne eσ5 (Or.inr (by decide))).trans ((qn_ne eσ4 (Or.inr (by decide))).trans ((qn_eq eσ3).trans (e7.symm.trans (eb _ _ (by omega) (by omega))))))
    · exact (qn_ne eσ6 (Or.inr (by decide))).trans ((qn_ne eσ5 (Or.inr (by decide))).trans ((qn_eq eσ4).trans (e8.symm.trans (eb _ _ (by omega) (by omega)))))
    · exact (qn_ne eσ6 (Or.inr (by decide))).trans ((qn_eq eσ5).trans (e9.symm.trans (eb _ _ (by omega) (by omega))))
    · exact (qn_eq eσ6).trans (e10.symm.trans (eb _ _ (by omega) (by omega)))
theorem cpT_told {G : qx_G} {σ : qx_S} {a b : Nat} {S : qS} (hab : a + 139 < b ∨ b + 139 < a) (h : cSt σ b S) (g : gT S) : ∀ (m k : Nat) (s : qx_S), m + k = 12 → cSh s a → cSh s b → cpJ σ s a b 20 (k + 1) → qx_K G qc_T 2 RX8 YX8_copyFrom 64 [.ref a, .ref b, .int (nI k)] [] s (fun r s' => r = none ∧ qf (kT9 a) σ s' ∧ cSt s' a S) := by
  intro m
  induction m with
  | zero =>
    intro k s hk ha hb c
    obtain rfl : k = 12 := by omega
    have e := cpT_end (G := G) ha hb hab h g c
    refine qy_wp_ok (c := CX8_copyFrom) (cuts := [64, 91]) vX8_copyFrom wX8_copyFrom 2000 64 _ _ _ ?_
    refine Exists.intro (nI 12) (And.intro rfl ?_)
    refine And.intro (fun h67 => ?_) (fun h67 => ?_)
    · skip
      refine qx_K_le (ls := [.ref a, .ref b, .retAddr 0]) ⟨Or.inr rfl, Or.inr rfl, Or.inl rfl, trivial⟩ ?_
      exact e
    · skip
      exact absurd (by decide) h67
  | succ m ih =>
    intro k s hk ha hb c
    have ka := ha.2.2.2.2.2.2.2.2 k (by omega)
    have kb := hb.2.2.2.2.2.2.2.2 k (by omega)
    have eb : ∀ y j, b ≤ y → y ≤ b + 139 → qx_mi s y j = qx_mi σ y j := fun y j _ _ => c.1.i _ _ (kT9_no (by omega))
    have cg := c_copyG (G := G) ka.2 kb.2 (by omega)
    refine qy_wp_ok (c := CX8_copyFrom) (cuts := [64, 91]) vX8_copyFrom wX8_copyFrom 2000 64 _ _ _ ?_
    refine Exists.intro (nI 12) (And.intro rfl ?_)
    refine And.intro (fun h67 => ?_) (fun h67 => ?_)
    · skip
      have h67 := nI_leT (a := 12) (b := k) (by decide) (by omega) h67
      exact absurd h67 (by omega)
    · skip
      have h67 := nI_leF (a := 12) (b := k) (by decide) (by omega) h67
      refine And.intro (by rw [show qx_sh qc_T _ a = _ from ha.1]; rfl) (Exists.intro (a + 14) (And.intro rfl ?_))
      refine Exists.intro (k) (Exists.intro (some (a + 116 + 2 * k)) (Exists.intro 4 (And.intro rfl (And.intro ⟨⟨12, ha.2.2.2.2.2.1, by omega, by decide⟩, by decide, by decide⟩ (And.intro ka.1 ?_)))))
      refine And.intro (by rw [show qx_sh qc_T _ b = _ from hb.1]; rfl) (Exists.intro (b + 14) (And.intro rfl ?_))
      refine Exists.intro (k) (Exists.intro (some (b + 116 + 2 * k)) (Exists.intro 4 (And.intro rfl (And.intro ⟨⟨12, hb.2.2.2.2.2.1, by omega, by decide⟩, by decide, by decide⟩ (And.intro kb.1 ?_)))))
      refine And.intro ((congrArg Prod.fst (ka.2.1)).trans rfl) (Exists.intro _ (And.intro (by decide) (qx_M_mono (cg) ?_)))
      rintro _ σ1 ⟨rfl, fσ1, gσ1⟩
      refine Exists.intro (nI (k + 1)) (And.intro (nI_add _ _) ?_)
      have ft : qf (kT9 a) s σ1 := qf.kT9 fσ1 (by simp; omega)
      have ne : ∀ y j, y ≠ a + 116 + 2 * k → y ≠ a + 116 + 2 * k + 1 → qx_mi σ1 y j = qx_mi s y j := fun y j h1 h2 => fσ1.i _ _ (pL_ne (by simp; omega))
      obtain ⟨d1, d2, d3, d4, d5, d6⟩ := c.fr ft (fun y j hy => ne y j (by omega) (by omega))
      refine ih (k + 1) σ1 (by omega) (ha.fr fσ1) (hb.fr fσ1) ⟨d1, d2, d3, d4, fun _ => d5 (by omega), fun t ht => ?_⟩
      by_cases z : t = k
      · rw [z]; exact gσ1.bk (fun y j _ _ => eb _ _ (by omega) (by omega))
      · exact d6 t (by omega)
theorem cpT_past {G : qx_G} {σ : qx_S} {a b : Nat} {S : qS} (hab : a + 139 < b ∨ b + 139 < a) (h : cSt σ b S) (g : gT S) : ∀ (m i : Nat) (s : qx_S), m + i = 20 → cSh s a → cSh s b → cpJ σ s a b i 0 → qx_K G qc_T 2 RX8 YX8_copyFrom 24 [.ref a, .ref b, .int (nI i)] [] s (fun r s' => r = none ∧ qf (kT9 a) σ s' ∧ cSt s' a S) := by
  intro m
  induction m with
  | zero =>
    intro i s hi ha hb c
    obtain rfl : i = 20 := by omega
    have ka := ha.2.2.2.2.1
    have kb := hb.2.2.2.2.1
    have eb : ∀ y j, b ≤ y → y ≤ b + 139 → qx_mi s y j = qx_mi σ y j := fun y j _ _ => c.1.i _ _ (kT9_no (by omega))
    have cg := c_copyG (G := G) ka kb (by omega)
    refine qy_wp_ok (c := CX8_copyFrom) (cuts := [24, 64]) vX8_copyFrom wX8_copyFrom 2000 24 _ _ _ ?_
    refine Exists.intro (nI 20) (And.intro rfl ?_)
    refine And.intro (fun h27 => ?_) (fun h27 => ?_)
    · skip
      refine And.intro (by rw [show qx_sh qc_T _ a = _ from ha.1]; rfl) (Exists.intro (a + 12) (And.intro rfl ?_))
      refine And.intro (by rw [show qx_sh qc_T _ b = _ from hb.1]; rfl) (Exists.intro (b + 12) (And.intro rfl ?_))
      refine And.intro ((congrArg Prod.fst (ka.1)).trans rfl) (Exists.intro _ (And.intro (by decide) (qx_M_mono (cg) ?_)))
      rintro _ σ1 ⟨rfl, fσ1, gσ1⟩
      refine Exists.intro (nI 0) (And.intro rfl ?_)
      have ft : qf (kT9 a) s σ1 := qf.kT9 fσ1 (by simp; omega)
      have ne : ∀ y j, y ≠ a + 12 → y ≠ a + 12 + 1 → qx_mi σ1 y j = qx_mi s y j := fun y j h1 h2 => fσ1.i _ _ (pL_ne (by simp; omega))
      obtain ⟨d1, d2, d3, d4, d5, d6⟩ := c.fr ft (fun y j hy => ne y j (by omega) (by omega))
      exact cpT_told hab h g 12 0 σ1 (by omega) (ha.fr fσ1) (hb.fr fσ1) ⟨d1, d2, d3, d4, fun _ => gσ1.bk (fun y j _ _ => eb _ _ (by omega) (by omega)), fun t ht => absurd ht (by omega)⟩
    · skip
      exact absurd (by decide) h27
  | succ m ih =>
    intro i s hi ha hb c
    have ka := ha.2.2.2.2.2.2.2.1 i (by omega)
    have kb := hb.2.2.2.2.2.2.2.1 i (by omega)
    have eb : ∀ y j, b ≤ y → y ≤ b + 139 → qx_mi s y j = qx_mi σ y j := fun y j _ _ => c.1.i _ _ (kT9_no (by omega))
    have cg := c_copyS (G := G) ka.2 kb.2 (by omega)
    refine qy_wp_ok (c := CX8_copyFrom) (cuts := [24, 64]) vX8_copyFrom wX8_copyFrom 2000 24 _ _ _ ?_
    refine Exists.intro (nI 20) (And.intro rfl ?_)
    refine And.intro (fun h27 => ?_) (fun h27 => ?_)
    · skip
      have h27 := nI_leT (a := 20) (b := i) (by decide) (by omega) h27
      exact absurd h27 (by omega)
    · skip
      have h27 := nI_leF (a := 20) (b := i) (by decide) (by omega) h27
      refine And.intro (by rw [show qx_sh qc_T _ a = _ from ha.1]; rfl) (Exists.intro (a + 11) (And.intro rfl ?_))
      refine Exists.intro (i) (Exists.intro (some (a + 16 + 5 * i)) (Exists.intro 6 (And.intro rfl (And.intro ⟨⟨20, ha.2.2.2.1, by omega, by decide⟩, by decide, by decide⟩ (And.intro ka.1 ?_)))))
      refine And.intro (by rw [show qx_sh qc_T _ b = _ from hb.1]; rfl) (Exists.intro (b + 11) (And.intro rfl ?_))
      refine Exists.intro (i) (Exists.intro (some (b + 16 + 5 * i)) (Exists.intro 6 (And.intro rfl (And.intro ⟨⟨20, hb.2.2.2.1, by omega, by decide⟩, by decide, by decide⟩ (And.intro kb.1 ?_)))))
      refine And.intro ((congrArg Prod.fst (ka.2.1)).trans rfl) (Exists.intro _ (And.intro (by decide) (qx_M_mono (cg) ?_)))
      rintro _ σ1 ⟨rfl, fσ1, gσ1⟩
      refine Exists.intro (nI (i + 1)) (And.intro (nI_add _ _) ?_)
      have ft : qf (kT9 a) s σ1 := qf.kT9 fσ1 (by simp; omega)
      have ne : ∀ y j, y < a + 16 + 5 * i ∨ a + 16 + 5 * i + 4 < y → qx_mi σ1 y j = qx_mi s y j := fun y j h1 => fσ1.i _ _ (pL_ne (by simp; omega))
      obtain ⟨d1, d2, d3, d4, d5, d6⟩ := c.fr ft (fun y j hy => ne y j (by omega))
      refine ih (i + 1) σ1 (by omega) (ha.fr fσ1) (hb.fr fσ1) ⟨d1, d2, d3, fun t ht => ?_, fun z => absurd z (by omega), fun t ht => absurd ht (by omega)⟩
      by_cases z : t = i
      · rw [z]; exact gσ1.bk (fun y j _ _ => eb _ _ (by omega) (by omega))
      · exact d4 t (by omega)
theorem c_copyT {G : qx_G} {σ : qx_S} {a b : Nat} {S : qS} (ha : cSh σ a) (hb : cSh σ b) (hab : a + 139 < b ∨ b + 139 < a) (h : cSt σ b S) (g : gT S) : qx_M G qc_T 2 YX8_copyFrom [.ref a, .ref b] σ (fun r s' => r = none ∧ qf (kT9 a) σ s' ∧ cSt s' a S) := by
  have c1 := c_copyC (G := G) ha.2.1 hb.2.1 (by omega)
  refine qx_M_in rfl (Nat.le_of_ble_eq_true rfl) ?_
  refine qy_wp_ok (c := CX8_copyFrom) (cuts := [24]) vX8_copyFrom wX8_copyFrom 2000 0 _ _ _ ?_
  refine And.intro (by rw [show qx_sh qc_T _ a = _ from ha.1]; rfl) (Exists.intro (a + 1) (And.intro rfl ?_))
  refine And.intro (by rw [show qx_sh qc_T _ b = _ from hb.1]; rfl) (Exists.intro (b + 1) (And.intro rfl ?_))
  refine And.intro ((congrArg Prod.fst (ha.2.1.1)).trans rfl) (Exists.intro _ (And.intro (by decide) (qx_M_mono (c1) ?_)))
  rintro _ σ1 ⟨rfl, fσ1, gσ1⟩
  refine And.intro (by rw [show qx_sh qc_T _ a = _ from (fσ1.s _).trans (ha.1)]; rfl) (Exists.intro (a + 6) (And.intro rfl ?_))
  refine And.intro (by rw [show qx_sh qc_T _ b = _ from (fσ1.s _).trans (hb.1)]; rfl) (Exists.intro (b + 6) (And.intro rfl ?_))
  refine And.intro ((congrArg Prod.fst ((fσ1.s _).trans (ha.2.2.1.1))).trans rfl) (Exists.intro _ (And.intro (by decide) (qx_M_mono (c_copyS (ha.fr fσ1).2.2.1 (hb.fr fσ1).2.2.1 (by omega)) ?_)))
  rintro _ σ2 ⟨rfl, fσ2, gσ2⟩
  refine Exists.intro (nI 0) (And.intro rfl ?_)
  have ft1 : qf (kT9 a) σ σ1 := qf.kT9 fσ1 (by simp; omega)
  have ft2 : qf (kT9 a) σ1 σ2 := qf.kT9 fσ2 (by simp; omega)
  exact cpT_past hab h g 20 0 σ2 (by omega) ((ha.fr fσ1).fr fσ2) ((hb.fr fσ1).fr fσ2) ⟨ft1.tr ft2, gσ1.fb (fun y j h1 h2 => fσ2.i _ _ (pL_ne (by simp; omega))), gσ2.bk (fun y j h1 h2 => ft1.i _ _ (kT9_no (by omega))), fun t ht => absurd ht (by omega), fun z => absurd z (by omega), fun t ht => absurd ht (by omega)⟩

