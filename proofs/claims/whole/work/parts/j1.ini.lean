/-! CONSTRUCTORS: rows alone -/
theorem kx_d {T : qx_T} {s : qx_S} {a : Nat} {q : Nat × Nat} (h : qx_sh T s a = q) (hT : T a = none) : s.2.2.1 a = q := by
  unfold qx_sh at h
  rw [hT] at h
  exact h
def hS7 (T : qx_T) (s : qx_S) (b : Nat) : Prop := qx_sh T s b = (15, 0) ∧ qx_sh T s (b + 1) = (0, 10) ∧ qx_sh T s (b + 2) = (0, 10) ∧ qx_sh T s (b + 3) = (0, 100) ∧ qx_sh T s (b + 4) = (0, 10)
theorem c_i7 {G : qx_G} {T : qx_T} {σ : qx_S} {b : Nat} (hb : 3 ≤ b) (hT : ∀ a, b ≤ a → T a = none) (nσ : σ.1 = b + 1) (hs : qx_sh T σ b = (47, 0)) (h0 : ∀ j, qx_mi σ b j = nI 0) : qx_M G T 0 YX7_init [.ref b] σ (fun r s => r = none ∧ qh b σ s ∧ s.1 = b + 5 ∧ s.2.1 = σ.2.1 + 130 ∧ kz b [] s ∧ hS7 T s b) := by
  have mσ : σ.2.1 = σ.2.1 + 0 := rfl
  have qσ : qh b σ σ := qh.rf
  have zσ : kz b [] σ := fun a j h1 h2 _ => by rw [show a = b by omega]; exact h0 j
  refine qx_M_in rfl (Nat.le_of_ble_eq_true rfl) ?_
  refine qy_wp_ok (c := CX7_init) (cuts := [46]) vX7_init wX7_init 2000 0 _ _ _ ?_
  refine Exists.intro (nI 10) (And.intro rfl ?_)
  obtain ⟨σ1, eσ1⟩ : ∃ zs, zs = qx_al σ (0, 10) 10 := ⟨_, rfl⟩
  refine Exists.intro 10 (Exists.intro (b + 1) (Exists.intro σ1 (And.intro rfl (And.intro (by decide) (And.intro nσ (And.intro eσ1.symm ?_))))))
  have nσ1 : σ1.1 = b + 2 := ka_n1 eσ1 nσ
  have mσ1 : σ1.2.1 = σ.2.1 + 10 := ka_m1 eσ1 mσ
  have qσ1 := qσ.al eσ1 (kb_le nσ)
  have zσ1 := zσ.al eσ1
  have yσ1 : qx_sh T σ1 b = (47, 0) := (ka_s eσ1 (ka_ne0 nσ (by decide))).trans (hs)
  obtain ⟨σ2, eσ2⟩ : ∃ zs, zs = (qx_wr σ1 b 0 (some (b + 1))) := ⟨_, rfl⟩
  refine And.intro (by rw [show qx_sh T _ b = _ from yσ1]; rfl) (Exists.intro 0 (Exists.intro σ2 (And.intro rfl (And.intro eσ2.symm ?_))))
  have nσ2 : σ2.1 = b + 2 := (by rw [eσ2]; exact nσ1)
  have mσ2 : σ2.2.1 = σ.2.1 + 10 := (by rw [eσ2]; exact mσ1)
  have qσ2 := qσ1.wr eσ2 (Nat.le_refl _)
  have zσ2 := zσ1.wr eσ2
  have yσ2 : qx_sh T σ2 b = (47, 0) := (kw_s eσ2).trans (yσ1)
  refine Exists.intro (nI 10) (And.intro rfl ?_)
  obtain ⟨σ3, eσ3⟩ : ∃ zs, zs = qx_al σ2 (0, 10) 10 := ⟨_, rfl⟩
  refine Exists.intro 10 (Exists.intro (b + 2) (Exists.intro σ3 (And.intro rfl (And.intro (by decide) (And.intro nσ2 (And.intro eσ3.symm ?_))))))
  have nσ3 : σ3.1 = b + 3 := ka_n1 eσ3 nσ2
  have mσ3 : σ3.2.1 = σ.2.1 + 20 := ka_m1 eσ3 mσ2
  have qσ3 := qσ2.al eσ3 (kb_le nσ2)
  have zσ3 := zσ2.al eσ3
  have yσ3 : qx_sh T σ3 b = (47, 0) := (ka_s eσ3 (ka_ne0 nσ2 (by decide))).trans (yσ2)
  obtain ⟨σ4, eσ4⟩ : ∃ zs, zs = (qx_wr σ3 b 1 (some (b + 2))) := ⟨_, rfl⟩
  refine And.intro (by rw [show qx_sh T _ b = _ from yσ3]; rfl) (Exists.intro 1 (Exists.intro σ4 (And.intro rfl (And.intro eσ4.symm ?_))))
  have nσ4 : σ4.1 = b + 3 := (by rw [eσ4]; exact nσ3)
  have mσ4 : σ4.2.1 = σ.2.1 + 20 := (by rw [eσ4]; exact mσ3)
  have qσ4 := qσ3.wr eσ4 (Nat.le_refl _)
  have zσ4 := zσ3.wr eσ4
  have yσ4 : qx_sh T σ4 b = (47, 0) := (kw_s eσ4).trans (yσ3)
  refine Exists.intro (nI 100) (And.intro rfl ?_)
  obtain ⟨σ5, eσ5⟩ : ∃ zs, zs = qx_al σ4 (0, 100) 100 := ⟨_, rfl⟩
  refine Exists.intro 100 (Exists.intro (b + 3) (Exists.intro σ5 (And.intro rfl (And.intro (by decide) (And.intro nσ4 (And.intro eσ5.symm ?_))))))
  have nσ5 : σ5.1 = b + 4 := ka_n1 eσ5 nσ4
  have mσ5 : σ5.2.1 = σ.2.1 + 120 := ka_m1 eσ5 mσ4
  have qσ5 := qσ4.al eσ5 (kb_le nσ4)
  have zσ5 := zσ4.al eσ5
  have yσ5 : qx_sh T σ5 b = (47, 0) := (ka_s eσ5 (ka_ne0 nσ4 (by decide))).trans (yσ4)
  obtain ⟨σ6, eσ6⟩ : ∃ zs, zs = (qx_wr σ5 b 2 (some (b + 3))) := ⟨_, rfl⟩
  refine And.intro (by rw [show qx_sh T _ b = _ from yσ5]; rfl) (Exists.intro 2 (Exists.intro σ6 (And.intro rfl (And.intro eσ6.symm ?_))))
  have nσ6 : σ6.1 = b + 4 := (by rw [eσ6]; exact nσ5)
  have mσ6 : σ6.2.1 = σ.2.1 + 120 := (by rw [eσ6]; exact mσ5)
  have qσ6 := qσ5.wr eσ6 (Nat.le_refl _)
  have zσ6 := zσ5.wr eσ6
  have yσ6 : qx_sh T σ6 b = (47, 0) := (kw_s eσ6).trans (yσ5)
  refine Exists.intro (nI 10) (And.intro rfl ?_)
  obtain ⟨σ7, eσ7⟩ : ∃ zs, zs = qx_al σ6 (0, 10) 10 := ⟨_, rfl⟩
  refine Exists.intro 10 (Exists.intro (b + 4) (Exists.intro σ7 (And.intro rfl (And.intro (by decide) (And.intro nσ6 (And.intro eσ7.symm ?_))))))
  have nσ7 : σ7.1 = b + 5 := ka_n1 eσ7 nσ6
  have mσ7 : σ7.2.1 = σ.2.1 + 130 := ka_m1 eσ7 mσ6
  have qσ7 := qσ6.al eσ7 (kb_le nσ6)
  have zσ7 := zσ6.al eσ7
  have yσ7 : qx_sh T σ7 b = (47, 0) := (ka_s eσ7 (ka_ne0 nσ6 (by decide))).trans (yσ6)
  obtain ⟨σ8, eσ8⟩ : ∃ zs, zs = (qx_wr σ7 b 3 (some (b + 4))) := ⟨_, rfl⟩
  refine And.intro (by rw [show qx_sh T _ b = _ from yσ7]; rfl) (Exists.intro 3 (Exists.intro σ8 (And.intro rfl (And.intro eσ8.symm ?_))))
  have nσ8 : σ8.1 = b + 5 := (by rw [eσ8]; exact nσ7)
  have mσ8 : σ8.2.1 = σ.2.1 + 130 := (by rw [eσ8]; exact mσ7)
  have qσ8 := qσ7.wr eσ8 (Nat.le_refl _)
  have zσ8 := zσ7.wr eσ8
  have yσ8 : qx_sh T σ8 b = (47, 0) := (kw_s eσ8).trans (yσ7)
  refine Exists.intro (nI 0) (And.intro rfl ?_)
  obtain ⟨σ9, eσ9⟩ : ∃ zs, zs = (qx_wi σ8 b 4 (nI 0)) := ⟨_, rfl⟩
  refine And.intro (by rw [show qx_sh T _ b = _ from yσ8]; rfl) (Exists.intro 4 (Exists.intro σ9 (And.intro rfl (And.intro eσ9.symm ?_))))
  have nσ9 : σ9.1 = b + 5 := (by rw [eσ9]; exact nσ8)
  have mσ9 : σ9.2.1 = σ.2.1 + 130 := (by rw [eσ9]; exact mσ8)
  have qσ9 := qσ8.wi eσ9 (Nat.le_refl _)
  have zσ9 := zσ8.wi eσ9 (Or.inl rfl)
  have yσ9 : qx_sh T σ9 b = (47, 0) := (kx_s eσ9).trans (yσ8)
  refine Exists.intro (nI 0) (And.intro rfl ?_)
  obtain ⟨σ10, eσ10⟩ : ∃ zs, zs = (qx_wi σ9 b 5 (nI 0)) := ⟨_, rfl⟩
  refine And.intro (by rw [show qx_sh T _ b = _ from yσ9]; rfl) (Exists.intro 5 (Exists.intro σ10 (And.intro rfl (And.intro eσ10.symm ?_))))
  have nσ10 : σ10.1 = b + 5 := (by rw [eσ10]; exact nσ9)
  have mσ10 : σ10.2.1 = σ.2.1 + 130 := (by rw [eσ10]; exact mσ9)
  have qσ10 := qσ9.wi eσ10 (Nat.le_refl _)
  have zσ10 := zσ9.wi eσ10 (Or.inl rfl)
  have yσ10 : qx_sh T σ10 b = (47, 0) := (kx_s eσ10).trans (yσ9)
  refine qx_K_le (ls := [.retAddr 0]) ⟨Or.inl rfl, trivial⟩ ?_
  refine qz_K (a := b) (ci := 7) hb (hT _ (Nat.le_refl _)) (kx_d (show qx_sh T σ10 b = (47, 0) from yσ10) (hT _ (Nat.le_refl _))) (by decide) (fun k => match k with | 0 => ⟨fun _ => ((kx_r eσ10).trans ((kx_r eσ9).trans ((kw_ne eσ8 (Or.inr (by decide))).trans ((ka_r eσ7 (ka_ne0 nσ6 (by decide))).trans ((kw_ne eσ6 (Or.inr (by decide))).trans ((ka_r eσ5 (ka_ne0 nσ4 (by decide))).trans ((kw_ne eσ4 (Or.inr (by decide))).trans ((ka_r eσ3 (ka_ne0 nσ2 (by decide))).trans (kw_eq eσ2))))))))), fun h => absurd h (by decide)⟩ | 1 => ⟨fun _ => ((kx_r eσ10).trans ((kx_r eσ9).trans ((kw_ne eσ8 (Or.inr (by decide))).trans ((ka_r eσ7 (ka_ne0 nσ6 (by decide))).trans ((kw_ne eσ6 (Or.inr (by decide))).trans ((ka_r eσ5 (ka_ne0 nσ4 (by decide))).trans (kw_eq eσ4))))))), fun h => absurd h (by decide)⟩ | 2 => ⟨fun _ => ((kx_r eσ10).trans ((kx_r eσ9).trans ((kw_ne eσ8 (Or.inr (by decide))).trans ((ka_r eσ7 (ka_ne0 nσ6 (by decide))).trans (kw_eq eσ6))))), fun h => absurd h (by decide)⟩ | 3 => ⟨fun _ => ((kx_r eσ10).trans ((kx_r eσ9).trans (kw_eq eσ8))), fun h => absurd h (by decide)⟩ | 4 => ⟨fun h => absurd h (by decide), fun h => absurd h (by decide)⟩ | 5 => ⟨fun h => absurd h (by decide), fun h => absurd h (by decide)⟩ | (k + 6) => ⟨fun h => absurd (show (9 : Nat) = 3 from h) (by decide), fun h => absurd (show (9 : Nat) = 4 from h) (by decide)⟩) ?_
  refine qy_wp_ok (c := CX7_init) (cuts := []) vX7_init wX7_init 2000 46 _ _ _ ?_
  exact ⟨rfl, qσ10.sl (Nat.le_refl _), nσ10, mσ10, zσ10.sl, qz_b (hT _ (Nat.le_refl _)), (qz_sh (by omega)).trans (show qx_sh T σ10 (b + 1) = (0, 10) from (kx_s eσ10).trans ((kx_s eσ9).trans ((kw_s eσ8).trans ((ka_s eσ7 (ka_ne nσ6 (by decide))).trans ((kw_s eσ6).trans ((ka_s eσ5 (ka_ne nσ4 (by decide))).trans ((kw_s eσ4).trans ((ka_s eσ3 (ka_ne nσ2 (by decide))).trans ((kw_s eσ2).trans (ka_n eσ1 nσ (hT _ (Nat.le_add_right _ _)))))))))))), (qz_sh (by omega)).trans (show qx_sh T σ10 (b + 2) = (0, 10) from (kx_s eσ10).trans ((kx_s eσ9).trans ((kw_s eσ8).trans ((ka_s eσ7 (ka_ne nσ6 (by decide))).trans ((kw_s eσ6).trans ((ka_s eσ5 (ka_ne nσ4 (by decide))).trans ((kw_s eσ4).trans (ka_n eσ3 nσ2 (hT _ (Nat.le_add_right _ _)))))))))), (qz_sh (by omega)).trans (show qx_sh T σ10 (b + 3) = (0, 100) from (kx_s eσ10).trans ((kx_s eσ9).trans ((kw_s eσ8).trans ((ka_s eσ7 (ka_ne nσ6 (by decide))).trans ((kw_s eσ6).trans (ka_n eσ5 nσ4 (hT _ (Nat.le_add_right _ _)))))))), (qz_sh (by omega)).trans (show qx_sh T σ10 (b + 4) = (0, 10) from (kx_s eσ10).trans ((kx_s eσ9).trans ((kw_s eσ8).trans (ka_n eσ7 nσ6 (hT _ (Nat.le_add_right _ _))))))⟩
def hS4 (T : qx_T) (s : qx_S) (b : Nat) : Prop := qx_sh T s b = (12, 0) ∧ qx_sh T s (b + 1) = (0, 6)
theorem c_i4 {G : qx_G} {T : qx_T} {σ : qx_S} {b : Nat} (hb : 3 ≤ b) (hT : ∀ a, b ≤ a → T a = none) (nσ : σ.1 = b + 1) (hs : qx_sh T σ b = (44, 0)) (h0 : ∀ j, qx_mi σ b j = nI 0) : qx_M G T 0 YX4_init [.ref b] σ (fun r s => r = none ∧ qh b σ s ∧ s.1 = b + 2 ∧ s.2.1 = σ.2.1 + 6 ∧ kz b [] s ∧ hS4 T s b) := by
  have mσ : σ.2.1 = σ.2.1 + 0 := rfl
  have qσ : qh b σ σ := qh.rf
  have zσ : kz b [] σ := fun a j h1 h2 _ => by rw [show a = b by omega]; exact h0 j
  refine qx_M_in rfl (Nat.le_of_ble_eq_true rfl) ?_
  refine qy_wp_ok (c := CX4_init) (cuts := [17]) vX4_init wX4_init 2000 0 _ _ _ ?_
  refine Exists.intro (nI 6) (And.intro rfl ?_)
  obtain ⟨σ1, eσ1⟩ : ∃ zs, zs = qx_al σ (0, 6) 6 := ⟨_, rfl⟩
  refine Exists.intro 6 (Exists.intro (b + 1) (Exists.intro σ1 (And.intro rfl (And.intro (by decide) (And.intro nσ (And.intro eσ1.symm ?_))))))
  have nσ1 : σ1.1 = b + 2 := ka_n1 eσ1 nσ
  have mσ1 : σ1.2.1 = σ.2.1 + 6 := ka_m1 eσ1 mσ
  have qσ1 := qσ.al eσ1 (kb_le nσ)
  have zσ1 := zσ.al eσ1
  have yσ1 : qx_sh T σ1 b = (44, 0) := (ka_s eσ1 (ka_ne0 nσ (by decide))).trans (hs)
  obtain ⟨σ2, eσ2⟩ : ∃ zs, zs = (qx_wr σ1 b 0 (some (b + 1))) := ⟨_, rfl⟩
  refine And.intro (by rw [show qx_sh T _ b = _ from yσ1]; rfl) (Exists.intro 0 (Exists.intro σ2 (And.intro rfl (And.intro eσ2.symm ?_))))
  have nσ2 : σ2.1 = b + 2 := (by rw [eσ2]; exact nσ1)
  have mσ2 : σ2.2.1 = σ.2.1 + 6 := (by rw [eσ2]; exact mσ1)
  have qσ2 := qσ1.wr eσ2 (Nat.le_refl _)
  have zσ2 := zσ1.wr eσ2
  have yσ2 : qx_sh T σ2 b = (44, 0) := (kw_s eσ2).trans (yσ1)
  refine Exists.intro (nI 0) (And.intro rfl ?_)
  obtain ⟨σ3, eσ3⟩ : ∃ zs, zs = (qx_wi σ2 b 1 (nI 0)) := ⟨_, rfl⟩
  refine And.intro (by rw [show qx_sh T _ b = _ from yσ2]; rfl) (Exists.intro 1 (Exists.intro σ3 (And.intro rfl (And.intro eσ3.symm ?_))))
  have nσ3 : σ3.1 = b + 2 := (by rw [eσ3]; exact nσ2)
  have mσ3 : σ3.2.1 = σ.2.1 + 6 := (by rw [eσ3]; exact mσ2)
  have qσ3 := qσ2.wi eσ3 (Nat.le_refl _)
  have zσ3 := zσ2.wi eσ3 (Or.inl rfl)
  have yσ3 : qx_sh T σ3 b = (44, 0) := (kx_s eσ3).trans (yσ2)
  refine qx_K_le (ls := [.retAddr 0]) ⟨Or.inl rfl, trivial⟩ ?_
  refine qz_K (a := b) (ci := 4) hb (hT _ (Nat.le_refl _)) (kx_d (show qx_sh T σ3 b = (44, 0) from yσ3) (hT _ (Nat.le_refl _))) (by decide) (fun k => match k with | 0 => ⟨fun _ => ((kx_r eσ3).trans (kw_eq eσ2)), fun h => absurd h (by decide)⟩ | 1 => ⟨fun h => absurd h (by decide), fun h => absurd h (by decide)⟩ | (k + 2) => ⟨fun h => absurd (show (9 : Nat) = 3 from h) (by decide), fun h => absurd (show (9 : Nat) = 4 from h) (by decide)⟩) ?_
  refine qy_wp_ok (c := CX4_init) (cuts := []) vX4_init wX4_init 2000 17 _ _ _ ?_
  exact ⟨rfl, qσ3.sl (Nat.le_refl _), nσ3, mσ3, zσ3.sl, qz_b (hT _ (Nat.le_refl _)), (qz_sh (by omega)).trans (show qx_sh T σ3 (b + 1) = (0, 6) from (kx_s eσ3).trans ((kw_s eσ2).trans (ka_n eσ1 nσ (hT _ (Nat.le_add_right _ _)))))⟩
def hS1 (T : qx_T) (s : qx_S) (b : Nat) : Prop := qx_sh T s b = (9, 0) ∧ qx_sh T s (b + 1) = (0, 10) ∧ qx_sh T s (b + 2) = (0, 10) ∧ qx_sh T s (b + 3) = (0, 80) ∧ qx_sh T s (b + 4) = (0, 8)
theorem c_i1 {G : qx_G} {T : qx_T} {σ : qx_S} {b : Nat} (hb : 3 ≤ b) (hT : ∀ a, b ≤ a → T a = none) (nσ : σ.1 = b + 1) (hs : qx_sh T σ b = (41, 0)) (h0 : ∀ j, qx_mi σ b j = nI 0) : qx_M G T 0 YX1_init [.ref b] σ (fun r s => r = none ∧ qh b σ s ∧ s.1 = b + 5 ∧ s.2.1 = σ.2.1 + 108 ∧ kz b [] s ∧ hS1 T s b) := by
  have mσ : σ.2.1 = σ.2.1 + 0 := rfl
  have qσ : qh b σ σ := qh.rf
  have zσ : kz b [] σ := fun a j h1 h2 _ => by rw [show a = b by omega]; exact h0 j
  refine qx_M_in rfl (Nat.le_of_ble_eq_true rfl) ?_
  refine qy_wp_ok (c := CX1_init) (cuts := [61]) vX1_init wX1_init 2000 0 _ _ _ ?_
  refine Exists.intro (nI 10) (And.intro rfl ?_)
  obtain ⟨σ1, eσ1⟩ : ∃ zs, zs = qx_al σ (0, 10) 10 := ⟨_, rfl⟩
  refine Exists.intro 10 (Exists.intro (b + 1) (Exists.intro σ1 (And.intro rfl (And.intro (by decide) (And.intro nσ (And.intro eσ1.symm ?_))))))
  have nσ1 : σ1.1 = b + 2 := ka_n1 eσ1 nσ
  have mσ1 : σ1.2.1 = σ.2.1 + 10 := ka_m1 eσ1 mσ
  have qσ1 := qσ.al eσ1 (kb_le nσ)
  have zσ1 := zσ.al eσ1
  have yσ1 : qx_sh T σ1 b = (41, 0) := (ka_s eσ1 (ka_ne0 nσ (by decide))).trans (hs)
  obtain ⟨σ2, eσ2⟩ : ∃ zs, zs = (qx_wr σ1 b 0 (some (b + 1))) := ⟨_, rfl⟩
  refine And.intro (by rw [show qx_sh T _ b = _ from yσ1]; rfl) (Exists.intro 0 (Exists.intro σ2 (And.intro rfl (And.intro eσ2.symm ?_))))
  have nσ2 : σ2.1 = b + 2 := (by rw [eσ2]; exact nσ1)
  have mσ2 : σ2.2.1 = σ.2.1 + 10 := (by rw [eσ2]; exact mσ1)
  have qσ2 := qσ1.wr eσ2 (Nat.le_refl _)
  have zσ2 := zσ1.wr eσ2
  have yσ2 : qx_sh T σ2 b = (41, 0) := (kw_s eσ2).trans (yσ1)
  refine Exists.intro (nI 10) (And.intro rfl ?_)
  obtain ⟨σ3, eσ3⟩ : ∃ zs, zs = qx_al σ2 (0, 10) 10 := ⟨_, rfl⟩
  refine Exists.intro 10 (Exists.intro (b + 2) (Exists.intro σ3 (And.intro rfl (And.intro (by decide) (And.intro nσ2 (And.intro eσ3.symm ?_))))))
  have nσ3 : σ3.1 = b + 3 := ka_n1 eσ3 nσ2
  have mσ3 : σ3.2.1 = σ.2.1 + 20 := ka_m1 eσ3 mσ2
  have qσ3 := qσ2.al eσ3 (kb_le nσ2)
  have zσ3 := zσ2.al eσ3
  have yσ3 : qx_sh T σ3 b = (41, 0) := (ka_s eσ3 (ka_ne0 nσ2 (by decide))).trans (yσ2)
  obtain ⟨σ4, eσ4⟩ : ∃ zs, zs = (qx_wr σ3 b 1 (some (b + 2))) := ⟨_, rfl⟩
  refine And.intro (by rw [show qx_sh T _ b = _ from yσ3]; rfl) (Exists.intro 1 (Exists.intro σ4 (And.intro rfl (And.intro eσ4.symm ?_))))
  have nσ4 : σ4.1 = b + 3 := (by rw [eσ4]; exact nσ3)
  have mσ4 : σ4.2.1 = σ.2.1 + 20 := (by rw [eσ4]; exact mσ3)
  have qσ4 := qσ3.wr eσ4 (Nat.le_refl _)
  have zσ4 := zσ3.wr eσ4
  have yσ4 : qx_sh T σ4 b = (41, 0) := (kw_s eσ4).trans (yσ3)
  refine Exists.intro (nI 80) (And.intro rfl ?_)
  obtain ⟨σ5, eσ5⟩ : ∃ zs, zs = qx_al σ4 (0, 80) 80 := ⟨_, rfl⟩
  refine Exists.intro 80 (Exists.intro (b + 3) (Exists.intro σ5 (And.intro rfl (And.intro (by decide) (And.intro nσ4 (And.intro eσ5.symm ?_))))))
  have nσ5 : σ5.1 = b + 4 := ka_n1 eσ5 nσ4
  have mσ5 : σ5.2.1 = σ.2.1 + 100 := ka_m1 eσ5 mσ4
  have qσ5 := qσ4.al eσ5 (kb_le nσ4)
  have zσ5 := zσ4.al eσ5
  have yσ5 : qx_sh T σ5 b = (41, 0) := (ka_s eσ5 (ka_ne0 nσ4 (by decide))).trans (yσ4)
  obtain ⟨σ6, eσ6⟩ : ∃ zs, zs = (qx_wr σ5 b 2 (some (b + 3))) := ⟨_, rfl⟩
  refine And.intro (by rw [show qx_sh T _ b = _ from yσ5]; rfl) (Exists.intro 2 (Exists.intro σ6 (And.intro rfl (And.intro eσ6.symm ?_))))
  have nσ6 : σ6.1 = b + 4 := (by rw [eσ6]; exact nσ5)
  have mσ6 : σ6.2.1 = σ.2.1 + 100 := (by rw [eσ6]; exact mσ5)
  have qσ6 := qσ5.wr eσ6 (Nat.le_refl _)
  have zσ6 := zσ5.wr eσ6
  have yσ6 : qx_sh T σ6 b = (41, 0) := (kw_s eσ6).trans (yσ5)
  refine Exists.intro (nI 8) (And.intro rfl ?_)
  obtain ⟨σ7, eσ7⟩ : ∃ zs, zs = qx_al σ6 (0, 8) 8 := ⟨_, rfl⟩
  refine Exists.intro 8 (Exists.intro (b + 4) (Exists.intro σ7 (And.intro rfl (And.intro (by decide) (And.intro nσ6 (And.intro eσ7.symm ?_))))))
  have nσ7 : σ7.1 = b + 5 := ka_n1 eσ7 nσ6
  have mσ7 : σ7.2.1 = σ.2.1 + 108 := ka_m1 eσ7 mσ6
  have qσ7 := qσ6.al eσ7 (kb_le nσ6)
  have zσ7 := zσ6.al eσ7
  have yσ7 : qx_sh T σ7 b = (41, 0) := (ka_s eσ7 (ka_ne0 nσ6 (by decide))).trans (yσ6)
  obtain ⟨σ8, eσ8⟩ : ∃ zs, zs = (qx_wr σ7 b 3 (some (b + 4))) := ⟨_, rfl⟩
  refine And.intro (by rw [show qx_sh T _ b = _ from yσ7]; rfl) (Exists.intro 3 (Exists.intro σ8 (And.intro rfl (And.intro eσ8.symm ?_))))
  have nσ8 : σ8.1 = b + 5 := (by rw [eσ8]; exact nσ7)
  have mσ8 : σ8.2.1 = σ.2.1 + 108 := (by rw [eσ8]; exact mσ7)
  have qσ8 := qσ7.wr eσ8 (Nat.le_refl _)
  have zσ8 := zσ7.wr eσ8
  have yσ8 : qx_sh T σ8 b = (41, 0) := (kw_s eσ8).trans (yσ7)
  refine Exists.intro (nI 0) (And.intro rfl ?_)
  obtain ⟨σ9, eσ9⟩ : ∃ zs, zs = (qx_wi σ8 b 4 (nI 0)) := ⟨_, rfl⟩
  refine And.intro (by rw [show qx_sh T _ b = _ from yσ8]; rfl) (Exists.intro 4 (Exists.intro σ9 (And.intro rfl (And.intro eσ9.symm ?_))))
  have nσ9 : σ9.1 = b + 5 := (by rw [eσ9]; exact nσ8)
  have mσ9 : σ9.2.1 = σ.2.1 + 108 := (by rw [eσ9]; exact mσ8)
  have qσ9 := qσ8.wi eσ9 (Nat.le_refl _)
  have zσ9 := zσ8.wi eσ9 (Or.inl rfl)
  have yσ9 : qx_sh T σ9 b = (41, 0) := (kx_s eσ9).trans (yσ8)
  refine Exists.intro (nI 0) (And.intro rfl ?_)
  obtain ⟨σ10, eσ10⟩ : ∃ zs, zs = (qx_wi σ9 b 5 (nI 0)) := ⟨_, rfl⟩
  refine And.intro (by rw [show qx_sh T _ b = _ from yσ9]; rfl) (Exists.intro 5 (Exists.intro σ10 (And.intro rfl (And.intro eσ10.symm ?_))))
  have nσ10 : σ10.1 = b + 5 := (by rw [eσ10]; exact nσ9)
  have mσ10 : σ10.2.1 = σ.2.1 + 108 := (by rw [eσ10]; exact mσ9)
  have qσ10 := qσ9.wi eσ10 (Nat.le_refl _)
  have zσ10 := zσ9.wi eσ10 (Or.inl rfl)
  have yσ10 : qx_sh T σ10 b = (41, 0) := (kx_s eσ10).trans (yσ9)
  refine Exists.intro (nI 0) (And.intro rfl ?_)
  obtain ⟨σ11, eσ11⟩ : ∃ zs, zs = (qx_wi σ10 b 6 (nI 0)) := ⟨_, rfl⟩
  refine And.intro (by rw [show qx_sh T _ b = _ from yσ10]; rfl) (Exists.intro 6 (Exists.intro σ11 (And.intro rfl (And.intro eσ11.symm ?_))))
  have nσ11 : σ11.1 = b + 5 := (by rw [eσ11]; exact nσ10)
  have mσ11 : σ11.2.1 = σ.2.1 + 108 := (by rw [eσ11]; exact mσ10)
  have qσ11 := qσ10.wi eσ11 (Nat.le_refl _)
  have zσ11 := zσ10.wi eσ11 (Or.inl rfl)
  have yσ11 : qx_sh T σ11 b = (41, 0) := (kx_s eσ11).trans (yσ10)
  refine Exists.intro (nI 0) (And.intro rfl ?_)
  obtain ⟨σ12, eσ12⟩ : ∃ zs, zs = (qx_wi σ11 b 7 (nI 0)) := ⟨_, rfl⟩
  refine And.intro (by rw [show qx_sh T _ b = _ from yσ11]; rfl) (Exists.intro 7 (Exists.intro σ12 (And.intro rfl (And.intro eσ12.symm ?_))))
  have nσ12 : σ12.1 = b + 5 := (by rw [eσ12]; exact nσ11)
  have mσ12 : σ12.2.1 = σ.2.1 + 108 := (by rw [eσ12]; exact mσ11)
  have qσ12 := qσ11.wi eσ12 (Nat.le_refl _)
  have zσ12 := zσ11.wi eσ12 (Or.inl rfl)
  have yσ12 : qx_sh T σ12 b = (41, 0) := (kx_s eσ12).trans (yσ11)
  refine Exists.intro (nI 0) (And.intro rfl ?_)
  obtain ⟨σ13, eσ13⟩ : ∃ zs, zs = (qx_wi σ12 b 8 (nI 0)) := ⟨_, rfl⟩
  refine And.intro (by rw [show qx_sh T _ b = _ from yσ12]; rfl) (Exists.intro 8 (Exists.intro σ13 (And.intro rfl (And.intro eσ13.symm ?_))))
  have nσ13 : σ13.1 = b + 5 := (by rw [eσ13]; exact nσ12)
  have mσ13 : σ13.2.1 = σ.2.1 + 108 := (by rw [eσ13]; exact mσ12)
  have qσ13 := qσ12.wi eσ13 (Nat.le_refl _)
  have zσ13 := zσ12.wi eσ13 (Or.inl rfl)
  have yσ13 : qx_sh T σ13 b = (41, 0) := (kx_s eσ13).trans (yσ12)
  refine qx_K_le (ls := [.retAddr 0]) ⟨Or.inl rfl, trivial⟩ ?_
  refine qz_K (a := b) (ci := 1) hb (hT _ (Nat.le_refl _)) (kx_d (show qx_sh T σ13 b = (41, 0) from yσ13) (hT _ (Nat.le_refl _))) (by decide) (fun k => match k with | 0 => ⟨fun _ => ((kx_r eσ13).trans ((kx_r eσ12).trans ((kx_r eσ11).trans ((kx_r eσ10).trans ((kx_r eσ9).trans ((kw_ne eσ8 (Or.inr (by decide))).trans ((ka_r eσ7 (ka_ne0 nσ6 (by decide))).trans ((kw_ne eσ6 (Or.inr (by decide))).trans ((ka_r eσ5 (ka_ne0 nσ4 (by decide))).trans ((kw_ne eσ4 (Or.inr (by decide))).trans ((ka_r eσ3 (ka_ne0 nσ2 (by decide))).trans (kw_eq eσ2)))))))))))), fun h => absurd h (by decide)⟩ | 1 => ⟨fun _ => ((kx_r eσ13).trans ((kx_r eσ12).trans ((kx_r eσ11).trans ((kx_r eσ10).trans ((kx_r eσ9).trans ((kw_ne eσ8 (Or.inr (by decide))).trans ((ka_r eσ7 (ka_ne0 nσ6 (by decide))).trans ((kw_ne eσ6 (Or.inr (by decide))).trans ((ka_r eσ5 (ka_ne0 nσ4 (by decide))).trans (kw_eq eσ4)))))))))), fun h => absurd h (by decide)⟩ | 2 => ⟨fun _ => ((kx_r eσ13).trans ((kx_r eσ12).trans ((kx_r eσ11).trans ((kx_r eσ10).trans ((kx_r eσ9).trans ((kw_ne eσ8 (Or.inr (by decide))).trans ((ka_r eσ7 (ka_ne0 nσ6 (by decide))).trans (kw_eq eσ6)))))))), fun h => absurd h (by decide)⟩ | 3 => ⟨fun _ => ((kx_r eσ13).trans ((kx_r eσ12).trans ((kx_r eσ11).trans ((kx_r eσ10).trans ((kx_r eσ9).trans (kw_eq eσ8)))))), fun h => absurd h (by decide)⟩ | 4 => ⟨fun h => absurd h (by decide), fun h => absurd h (by decide)⟩ | 5 => ⟨fun h => absurd h (by decide), fun h => absurd h (by decide)⟩ | 6 => ⟨fun h => absurd h (by decide), fun h => absurd h (by decide)⟩ | 7 => ⟨fun h => absurd h (by decide), fun h => absurd h (by decide)⟩ | 8 => ⟨fun h => absurd h (by decide), fun h => absurd h (by decide)⟩ | (k + 9) => ⟨fun h => absurd (show (9 : Nat) = 3 from h) (by decide), fun h => absurd (show (9 : Nat) = 4 from h) (by decide)⟩) ?_
  refine qy_wp_ok (c := CX1_init) (cuts := []) vX1_init wX1_init 2000 61 _ _ _ ?_
  exact ⟨rfl, qσ13.sl (Nat.le_refl _), nσ13, mσ13, zσ13.sl, qz_b (hT _ (Nat.le_refl _)), (qz_sh (by omega)).trans (show qx_sh T σ13 (b + 1) = (0, 10) from (kx_s eσ13).trans ((kx_s eσ12).trans ((kx_s eσ11).trans ((kx_s eσ10).trans ((kx_s eσ9).trans ((kw_s eσ8).trans ((ka_s eσ7 (ka_ne nσ6 (by decide))).trans ((kw_s eσ6).trans ((ka_s eσ5 (ka_ne nσ4 (by decide))).trans ((kw_s eσ4).trans ((ka_s eσ3 (ka_ne nσ2 (by decide))).trans ((kw_s eσ2).trans (ka_n eσ1 nσ (hT _ (Nat.le_add_right _ _))))))))))))))), (qz_sh (by omega)).trans (show qx_sh T σ13 (b + 2) = (0, 10) from (kx_s eσ13).trans ((kx_s eσ12).trans ((kx_s eσ11).trans ((kx_s eσ10).trans ((kx_s eσ9).trans ((kw_s eσ8).trans ((ka_s eσ7 (ka_ne nσ6 (by decide))).trans ((kw_s eσ6).trans ((ka_s eσ5 (ka_ne nσ4 (by decide))).trans ((kw_s eσ4).trans (ka_n eσ3 nσ2 (hT _ (Nat.le_add_right _ _))))))))))))), (qz_sh (by omega)).trans (show qx_sh T σ13 (b + 3) = (0, 80) from (kx_s eσ13).trans ((kx_s eσ12).trans ((kx_s eσ11).trans ((kx_s eσ10).trans ((kx_s eσ9).trans ((kw_s eσ8).trans ((ka_s eσ7 (ka_ne nσ6 (by decide))).trans ((kw_s eσ6).trans (ka_n eσ5 nσ4 (hT _ (Nat.le_add_right _ _))))))))))), (qz_sh (by omega)).trans (show qx_sh T σ13 (b + 4) = (0, 8) from (kx_s eσ13).trans ((kx_s eσ12).trans ((kx_s eσ11).trans ((kx_s eσ10).trans ((kx_s eσ9).trans ((kw_s eσ8).trans (ka_n eσ7 nσ6 (hT _ (Nat.le_add_right _ _)))))))))⟩
def hS5 (T : qx_T) (s : qx_S) (b : Nat) : Prop := qx_sh T s b = (13, 0) ∧ qx_sh T s (b + 1) = (0, 400) ∧ qx_sh T s (b + 2) = (2, 12) ∧ qx_sh T s (b + 3) = (0, 12) ∧ qx_sh T s (b + 4) = (0, 12) ∧ qx_sh T s (b + 5) = (0, 12)
theorem c_i5 {G : qx_G} {T : qx_T} {σ : qx_S} {b : Nat} (hb : 3 ≤ b) (hT : ∀ a, b ≤ a → T a = none) (nσ : σ.1 = b + 1) (hs : qx_sh T σ b = (45, 0)) (h0 : ∀ j, qx_mi σ b j = nI 0) : qx_M G T 0 YX5_init [.ref b] σ (fun r s => r = none ∧ qh b σ s ∧ s.1 = b + 6 ∧ s.2.1 = σ.2.1 + 448 ∧ kz b [] s ∧ hS5 T s b) := by
  have mσ : σ.2.1 = σ.2.1 + 0 := rfl
  have qσ : qh b σ σ := qh.rf
  have zσ : kz b [] σ := fun a j h1 h2 _ => by rw [show a = b by omega]; exact h0 j
  refine qx_M_in rfl (Nat.le_of_ble_eq_true rfl) ?_
  refine qy_wp_ok (c := CX5_init) (cuts := [65]) vX5_init wX5_init 2000 0 _ _ _ ?_
  refine Exists.intro (nI 400) (And.intro rfl ?_)
  obtain ⟨σ1, eσ1⟩ : ∃ zs, zs = qx_al σ (0, 400) 400 := ⟨_, rfl⟩
  refine Exists.intro 400 (Exists.intro (b + 1) (Exists.intro σ1 (And.intro rfl (And.intro (by decide) (And.intro nσ (And.intro eσ1.symm ?_))))))
  have nσ1 : σ1.1 = b + 2 := ka_n1 eσ1 nσ
  have mσ1 : σ1.2.1 = σ.2.1 + 400 := ka_m1 eσ1 mσ
  have qσ1 := qσ.al eσ1 (kb_le nσ)
  have zσ1 := zσ.al eσ1
  have yσ1 : qx_sh T σ1 b = (45, 0) := (ka_s eσ1 (ka_ne0 nσ (by decide))).trans (hs)
  obtain ⟨σ2, eσ2⟩ : ∃ zs, zs = (qx_wr σ1 b 0 (some (b + 1))) := ⟨_, rfl⟩
  refine And.intro (by rw [show qx_sh T _ b = _ from yσ1]; rfl) (Exists.intro 0 (Exists.intro σ2 (And.intro rfl (And.intro eσ2.symm ?_))))
  have nσ2 : σ2.1 = b + 2 := (by rw [eσ2]; exact nσ1)
  have mσ2 : σ2.2.1 = σ.2.1 + 400 := (by rw [eσ2]; exact mσ1)
  have qσ2 := qσ1.wr eσ2 (Nat.le_refl _)
  have zσ2 := zσ1.wr eσ2
  have yσ2 : qx_sh T σ2 b = (45, 0) := (kw_s eσ2).trans (yσ1)
  refine Exists.intro (nI 12) (And.intro rfl ?_)
  obtain ⟨σ3, eσ3⟩ : ∃ zs, zs = qx_al σ2 (2, 12) 12 := ⟨_, rfl⟩
  refine Exists.intro 12 (Exists.intro (b + 2) (Exists.intro σ3 (And.intro rfl (And.intro (by decide) (And.intro nσ2 (And.intro eσ3.symm ?_))))))
  have nσ3 : σ3.1 = b + 3 := ka_n1 eσ3 nσ2
  have mσ3 : σ3.2.1 = σ.2.1 + 412 := ka_m1 eσ3 mσ2
  have qσ3 := qσ2.al eσ3 (kb_le nσ2)
  have zσ3 := zσ2.al eσ3
  have yσ3 : qx_sh T σ3 b = (45, 0) := (ka_s eσ3 (ka_ne0 nσ2 (by decide))).trans (yσ2)
  obtain ⟨σ4, eσ4⟩ : ∃ zs, zs = (qx_wr σ3 b 1 (some (b + 2))) := ⟨_, rfl⟩
  refine And.intro (by rw [show qx_sh T _ b = _ from yσ3]; rfl) (Exists.intro 1 (Exists.intro σ4 (And.intro rfl (And.intro eσ4.symm ?_))))
  have nσ4 : σ4.1 = b + 3 := (by rw [eσ4]; exact nσ3)
  have mσ4 : σ4.2.1 = σ.2.1 + 412 := (by rw [eσ4]; exact mσ3)
  have qσ4 := qσ3.wr eσ4 (Nat.le_refl _)
  have zσ4 := zσ3.wr eσ4
  have yσ4 : qx_sh T σ4 b = (45, 0) := (kw_s eσ4).trans (yσ3)
  refine Exists.intro (nI 12) (And.intro rfl ?_)
  obtain ⟨σ5, eσ5⟩ : ∃ zs, zs = qx_al σ4 (0, 12) 12 := ⟨_, rfl⟩
  refine Exists.intro 12 (Exists.intro (b + 3) (Exists.intro σ5 (And.intro rfl (And.intro (by decide) (And.intro nσ4 (And.intro eσ5.symm ?_))))))
  have nσ5 : σ5.1 = b + 4 := ka_n1 eσ5 nσ4
  have mσ5 : σ5.2.1 = σ.2.1 + 424 := ka_m1 eσ5 mσ4
  have qσ5 := qσ4.al eσ5 (kb_le nσ4)
  have zσ5 := zσ4.al eσ5
  have yσ5 : qx_sh T σ5 b = (45, 0) := (ka_s eσ5 (ka_ne0 nσ4 (by decide))).trans (yσ4)
  obtain ⟨σ6, eσ6⟩ : ∃ zs, zs = (qx_wr σ5 b 2 (some (b + 3))) := ⟨_, rfl⟩
  refine And.intro (by rw [show qx_sh T _ b = _ from yσ5]; rfl) (Exists.intro 2 (Exists.intro σ6 (And.intro rfl (And.intro eσ6.symm ?_))))
  have nσ6 : σ6.1 = b + 4 := (by rw [eσ6]; exact nσ5)
  have mσ6 : σ6.2.1 = σ.2.1 + 424 := (by rw [eσ6]; exact mσ5)
  have qσ6 := qσ5.wr eσ6 (Nat.le_refl _)
  have zσ6 := zσ5.wr eσ6
  have yσ6 : qx_sh T σ6 b = (45, 0) := (kw_s eσ6).trans (yσ5)
  refine Exists.intro (nI 12) (And.intro rfl ?_)
  obtain ⟨σ7, eσ7⟩ : ∃ zs, zs = qx_al σ6 (0, 12) 12 := ⟨_, rfl⟩
  refine Exists.intro 12 (Exists.intro (b + 4) (Exists.intro σ7 (And.intro rfl (And.intro (by decide) (And.intro nσ6 (And.intro eσ7.symm ?_))))))
  have nσ7 : σ7.1 = b + 5 := ka_n1 eσ7 nσ6
  have mσ7 : σ7.2.1 = σ.2.1 + 436 := ka_m1 eσ7 mσ6
  have qσ7 := qσ6.al eσ7 (kb_le nσ6)
  have zσ7 := zσ6.al eσ7
  have yσ7 : qx_sh T σ7 b = (45, 0) := (ka_s eσ7 (ka_ne0 nσ6 (by decide))).trans (yσ6)
  obtain ⟨σ8, eσ8⟩ : ∃ zs, zs = (qx_wr σ7 b 3 (some (b + 4))) := ⟨_, rfl⟩
  refine And.intro (by rw [show qx_sh T _ b = _ from yσ7]; rfl) (Exists.intro 3 (Exists.intro σ8 (And.intro rfl (And.intro eσ8.symm ?_))))
  have nσ8 : σ8.1 = b + 5 := (by rw [eσ8]; exact nσ7)
  have mσ8 : σ8.2.1 = σ.2.1 + 436 := (by rw [eσ8]; exact mσ7)
  have qσ8 := qσ7.wr eσ8 (Nat.le_refl _)
  have zσ8 := zσ7.wr eσ8
  have yσ8 : qx_sh T σ8 b = (45, 0) := (kw_s eσ8).trans (yσ7)
  refine Exists.intro (nI 12) (And.intro rfl ?_)
  obtain ⟨σ9, eσ9⟩ : ∃ zs, zs = qx_al σ8 (0, 12) 12 := ⟨_, rfl⟩
  refine Exists.intro 12 (Exists.intro (b + 5) (Exists.intro σ9 (And.intro rfl (And.intro (by decide) (And.intro nσ8 (And.intro eσ9.symm ?_))))))
  have nσ9 : σ9.1 = b + 6 := ka_n1 eσ9 nσ8
  have mσ9 : σ9.2.1 = σ.2.1 + 448 := ka_m1 eσ9 mσ8
  have qσ9 := qσ8.al eσ9 (kb_le nσ8)
  have zσ9 := zσ8.al eσ9
  have yσ9 : qx_sh T σ9 b = (45, 0) := (ka_s eσ9 (ka_ne0 nσ8 (by decide))).trans (yσ8)
  obtain ⟨σ10, eσ10⟩ : ∃ zs, zs = (qx_wr σ9 b 4 (some (b + 5))) := ⟨_, rfl⟩
  refine And.intro (by rw [show qx_sh T _ b = _ from yσ9]; rfl) (Exists.intro 4 (Exists.intro σ10 (And.intro rfl (And.intro eσ10.symm ?_))))
  have nσ10 : σ10.1 = b + 6 := (by rw [eσ10]; exact nσ9)
  have mσ10 : σ10.2.1 = σ.2.1 + 448 := (by rw [eσ10]; exact mσ9)
  have qσ10 := qσ9.wr eσ10 (Nat.le_refl _)
  have zσ10 := zσ9.wr eσ10
  have yσ10 : qx_sh T σ10 b = (45, 0) := (kw_s eσ10).trans (yσ9)
  refine Exists.intro (nI 0) (And.intro rfl ?_)
  obtain ⟨σ11, eσ11⟩ : ∃ zs, zs = (qx_wi σ10 b 5 (nI 0)) := ⟨_, rfl⟩
  refine And.intro (by rw [show qx_sh T _ b = _ from yσ10]; rfl) (Exists.intro 5 (Exists.intro σ11 (And.intro rfl (And.intro eσ11.symm ?_))))
  have nσ11 : σ11.1 = b + 6 := (by rw [eσ11]; exact nσ10)
  have mσ11 : σ11.2.1 = σ.2.1 + 448 := (by rw [eσ11]; exact mσ10)
  have qσ11 := qσ10.wi eσ11 (Nat.le_refl _)
  have zσ11 := zσ10.wi eσ11 (Or.inl rfl)
  have yσ11 : qx_sh T σ11 b = (45, 0) := (kx_s eσ11).trans (yσ10)
  refine Exists.intro (nI 0) (And.intro rfl ?_)
  obtain ⟨σ12, eσ12⟩ : ∃ zs, zs = (qx_wi σ11 b 6 (nI 0)) := ⟨_, rfl⟩
  refine And.intro (by rw [show qx_sh T _ b = _ from yσ11]; rfl) (Exists.intro 6 (Exists.intro σ12 (And.intro rfl (And.intro eσ12.symm ?_))))
  have nσ12 : σ12.1 = b + 6 := (by rw [eσ12]; exact nσ11)
  have mσ12 : σ12.2.1 = σ.2.1 + 448 := (by rw [eσ12]; exact mσ11)
  have qσ12 := qσ11.wi eσ12 (Nat.le_refl _)
  have zσ12 := zσ11.wi eσ12 (Or.inl rfl)
  have yσ12 : qx_sh T σ12 b = (45, 0) := (kx_s eσ12).trans (yσ11)
  refine Exists.intro (nI 0) (And.intro rfl ?_)
  obtain ⟨σ13, eσ13⟩ : ∃ zs, zs = (qx_wi σ12 b 7 (nI 0)) := ⟨_, rfl⟩
  refine And.intro (by rw [show qx_sh T _ b = _ from yσ12]; rfl) (Exists.intro 7 (Exists.intro σ13 (And.intro rfl (And.intro eσ13.symm ?_))))
  have nσ13 : σ13.1 = b + 6 := (by rw [eσ13]; exact nσ12)
  have mσ13 : σ13.2.1 = σ.2.1 + 448 := (by rw [eσ13]; exact mσ12)
  have qσ13 := qσ12.wi eσ13 (Nat.le_refl _)
  have zσ13 := zσ12.wi eσ13 (Or.inl rfl)
  have yσ13 : qx_sh T σ13 b = (45, 0) := (kx_s eσ13).trans (yσ12)
  refine Exists.intro (nI 0) (And.intro rfl ?_)
  obtain ⟨σ14, eσ14⟩ : ∃ zs, zs = (qx_wi σ13 b 8 (nI 0)) := ⟨_, rfl⟩
  refine And.intro (by rw [show qx_sh T _ b = _ from yσ13]; rfl) (And.intro (by decide) (Exists.intro 8 (Exists.intro σ14 (And.intro rfl (And.intro eσ14.symm ?_)))))
  have nσ14 : σ14.1 = b + 6 := (by rw [eσ14]; exact nσ13)
  have mσ14 : σ14.2.1 = σ.2.1 + 448 := (by rw [eσ14]; exact mσ13)
  have qσ14 := qσ13.wi eσ14 (Nat.le_refl _)
  have zσ14 := zσ13.wi eσ14 (Or.inl rfl)
  have yσ14 : qx_sh T σ14 b = (45, 0) := (kx_s eσ14).trans (yσ13)
  refine qx_K_le (ls := [.retAddr 0]) ⟨Or.inl rfl, trivial⟩ ?_
  refine qz_K (a := b) (ci := 5) hb (hT _ (Nat.le_refl _)) (kx_d (show qx_sh T σ14 b = (45, 0) from yσ14) (hT _ (Nat.le_refl _))) (by decide) (fun k => match k with | 0 => ⟨fun _ => ((kx_r eσ14).trans ((kx_r eσ13).trans ((kx_r eσ12).trans ((kx_r eσ11).trans ((kw_ne eσ10 (Or.inr (by decide))).trans ((ka_r eσ9 (ka_ne0 nσ8 (by decide))).trans ((kw_ne eσ8 (Or.inr (by decide))).trans ((ka_r eσ7 (ka_ne0 nσ6 (by decide))).trans ((kw_ne eσ6 (Or.inr (by decide))).trans ((ka_r eσ5 (ka_ne0 nσ4 (by decide))).trans ((kw_ne eσ4 (Or.inr (by decide))).trans ((ka_r eσ3 (ka_ne0 nσ2 (by decide))).trans (kw_eq eσ2))))))))))))), fun h => absurd h (by decide)⟩ | 1 => ⟨fun _ => ((kx_r eσ14).trans ((kx_r eσ13).trans ((kx_r eσ12).trans ((kx_r eσ11).trans ((kw_ne eσ10 (Or.inr (by decide))).trans ((ka_r eσ9 (ka_ne0 nσ8 (by decide))).trans ((kw_ne eσ8 (Or.inr (by decide))).trans ((ka_r eσ7 (ka_ne0 nσ6 (by decide))).trans ((kw_ne eσ6 (Or.inr (by decide))).trans ((ka_r eσ5 (ka_ne0 nσ4 (by decide))).trans (kw_eq eσ4))))))))))), fun h => absurd h (by decide)⟩ | 2 => ⟨fun _ => ((kx_r eσ14).trans ((kx_r eσ13).trans ((kx_r eσ12).trans ((kx_r eσ11).trans ((kw_ne eσ10 (Or.inr (by decide))).trans ((ka_r eσ9 (ka_ne0 nσ8 (by decide))).trans ((kw_ne eσ8 (Or.inr (by decide))).trans ((ka_r eσ7 (ka_ne0 nσ6 (by decide))).trans (kw_eq eσ6))))))))), fun h => absurd h (by decide)⟩ | 3 => ⟨fun _ => ((kx_r eσ14).trans ((kx_r eσ13).trans ((kx_r eσ12).trans ((kx_r eσ11).trans ((kw_ne eσ10 (Or.inr (by decide))).trans ((ka_r eσ9 (ka_ne0 nσ8 (by decide))).trans (kw_eq eσ8))))))), fun h => absurd h (by decide)⟩ | 4 => ⟨fun _ => ((kx_r eσ14).trans ((kx_r eσ13).trans ((kx_r eσ12).trans ((kx_r eσ11).trans (kw_eq eσ10))))), fun h => absurd h (by decide)⟩ | 5 => ⟨fun h => absurd h (by decide), fun h => absurd h (by decide)⟩ | 6 => ⟨fun h => absurd h (by decide), fun h => absurd h (by decide)⟩ | 7 => ⟨fun h => absurd h (by decide), fun h => absurd h (by decide)⟩ | 8 => ⟨fun h => absurd h (by decide), fun h => absurd h (by decide)⟩ | (k + 9) => ⟨fun h => absurd (show (9 : Nat) = 3 from h) (by decide), fun h => absurd (show (9 : Nat) = 4 from h) (by decide)⟩) ?_
  refine qy_wp_ok (c := CX5_init) (cuts := []) vX5_init wX5_init 2000 65 _ _ _ ?_
  exact ⟨rfl, qσ14.sl (Nat.le_refl _), nσ14, mσ14, zσ14.sl, qz_b (hT _ (Nat.le_refl _)), (qz_sh (by omega)).trans (show qx_sh T σ14 (b + 1) = (0, 400) from (kx_s eσ14).trans ((kx_s eσ13).trans ((kx_s eσ12).trans ((kx_s eσ11).trans ((kw_s eσ10).trans ((ka_s eσ9 (ka_ne nσ8 (by decide))).trans ((kw_s eσ8).trans ((ka_s eσ7 (ka_ne nσ6 (by decide))).trans ((kw_s eσ6).trans ((ka_s eσ5 (ka_ne nσ4 (by decide))).trans ((kw_s eσ4).trans ((ka_s eσ3 (ka_ne nσ2 (by decide))).trans ((kw_s eσ2).trans (ka_n eσ1 nσ (hT _ (Nat.le_add_right _ _)))))))))))))))), (qz_sh (by omega)).trans (show qx_sh T σ14 (b + 2) = (2, 12) from (kx_s eσ14).trans ((kx_s eσ13).trans ((kx_s eσ12).trans ((kx_s eσ11).trans ((kw_s eσ10).trans ((ka_s eσ9 (ka_ne nσ8 (by decide))).trans ((kw_s eσ8).trans ((ka_s eσ7 (ka_ne nσ6 (by decide))).trans ((kw_s eσ6).trans ((ka_s eσ5 (ka_ne nσ4 (by decide))).trans ((kw_s eσ4).trans (ka_n eσ3 nσ2 (hT _ (Nat.le_add_right _ _)))))))))))))), (qz_sh (by omega)).trans (show qx_sh T σ14 (b + 3) = (0, 12) from (kx_s eσ14).trans ((kx_s eσ13).trans ((kx_s eσ12).trans ((kx_s eσ11).trans ((kw_s eσ10).trans ((ka_s eσ9 (ka_ne nσ8 (by decide))).trans ((kw_s eσ8).trans ((ka_s eσ7 (ka_ne nσ6 (by decide))).trans ((kw_s eσ6).trans (ka_n eσ5 nσ4 (hT _ (Nat.le_add_right _ _)))))))))))), (qz_sh (by omega)).trans (show qx_sh T σ14 (b + 4) = (0, 12) from (kx_s eσ14).trans ((kx_s eσ13).trans ((kx_s eσ12).trans ((kx_s eσ11).trans ((kw_s eσ10).trans ((ka_s eσ9 (ka_ne nσ8 (by decide))).trans ((kw_s eσ8).trans (ka_n eσ7 nσ6 (hT _ (Nat.le_add_right _ _)))))))))), (qz_sh (by omega)).trans (show qx_sh T σ14 (b + 5) = (0, 12) from (kx_s eσ14).trans ((kx_s eσ13).trans ((kx_s eσ12).trans ((kx_s eσ11).trans ((kw_s eσ10).trans (ka_n eσ9 nσ8 (hT _ (Nat.le_add_right _ _))))))))⟩
def hS9 (T : qx_T) (s : qx_S) (b : Nat) : Prop := qx_sh T s b = (17, 0) ∧ qx_sh T s (b + 1) = (1, 400) ∧ qx_sh T s (b + 2) = (0, 401) ∧ qx_sh T s (b + 3) = (0, 401) ∧ qx_sh T s (b + 4) = (0, 401)
theorem c_i9 {G : qx_G} {T : qx_T} {σ : qx_S} {b : Nat} (hb : 3 ≤ b) (hT : ∀ a, b ≤ a → T a = none) (nσ : σ.1 = b + 1) (hs : qx_sh T σ b = (49, 0)) (h0 : ∀ j, qx_mi σ b j = nI 0) : qx_M G T 0 YX9_init [.ref b] σ (fun r s => r = none ∧ qh b σ s ∧ s.1 = b + 5 ∧ s.2.1 = σ.2.1 + 1603 ∧ kz b [] s ∧ hS9 T s b) := by
  have mσ : σ.2.1 = σ.2.1 + 0 := rfl
  have qσ : qh b σ σ := qh.rf
  have zσ : kz b [] σ := fun a j h1 h2 _ => by rw [show a = b by omega]; exact h0 j
  refine qx_M_in rfl (Nat.le_of_ble_eq_true rfl) ?_
  refine qy_wp_ok (c := CX9_init) (cuts := [60]) vX9_init wX9_init 2000 0 _ _ _ ?_
  refine Exists.intro (nI 400) (And.intro rfl ?_)
  obtain ⟨σ1, eσ1⟩ : ∃ zs, zs = qx_al σ (1, 400) 400 := ⟨_, rfl⟩
  refine Exists.intro 400 (Exists.intro (b + 1) (Exists.intro σ1 (And.intro rfl (And.intro (by decide) (And.intro nσ (And.intro eσ1.symm ?_))))))
  have nσ1 : σ1.1 = b + 2 := ka_n1 eσ1 nσ
  have mσ1 : σ1.2.1 = σ.2.1 + 400 := ka_m1 eσ1 mσ
  have qσ1 := qσ.al eσ1 (kb_le nσ)
  have zσ1 := zσ.al eσ1
  have yσ1 : qx_sh T σ1 b = (49, 0) := (ka_s eσ1 (ka_ne0 nσ (by decide))).trans (hs)
  obtain ⟨σ2, eσ2⟩ : ∃ zs, zs = (qx_wr σ1 b 0 (some (b + 1))) := ⟨_, rfl⟩
  refine And.intro (by rw [show qx_sh T _ b = _ from yσ1]; rfl) (Exists.intro 0 (Exists.intro σ2 (And.intro rfl (And.intro eσ2.symm ?_))))
  have nσ2 : σ2.1 = b + 2 := (by rw [eσ2]; exact nσ1)
  have mσ2 : σ2.2.1 = σ.2.1 + 400 := (by rw [eσ2]; exact mσ1)
  have qσ2 := qσ1.wr eσ2 (Nat.le_refl _)
  have zσ2 := zσ1.wr eσ2
  have yσ2 : qx_sh T σ2 b = (49, 0) := (kw_s eσ2).trans (yσ1)
  refine Exists.intro (nI 401) (And.intro rfl ?_)
  obtain ⟨σ3, eσ3⟩ : ∃ zs, zs = qx_al σ2 (0, 401) 401 := ⟨_, rfl⟩
  refine Exists.intro 401 (Exists.intro (b + 2) (Exists.intro σ3 (And.intro rfl (And.intro (by decide) (And.intro nσ2 (And.intro eσ3.symm ?_))))))
  have nσ3 : σ3.1 = b + 3 := ka_n1 eσ3 nσ2
  have mσ3 : σ3.2.1 = σ.2.1 + 801 := ka_m1 eσ3 mσ2
  have qσ3 := qσ2.al eσ3 (kb_le nσ2)
  have zσ3 := zσ2.al eσ3
  have yσ3 : qx_sh T σ3 b = (49, 0) := (ka_s eσ3 (ka_ne0 nσ2 (by decide))).trans (yσ2)
  obtain ⟨σ4, eσ4⟩ : ∃ zs, zs = (qx_wr σ3 b 1 (some (b + 2))) := ⟨_, rfl⟩
  refine And.intro (by rw [show qx_sh T _ b = _ from yσ3]; rfl) (Exists.intro 1 (Exists.intro σ4 (And.intro rfl (And.intro eσ4.symm ?_))))
  have nσ4 : σ4.1 = b + 3 := (by rw [eσ4]; exact nσ3)
  have mσ4 : σ4.2.1 = σ.2.1 + 801 := (by rw [eσ4]; exact mσ3)
  have qσ4 := qσ3.wr eσ4 (Nat.le_refl _)
  have zσ4 := zσ3.wr eσ4
  have yσ4 : qx_sh T σ4 b = (49, 0) := (kw_s eσ4).trans (yσ3)
  refine Exists.intro (nI 401) (And.intro rfl ?_)
  obtain ⟨σ5, eσ5⟩ : ∃ zs, zs = qx_al σ4 (0, 401) 401 := ⟨_, rfl⟩
  refine Exists.intro 401 (Exists.intro (b + 3) (Exists.intro σ5 (And.intro rfl (And.intro (by decide) (And.intro nσ4 (And.intro eσ5.symm ?_))))))
  have nσ5 : σ5.1 = b + 4 := ka_n1 eσ5 nσ4
  have mσ5 : σ5.2.1 = σ.2.1 + 1202 := ka_m1 eσ5 mσ4
  have qσ5 := qσ4.al eσ5 (kb_le nσ4)
  have zσ5 := zσ4.al eσ5
  have yσ5 : qx_sh T σ5 b = (49, 0) := (ka_s eσ5 (ka_ne0 nσ4 (by decide))).trans (yσ4)
  obtain ⟨σ6, eσ6⟩ : ∃ zs, zs = (qx_wr σ5 b 2 (some (b + 3))) := ⟨_, rfl⟩
  refine And.intro (by rw [show qx_sh T _ b = _ from yσ5]; rfl) (Exists.intro 2 (Exists.intro σ6 (And.intro rfl (And.intro eσ6.symm ?_))))
  have nσ6 : σ6.1 = b + 4 := (by rw [eσ6]; exact nσ5)
  have mσ6 : σ6.2.1 = σ.2.1 + 1202 := (by rw [eσ6]; exact mσ5)
  have qσ6 := qσ5.wr eσ6 (Nat.le_refl _)
  have zσ6 := zσ5.wr eσ6
  have yσ6 : qx_sh T σ6 b = (49, 0) := (kw_s eσ6).trans (yσ5)
  refine Exists.intro (nI 401) (And.intro rfl ?_)
  obtain ⟨σ7, eσ7⟩ : ∃ zs, zs = qx_al σ6 (0, 401) 401 := ⟨_, rfl⟩
  refine Exists.intro 401 (Exists.intro (b + 4) (Exists.intro σ7 (And.intro rfl (And.intro (by decide) (And.intro nσ6 (And.intro eσ7.symm ?_))))))
  have nσ7 : σ7.1 = b + 5 := ka_n1 eσ7 nσ6
  have mσ7 : σ7.2.1 = σ.2.1 + 1603 := ka_m1 eσ7 mσ6
  have qσ7 := qσ6.al eσ7 (kb_le nσ6)
  have zσ7 := zσ6.al eσ7
  have yσ7 : qx_sh T σ7 b = (49, 0) := (ka_s eσ7 (ka_ne0 nσ6 (by decide))).trans (yσ6)
  obtain ⟨σ8, eσ8⟩ : ∃ zs, zs = (qx_wr σ7 b 3 (some (b + 4))) := ⟨_, rfl⟩
  refine And.intro (by rw [show qx_sh T _ b = _ from yσ7]; rfl) (Exists.intro 3 (Exists.intro σ8 (And.intro rfl (And.intro eσ8.symm ?_))))
  have nσ8 : σ8.1 = b + 5 := (by rw [eσ8]; exact nσ7)
  have mσ8 : σ8.2.1 = σ.2.1 + 1603 := (by rw [eσ8]; exact mσ7)
  have qσ8 := qσ7.wr eσ8 (Nat.le_refl _)
  have zσ8 := zσ7.wr eσ8
  have yσ8 : qx_sh T σ8 b = (49, 0) := (kw_s eσ8).trans (yσ7)
  refine Exists.intro (nI 0) (And.intro rfl ?_)
  obtain ⟨σ9, eσ9⟩ : ∃ zs, zs = (qx_wi σ8 b 4 (nI 0)) := ⟨_, rfl⟩
  refine And.intro (by rw [show qx_sh T _ b = _ from yσ8]; rfl) (Exists.intro 4 (Exists.intro σ9 (And.intro rfl (And.intro eσ9.symm ?_))))
  have nσ9 : σ9.1 = b + 5 := (by rw [eσ9]; exact nσ8)
  have mσ9 : σ9.2.1 = σ.2.1 + 1603 := (by rw [eσ9]; exact mσ8)
  have qσ9 := qσ8.wi eσ9 (Nat.le_refl _)
  have zσ9 := zσ8.wi eσ9 (Or.inl rfl)
  have yσ9 : qx_sh T σ9 b = (49, 0) := (kx_s eσ9).trans (yσ8)
  refine Exists.intro (nI 0) (And.intro rfl ?_)
  obtain ⟨σ10, eσ10⟩ : ∃ zs, zs = (qx_wi σ9 b 5 (nI 0)) := ⟨_, rfl⟩
  refine And.intro (by rw [show qx_sh T _ b = _ from yσ9]; rfl) (Exists.intro 5 (Exists.intro σ10 (And.intro rfl (And.intro eσ10.symm ?_))))
  have nσ10 : σ10.1 = b + 5 := (by rw [eσ10]; exact nσ9)
  have mσ10 : σ10.2.1 = σ.2.1 + 1603 := (by rw [eσ10]; exact mσ9)
  have qσ10 := qσ9.wi eσ10 (Nat.le_refl _)
  have zσ10 := zσ9.wi eσ10 (Or.inl rfl)
  have yσ10 : qx_sh T σ10 b = (49, 0) := (kx_s eσ10).trans (yσ9)
  refine Exists.intro (nI 0) (And.intro rfl ?_)
  obtain ⟨σ11, eσ11⟩ : ∃ zs, zs = (qx_wi σ10 b 6 (nI 0)) := ⟨_, rfl⟩
  refine And.intro (by rw [show qx_sh T _ b = _ from yσ10]; rfl) (Exists.intro 6 (Exists.intro σ11 (And.intro rfl (And.intro eσ11.symm ?_))))
  have nσ11 : σ11.1 = b + 5 := (by rw [eσ11]; exact nσ10)
  have mσ11 : σ11.2.1 = σ.2.1 + 1603 := (by rw [eσ11]; exact mσ10)
  have qσ11 := qσ10.wi eσ11 (Nat.le_refl _)
  have zσ11 := zσ10.wi eσ11 (Or.inl rfl)
  have yσ11 : qx_sh T σ11 b = (49, 0) := (kx_s eσ11).trans (yσ10)
  refine Exists.intro (nI 0) (And.intro rfl ?_)
  obtain ⟨σ12, eσ12⟩ : ∃ zs, zs = (qx_wi σ11 b 7 (nI 0)) := ⟨_, rfl⟩
  refine And.intro (by rw [show qx_sh T _ b = _ from yσ11]; rfl) (Exists.intro 7 (Exists.intro σ12 (And.intro rfl (And.intro eσ12.symm ?_))))
  have nσ12 : σ12.1 = b + 5 := (by rw [eσ12]; exact nσ11)
  have mσ12 : σ12.2.1 = σ.2.1 + 1603 := (by rw [eσ12]; exact mσ11)
  have qσ12 := qσ11.wi eσ12 (Nat.le_refl _)
  have zσ12 := zσ11.wi eσ12 (Or.inl rfl)
  have yσ12 : qx_sh T σ12 b = (49, 0) := (kx_s eσ12).trans (yσ11)
  refine qx_K_le (ls := [.retAddr 0]) ⟨Or.inl rfl, trivial⟩ ?_
  refine qz_K (a := b) (ci := 9) hb (hT _ (Nat.le_refl _)) (kx_d (show qx_sh T σ12 b = (49, 0) from yσ12) (hT _ (Nat.le_refl _))) (by decide) (fun k => match k with | 0 => ⟨fun _ => ((kx_r eσ12).trans ((kx_r eσ11).trans ((kx_r eσ10).trans ((kx_r eσ9).trans ((kw_ne eσ8 (Or.inr (by decide))).trans ((ka_r eσ7 (ka_ne0 nσ6 (by decide))).trans ((kw_ne eσ6 (Or.inr (by decide))).trans ((ka_r eσ5 (ka_ne0 nσ4 (by decide))).trans ((kw_ne eσ4 (Or.inr (by decide))).trans ((ka_r eσ3 (ka_ne0 nσ2 (by decide))).trans (kw_eq eσ2))))))))))), fun h => absurd h (by decide)⟩ | 1 => ⟨fun _ => ((kx_r eσ12).trans ((kx_r eσ11).trans ((kx_r eσ10).trans ((kx_r eσ9).trans ((kw_ne eσ8 (Or.inr (by decide))).trans ((ka_r eσ7 (ka_ne0 nσ6 (by decide))).trans ((kw_ne eσ6 (Or.inr (by decide))).trans ((ka_r eσ5 (ka_ne0 nσ4 (by decide))).trans (kw_eq eσ4))))))))), fun h => absurd h (by decide)⟩ | 2 => ⟨fun _ => ((kx_r eσ12).trans ((kx_r eσ11).trans ((kx_r eσ10).trans ((kx_r eσ9).trans ((kw_ne eσ8 (Or.inr (by decide))).trans ((ka_r eσ7 (ka_ne0 nσ6 (by decide))).trans (kw_eq eσ6))))))), fun h => absurd h (by decide)⟩ | 3 => ⟨fun _ => ((kx_r eσ12).trans ((kx_r eσ11).trans ((kx_r eσ10).trans ((kx_r eσ9).trans (kw_eq eσ8))))), fun h => absurd h (by decide)⟩ | 4 => ⟨fun h => absurd h (by decide), fun h => absurd h (by decide)⟩ | 5 => ⟨fun h => absurd h (by decide), fun h => absurd h (by decide)⟩ | 6 => ⟨fun h => absurd h (by decide), fun h => absurd h (by decide)⟩ | 7 => ⟨fun h => absurd h (by decide), fun h => absurd h (by decide)⟩ | (k + 8) => ⟨fun h => absurd (show (9 : Nat) = 3 from h) (by decide), fun h => absurd (show (9 : Nat) = 4 from h) (by decide)⟩) ?_
  refine qy_wp_ok (c := CX9_init) (cuts := []) vX9_init wX9_init 2000 60 _ _ _ ?_
  exact ⟨rfl, qσ12.sl (Nat.le_refl _), nσ12, mσ12, zσ12.sl, qz_b (hT _ (Nat.le_refl _)), (qz_sh (by omega)).trans (show qx_sh T σ12 (b + 1) = (1, 400) from (kx_s eσ12).trans ((kx_s eσ11).trans ((kx_s eσ10).trans ((kx_s eσ9).trans ((kw_s eσ8).trans ((ka_s eσ7 (ka_ne nσ6 (by decide))).trans ((kw_s eσ6).trans ((ka_s eσ5 (ka_ne nσ4 (by decide))).trans ((kw_s eσ4).trans ((ka_s eσ3 (ka_ne nσ2 (by decide))).trans ((kw_s eσ2).trans (ka_n eσ1 nσ (hT _ (Nat.le_add_right _ _)))))))))))))), (qz_sh (by omega)).trans (show qx_sh T σ12 (b + 2) = (0, 401) from (kx_s eσ12).trans ((kx_s eσ11).trans ((kx_s eσ10).trans ((kx_s eσ9).trans ((kw_s eσ8).trans ((ka_s eσ7 (ka_ne nσ6 (by decide))).trans ((kw_s eσ6).trans ((ka_s eσ5 (ka_ne nσ4 (by decide))).trans ((kw_s eσ4).trans (ka_n eσ3 nσ2 (hT _ (Nat.le_add_right _ _)))))))))))), (qz_sh (by omega)).trans (show qx_sh T σ12 (b + 3) = (0, 401) from (kx_s eσ12).trans ((kx_s eσ11).trans ((kx_s eσ10).trans ((kx_s eσ9).trans ((kw_s eσ8).trans ((ka_s eσ7 (ka_ne nσ6 (by decide))).trans ((kw_s eσ6).trans (ka_n eσ5 nσ4 (hT _ (Nat.le_add_right _ _)))))))))), (qz_sh (by omega)).trans (show qx_sh T σ12 (b + 4) = (0, 401) from (kx_s eσ12).trans ((kx_s eσ11).trans ((kx_s eσ10).trans ((kx_s eσ9).trans ((kw_s eσ8).trans (ka_n eσ7 nσ6 (hT _ (Nat.le_add_right _ _))))))))⟩
def hS6 (T : qx_T) (s : qx_S) (b : Nat) : Prop := qx_sh T s b = (14, 0) ∧ qx_sh T s (b + 1) = (0, 2001) ∧ qx_sh T s (b + 2) = (0, 2001) ∧ qx_sh T s (b + 3) = (0, 2001) ∧ qx_sh T s (b + 4) = (0, 2001) ∧ qx_sh T s (b + 5) = (0, 2001) ∧ qx_sh T s (b + 6) = (0, 4096)
theorem c_i6 {G : qx_G} {T : qx_T} {σ : qx_S} {b : Nat} (hb : 3 ≤ b) (hT : ∀ a, b ≤ a → T a = none) (nσ : σ.1 = b + 1) (hs : qx_sh T σ b = (46, 0)) (h0 : ∀ j, qx_mi σ b j = nI 0) : qx_M G T 0 YX6_init [.ref b, .ref 156] σ (fun r s => r = none ∧ qh b σ s ∧ s.1 = b + 7 ∧ s.2.1 = σ.2.1 + 14101 ∧ kz b [] s ∧ hS6 T s b) := by
  have mσ : σ.2.1 = σ.2.1 + 0 := rfl
  have qσ : qh b σ σ := qh.rf
  have zσ : kz b [] σ := fun a j h1 h2 _ => by rw [show a = b by omega]; exact h0 j
  refine qx_M_in rfl (Nat.le_of_ble_eq_true rfl) ?_
  refine qy_wp_ok (c := CX6_init) (cuts := [78]) vX6_init wX6_init 2000 0 _ _ _ ?_
  refine Exists.intro (nI 2001) (And.intro rfl ?_)
  obtain ⟨σ1, eσ1⟩ : ∃ zs, zs = qx_al σ (0, 2001) 2001 := ⟨_, rfl⟩
  refine Exists.intro 2001 (Exists.intro (b + 1) (Exists.intro σ1 (And.intro rfl (And.intro (by decide) (And.intro nσ (And.intro eσ1.symm ?_))))))
  have nσ1 : σ1.1 = b + 2 := ka_n1 eσ1 nσ
  have mσ1 : σ1.2.1 = σ.2.1 + 2001 := ka_m1 eσ1 mσ
  have qσ1 := qσ.al eσ1 (kb_le nσ)
  have zσ1 := zσ.al eσ1
  have yσ1 : qx_sh T σ1 b = (46, 0) := (ka_s eσ1 (ka_ne0 nσ (by decide))).trans (hs)
  obtain ⟨σ2, eσ2⟩ : ∃ zs, zs = (qx_wr σ1 b 1 (some (b + 1))) := ⟨_, rfl⟩
  refine And.intro (by rw [show qx_sh T _ b = _ from yσ1]; rfl) (Exists.intro 1 (Exists.intro σ2 (And.intro rfl (And.intro eσ2.symm ?_))))
  have nσ2 : σ2.1 = b + 2 := (by rw [eσ2]; exact nσ1)
  have mσ2 : σ2.2.1 = σ.2.1 + 2001 := (by rw [eσ2]; exact mσ1)
  have qσ2 := qσ1.wr eσ2 (Nat.le_refl _)
  have zσ2 := zσ1.wr eσ2
  have yσ2 : qx_sh T σ2 b = (46, 0) := (kw_s eσ2).trans (yσ1)
  refine Exists.intro (nI 2001) (And.intro rfl ?_)
  obtain ⟨σ3, eσ3⟩ : ∃ zs, zs = qx_al σ2 (0, 2001) 2001 := ⟨_, rfl⟩
  refine Exists.intro 2001 (Exists.intro (b + 2) (Exists.intro σ3 (And.intro rfl (And.intro (by decide) (And.intro nσ2 (And.intro eσ3.symm ?_))))))
  have nσ3 : σ3.1 = b + 3 := ka_n1 eσ3 nσ2
  have mσ3 : σ3.2.1 = σ.2.1 + 4002 := ka_m1 eσ3 mσ2
  have qσ3 := qσ2.al eσ3 (kb_le nσ2)
  have zσ3 := zσ2.al eσ3
  have yσ3 : qx_sh T σ3 b = (46, 0) := (ka_s eσ3 (ka_ne0 nσ2 (by decide))).trans (yσ2)
  obtain ⟨σ4, eσ4⟩ : ∃ zs, zs = (qx_wr σ3 b 2 (some (b + 2))) := ⟨_, rfl⟩
  refine And.intro (by rw [show qx_sh T _ b = _ from yσ3]; rfl) (Exists.intro 2 (Exists.intro σ4 (And.intro rfl (And.intro eσ4.symm ?_))))
  have nσ4 : σ4.1 = b + 3 := (by rw [eσ4]; exact nσ3)
  have mσ4 : σ4.2.1 = σ.2.1 + 4002 := (by rw [eσ4]; exact mσ3)
  have qσ4 := qσ3.wr eσ4 (Nat.le_refl _)
  have zσ4 := zσ3.wr eσ4
  have yσ4 : qx_sh T σ4 b = (46, 0) := (kw_s eσ4).trans (yσ3)
  refine Exists.intro (nI 2001) (And.intro rfl ?_)
  obtain ⟨σ5, eσ5⟩ : ∃ zs, zs = qx_al σ4 (0, 2001) 2001 := ⟨_, rfl⟩
  refine Exists.intro 2001 (Exists.intro (b + 3) (Exists.intro σ5 (And.intro rfl (And.intro (by decide) (And.intro nσ4 (And.intro eσ5.symm ?_))))))
  have nσ5 : σ5.1 = b + 4 := ka_n1 eσ5 nσ4
  have mσ5 : σ5.2.1 = σ.2.1 + 6003 := ka_m1 eσ5 mσ4
  have qσ5 := qσ4.al eσ5 (kb_le nσ4)
  have zσ5 := zσ4.al eσ5
  have yσ5 : qx_sh T σ5 b = (46, 0) := (ka_s eσ5 (ka_ne0 nσ4 (by decide))).trans (yσ4)
  obtain ⟨σ6, eσ6⟩ : ∃ zs, zs = (qx_wr σ5 b 3 (some (b + 3))) := ⟨_, rfl⟩
  refine And.intro (by rw [show qx_sh T _ b = _ from yσ5]; rfl) (Exists.intro 3 (Exists.intro σ6 (And.intro rfl (And.intro eσ6.symm ?_))))
  have nσ6 : σ6.1 = b + 4 := (by rw [eσ6]; exact nσ5)
  have mσ6 : σ6.2.1 = σ.2.1 + 6003 := (by rw [eσ6]; exact mσ5)
  have qσ6 := qσ5.wr eσ6 (Nat.le_refl _)
  have zσ6 := zσ5.wr eσ6
  have yσ6 : qx_sh T σ6 b = (46, 0) := (kw_s eσ6).trans (yσ5)
  refine Exists.intro (nI 2001) (And.intro rfl ?_)
  obtain ⟨σ7, eσ7⟩ : ∃ zs, zs = qx_al σ6 (0, 2001) 2001 := ⟨_, rfl⟩
  refine Exists.intro 2001 (Exists.intro (b + 4) (Exists.intro σ7 (And.intro rfl (And.intro (by decide) (And.intro nσ6 (And.intro eσ7.symm ?_))))))
  have nσ7 : σ7.1 = b + 5 := ka_n1 eσ7 nσ6
  have mσ7 : σ7.2.1 = σ.2.1 + 8004 := ka_m1 eσ7 mσ6
  have qσ7 := qσ6.al eσ7 (kb_le nσ6)
  have zσ7 := zσ6.al eσ7
  have yσ7 : qx_sh T σ7 b = (46, 0) := (ka_s eσ7 (ka_ne0 nσ6 (by decide))).trans (yσ6)
  obtain ⟨σ8, eσ8⟩ : ∃ zs, zs = (qx_wr σ7 b 4 (some (b + 4))) := ⟨_, rfl⟩
  refine And.intro (by rw [show qx_sh T _ b = _ from yσ7]; rfl) (Exists.intro 4 (Exists.intro σ8 (And.intro rfl (And.intro eσ8.symm ?_))))
  have nσ8 : σ8.1 = b + 5 := (by rw [eσ8]; exact nσ7)
  have mσ8 : σ8.2.1 = σ.2.1 + 8004 := (by rw [eσ8]; exact mσ7)
  have qσ8 := qσ7.wr eσ8 (Nat.le_refl _)
  have zσ8 := zσ7.wr eσ8
  have yσ8 : qx_sh T σ8 b = (46, 0) := (kw_s eσ8).trans (yσ7)
  refine Exists.intro (nI 2001) (And.intro rfl ?_)
  obtain ⟨σ9, eσ9⟩ : ∃ zs, zs = qx_al σ8 (0, 2001) 2001 := ⟨_, rfl⟩
  refine Exists.intro 2001 (Exists.intro (b + 5) (Exists.intro σ9 (And.intro rfl (And.intro (by decide) (And.intro nσ8 (And.intro eσ9.symm ?_))))))
  have nσ9 : σ9.1 = b + 6 := ka_n1 eσ9 nσ8
  have mσ9 : σ9.2.1 = σ.2.1 + 10005 := ka_m1 eσ9 mσ8
  have qσ9 := qσ8.al eσ9 (kb_le nσ8)
  have zσ9 := zσ8.al eσ9
  have yσ9 : qx_sh T σ9 b = (46, 0) := (ka_s eσ9 (ka_ne0 nσ8 (by decide))).trans (yσ8)
  obtain ⟨σ10, eσ10⟩ : ∃ zs, zs = (qx_wr σ9 b 5 (some (b + 5))) := ⟨_, rfl⟩
  refine And.intro (by rw [show qx_sh T _ b = _ from yσ9]; rfl) (Exists.intro 5 (Exists.intro σ10 (And.intro rfl (And.intro eσ10.symm ?_))))
  have nσ10 : σ10.1 = b + 6 := (by rw [eσ10]; exact nσ9)
  have mσ10 : σ10.2.1 = σ.2.1 + 10005 := (by rw [eσ10]; exact mσ9)
  have qσ10 := qσ9.wr eσ10 (Nat.le_refl _)
  have zσ10 := zσ9.wr eσ10
  have yσ10 : qx_sh T σ10 b = (46, 0) := (kw_s eσ10).trans (yσ9)
  refine Exists.intro (nI 4096) (And.intro rfl ?_)
  obtain ⟨σ11, eσ11⟩ : ∃ zs, zs = qx_al σ10 (0, 4096) 4096 := ⟨_, rfl⟩
  refine Exists.intro 4096 (Exists.intro (b + 6) (Exists.intro σ11 (And.intro rfl (And.intro (by decide) (And.intro nσ10 (And.intro eσ11.symm ?_))))))
  have nσ11 : σ11.1 = b + 7 := ka_n1 eσ11 nσ10
  have mσ11 : σ11.2.1 = σ.2.1 + 14101 := ka_m1 eσ11 mσ10
  have qσ11 := qσ10.al eσ11 (kb_le nσ10)
  have zσ11 := zσ10.al eσ11
  have yσ11 : qx_sh T σ11 b = (46, 0) := (ka_s eσ11 (ka_ne0 nσ10 (by decide))).trans (yσ10)
  obtain ⟨σ12, eσ12⟩ : ∃ zs, zs = (qx_wr σ11 b 6 (some (b + 6))) := ⟨_, rfl⟩
  refine And.intro (by rw [show qx_sh T _ b = _ from yσ11]; rfl) (Exists.intro 6 (Exists.intro σ12 (And.intro rfl (And.intro eσ12.symm ?_))))
  have nσ12 : σ12.1 = b + 7 := (by rw [eσ12]; exact nσ11)
  have mσ12 : σ12.2.1 = σ.2.1 + 14101 := (by rw [eσ12]; exact mσ11)
  have qσ12 := qσ11.wr eσ12 (Nat.le_refl _)
  have zσ12 := zσ11.wr eσ12
  have yσ12 : qx_sh T σ12 b = (46, 0) := (kw_s eσ12).trans (yσ11)
  refine Exists.intro (nI 0) (And.intro rfl ?_)
  obtain ⟨σ13, eσ13⟩ : ∃ zs, zs = (qx_wi σ12 b 7 (nI 0)) := ⟨_, rfl⟩
  refine And.intro (by rw [show qx_sh T _ b = _ from yσ12]; rfl) (Exists.intro 7 (Exists.intro σ13 (And.intro rfl (And.intro eσ13.symm ?_))))
  have nσ13 : σ13.1 = b + 7 := (by rw [eσ13]; exact nσ12)
  have mσ13 : σ13.2.1 = σ.2.1 + 14101 := (by rw [eσ13]; exact mσ12)
  have qσ13 := qσ12.wi eσ13 (Nat.le_refl _)
  have zσ13 := zσ12.wi eσ13 (Or.inl rfl)
  have yσ13 : qx_sh T σ13 b = (46, 0) := (kx_s eσ13).trans (yσ12)
  refine Exists.intro (nI 0) (And.intro rfl ?_)
  obtain ⟨σ14, eσ14⟩ : ∃ zs, zs = (qx_wi σ13 b 8 (nI 0)) := ⟨_, rfl⟩
  refine And.intro (by rw [show qx_sh T _ b = _ from yσ13]; rfl) (Exists.intro 8 (Exists.intro σ14 (And.intro rfl (And.intro eσ14.symm ?_))))
  have nσ14 : σ14.1 = b + 7 := (by rw [eσ14]; exact nσ13)
  have mσ14 : σ14.2.1 = σ.2.1 + 14101 := (by rw [eσ14]; exact mσ13)
  have qσ14 := qσ13.wi eσ14 (Nat.le_refl _)
  have zσ14 := zσ13.wi eσ14 (Or.inl rfl)
  have yσ14 : qx_sh T σ14 b = (46, 0) := (kx_s eσ14).trans (yσ13)
  refine Exists.intro (nI 0) (And.intro rfl ?_)
  obtain ⟨σ15, eσ15⟩ : ∃ zs, zs = (qx_wi σ14 b 9 (nI 0)) := ⟨_, rfl⟩
  refine And.intro (by rw [show qx_sh T _ b = _ from yσ14]; rfl) (Exists.intro 9 (Exists.intro σ15 (And.intro rfl (And.intro eσ15.symm ?_))))
  have nσ15 : σ15.1 = b + 7 := (by rw [eσ15]; exact nσ14)
  have mσ15 : σ15.2.1 = σ.2.1 + 14101 := (by rw [eσ15]; exact mσ14)
  have qσ15 := qσ14.wi eσ15 (Nat.le_refl _)
  have zσ15 := zσ14.wi eσ15 (Or.inl rfl)
  have yσ15 : qx_sh T σ15 b = (46, 0) := (kx_s eσ15).trans (yσ14)
  obtain ⟨σ16, eσ16⟩ : ∃ zs, zs = (qx_wr σ15 b 0 (some 156)) := ⟨_, rfl⟩
  refine And.intro (by rw [show qx_sh T _ b = _ from yσ15]; rfl) (Exists.intro 0 (Exists.intro σ16 (And.intro rfl (And.intro eσ16.symm ?_))))
  have nσ16 : σ16.1 = b + 7 := (by rw [eσ16]; exact nσ15)
  have mσ16 : σ16.2.1 = σ.2.1 + 14101 := (by rw [eσ16]; exact mσ15)
  have qσ16 := qσ15.wr eσ16 (Nat.le_refl _)
  have zσ16 := zσ15.wr eσ16
  have yσ16 : qx_sh T σ16 b = (46, 0) := (kw_s eσ16).trans (yσ15)
  refine qx_K_le (ls := [.retAddr 0, .retAddr 0]) ⟨Or.inl rfl, Or.inl rfl, trivial⟩ ?_
  refine qz_K (a := b) (ci := 6) hb (hT _ (Nat.le_refl _)) (kx_d (show qx_sh T σ16 b = (46, 0) from yσ16) (hT _ (Nat.le_refl _))) (by decide) (fun k => match k with | 0 => ⟨fun h => absurd h (by decide), fun _ => (kw_eq eσ16)⟩ | 1 => ⟨fun _ => ((kw_ne eσ16 (Or.inr (by decide))).trans ((kx_r eσ15).trans ((kx_r eσ14).trans ((kx_r eσ13).trans ((kw_ne eσ12 (Or.inr (by decide))).trans ((ka_r eσ11 (ka_ne0 nσ10 (by decide))).trans ((kw_ne eσ10 (Or.inr (by decide))).trans ((ka_r eσ9 (ka_ne0 nσ8 (by decide))).trans ((kw_ne eσ8 (Or.inr (by decide))).trans ((ka_r eσ7 (ka_ne0 nσ6 (by decide))).trans ((kw_ne eσ6 (Or.inr (by decide))).trans ((ka_r eσ5 (ka_ne0 nσ4 (by decide))).trans ((kw_ne eσ4 (Or.inr (by decide))).trans ((ka_r eσ3 (ka_ne0 nσ2 (by decide))).trans (kw_eq eσ2))))))))))))))), fun h => absurd h (by decide)⟩ | 2 => ⟨fun _ => ((kw_ne eσ16 (Or.inr (by decide))).trans ((kx_r eσ15).trans ((kx_r eσ14).trans ((kx_r eσ13).trans ((kw_ne eσ12 (Or.inr (by decide))).trans ((ka_r eσ11 (ka_ne0 nσ10 (by decide))).trans ((kw_ne eσ10 (Or.inr (by decide))).trans ((ka_r eσ9 (ka_ne0 nσ8 (by decide))).trans ((kw_ne eσ8 (Or.inr (by decide))).trans ((ka_r eσ7 (ka_ne0 nσ6 (by decide))).trans ((kw_ne eσ6 (Or.inr (by decide))).trans ((ka_r eσ5 (ka_ne0 nσ4 (by decide))).trans (kw_eq eσ4))))))))))))), fun h => absurd h (by decide)⟩ | 3 => ⟨fun _ => ((kw_ne eσ16 (Or.inr (by decide))).trans ((kx_r eσ15).trans ((kx_r eσ14).trans ((kx_r eσ13).trans ((kw_ne eσ12 (Or.inr (by decide))).trans ((ka_r eσ11 (ka_ne0 nσ10 (by decide))).trans ((kw_ne eσ10 (Or.inr (by decide))).trans ((ka_r eσ9 (ka_ne0 nσ8 (by decide))).trans ((kw_ne eσ8 (Or.inr (by decide))).trans ((ka_r eσ7 (ka_ne0 nσ6 (by decide))).trans (kw_eq eσ6))))))))))), fun h => absurd h (by decide)⟩ | 4 => ⟨fun _ => ((kw_ne eσ16 (Or.inr (by decide))).trans ((kx_r eσ15).trans ((kx_r eσ14).trans ((kx_r eσ13).trans ((kw_ne eσ12 (Or.inr (by decide))).trans ((ka_r eσ11 (ka_ne0 nσ10 (by decide))).trans ((kw_ne eσ10 (Or.inr (by decide))).trans ((ka_r eσ9 (ka_ne0 nσ8 (by decide))).trans (kw_eq eσ8))))))))), fun h => absurd h (by decide)⟩ | 5 => ⟨fun _ => ((kw_ne eσ16 (Or.inr (by decide))).trans ((kx_r eσ15).trans ((kx_r eσ14).trans ((kx_r eσ13).trans ((kw_ne eσ12 (Or.inr (by decide))).trans ((ka_r eσ11 (ka_ne0 nσ10 (by decide))).trans (kw_eq eσ10))))))), fun h => absurd h (by decide)⟩ | 6 => ⟨fun _ => ((kw_ne eσ16 (Or.inr (by decide))).trans ((kx_r eσ15).trans ((kx_r eσ14).trans ((kx_r eσ13).trans (kw_eq eσ12))))), fun h => absurd h (by decide)⟩ | 7 => ⟨fun h => absurd h (by decide), fun h => absurd h (by decide)⟩ | 8 => ⟨fun h => absurd h (by decide), fun h => absurd h (by decide)⟩ | 9 => ⟨fun h => absurd h (by decide), fun h => absurd h (by decide)⟩ | (k + 10) => ⟨fun h => absurd (show (9 : Nat) = 3 from h) (by decide), fun h => absurd (show (9 : Nat) = 4 from h) (by decide)⟩) ?_
  refine qy_wp_ok (c := CX6_init) (cuts := []) vX6_init wX6_init 2000 78 _ _ _ ?_
  exact ⟨rfl, qσ16.sl (Nat.le_refl _), nσ16, mσ16, zσ16.sl, qz_b (hT _ (Nat.le_refl _)), (qz_sh (by omega)).trans (show qx_sh T σ16 (b + 1) = (0, 2001) from (kw_s eσ16).trans ((kx_s eσ15).trans ((kx_s eσ14).trans ((kx_s eσ13).trans ((kw_s eσ12).trans ((ka_s eσ11 (ka_ne nσ10 (by decide))).trans ((kw_s eσ10).trans ((ka_s eσ9 (ka_ne nσ8 (by decide))).trans ((kw_s eσ8).trans ((ka_s eσ7 (ka_ne nσ6 (by decide))).trans ((kw_s eσ6).trans ((ka_s eσ5 (ka_ne nσ4 (by decide))).trans ((kw_s eσ4).trans ((ka_s eσ3 (ka_ne nσ2 (by decide))).trans ((kw_s eσ2).trans (ka_n eσ1 nσ (hT _ (Nat.le_add_right _ _)))))))))))))))))), (qz_sh (by omega)).trans (show qx_sh T σ16 (b + 2) = (0, 2001) from (kw_s eσ16).trans ((kx_s eσ15).trans ((kx_s eσ14).trans ((kx_s eσ13).trans ((kw_s eσ12).trans ((ka_s eσ11 (ka_ne nσ10 (by decide))).trans ((kw_s eσ10).trans ((ka_s eσ9 (ka_ne nσ8 (by decide))).trans ((kw_s eσ8).trans ((ka_s eσ7 (ka_ne nσ6 (by decide))).trans ((kw_s eσ6).trans ((ka_s eσ5 (ka_ne nσ4 (by decide))).trans ((kw_s eσ4).trans (ka_n eσ3 nσ2 (hT _ (Nat.le_add_right _ _)))))))))))))))), (qz_sh (by omega)).trans (show qx_sh T σ16 (b + 3) = (0, 2001) from (kw_s eσ16).trans ((kx_s eσ15).trans ((kx_s eσ14).trans ((kx_s eσ13).trans ((kw_s eσ12).trans ((ka_s eσ11 (ka_ne nσ10 (by decide))).trans ((kw_s eσ10).trans ((ka_s eσ9 (ka_ne nσ8 (by decide))).trans ((kw_s eσ8).trans ((ka_s eσ7 (ka_ne nσ6 (by decide))).trans ((kw_s eσ6).trans (ka_n eσ5 nσ4 (hT _ (Nat.le_add_right _ _)))))))))))))), (qz_sh (by omega)).trans (show qx_sh T σ16 (b + 4) = (0, 2001) from (kw_s eσ16).trans ((kx_s eσ15).trans ((kx_s eσ14).trans ((kx_s eσ13).trans ((kw_s eσ12).trans ((ka_s eσ11 (ka_ne nσ10 (by decide))).trans ((kw_s eσ10).trans ((ka_s eσ9 (ka_ne nσ8 (by decide))).trans ((kw_s eσ8).trans (ka_n eσ7 nσ6 (hT _ (Nat.le_add_right _ _)))))))))))), (qz_sh (by omega)).trans (show qx_sh T σ16 (b + 5) = (0, 2001) from (kw_s eσ16).trans ((kx_s eσ15).trans ((kx_s eσ14).trans ((kx_s eσ13).trans ((kw_s eσ12).trans ((ka_s eσ11 (ka_ne nσ10 (by decide))).trans ((kw_s eσ10).trans (ka_n eσ9 nσ8 (hT _ (Nat.le_add_right _ _)))))))))), (qz_sh (by omega)).trans (show qx_sh T σ16 (b + 6) = (0, 4096) from (kw_s eσ16).trans ((kx_s eσ15).trans ((kx_s eσ14).trans ((kx_s eσ13).trans ((kw_s eσ12).trans (ka_n eσ11 nσ10 (hT _ (Nat.le_add_right _ _))))))))⟩
def hS2 (T : qx_T) (s : qx_S) (b : Nat) : Prop := qx_sh T s b = (10, 0) ∧ qx_sh T s (b + 1) = (0, 640) ∧ qx_sh T s (b + 2) = (0, 12) ∧ qx_sh T s (b + 3) = (3, 64)
theorem c_i2 {G : qx_G} {T : qx_T} {σ : qx_S} {b : Nat} (hb : 3 ≤ b) (hT : ∀ a, b ≤ a → T a = none) (nσ : σ.1 = b + 1) (hs : qx_sh T σ b = (42, 0)) (h0 : ∀ j, qx_mi σ b j = nI 0) : qx_M G T 0 YX2_init [.ref b, .ref 16, .ref 21] σ (fun r s => r = none ∧ qh b σ s ∧ s.1 = b + 4 ∧ s.2.1 = σ.2.1 + 716 ∧ kz b [(b, some 8), (b, some 9)] s ∧ hS2 T s b ∧ qx_mi s b 8 = nI 1 ∧ qx_mi s b 9 = nI 1 ∧ qx_mr s b 5 = none ∧ qx_mr s b 7 = none ∧ qx_mr s b 6 = some 21) := by
  have mσ : σ.2.1 = σ.2.1 + 0 := rfl
  have qσ : qh b σ σ := qh.rf
  have zσ : kz b [(b, some 8), (b, some 9)] σ := fun a j h1 h2 _ => by rw [show a = b by omega]; exact h0 j
  refine qx_M_in rfl (Nat.le_of_ble_eq_true rfl) ?_
  refine qy_wp_ok (c := CX2_init) (cuts := [64]) vX2_init wX2_init 2000 0 _ _ _ ?_
  refine Exists.intro (nI 640) (And.intro rfl ?_)
  obtain ⟨σ1, eσ1⟩ : ∃ zs, zs = qx_al σ (0, 640) 640 := ⟨_, rfl⟩
  refine Exists.intro 640 (Exists.intro (b + 1) (Exists.intro σ1 (And.intro rfl (And.intro (by decide) (And.intro nσ (And.intro eσ1.symm ?_))))))
  have nσ1 : σ1.1 = b + 2 := ka_n1 eσ1 nσ
  have mσ1 : σ1.2.1 = σ.2.1 + 640 := ka_m1 eσ1 mσ
  have qσ1 := qσ.al eσ1 (kb_le nσ)
  have zσ1 := zσ.al eσ1
  have yσ1 : qx_sh T σ1 b = (42, 0) := (ka_s eσ1 (ka_ne0 nσ (by decide))).trans (hs)
  obtain ⟨σ2, eσ2⟩ : ∃ zs, zs = (qx_wr σ1 b 2 (some (b + 1))) := ⟨_, rfl⟩
  refine And.intro (by rw [show qx_sh T _ b = _ from yσ1]; rfl) (Exists.intro 2 (Exists.intro σ2 (And.intro rfl (And.intro eσ2.symm ?_))))
  have nσ2 : σ2.1 = b + 2 := (by rw [eσ2]; exact nσ1)
  have mσ2 : σ2.2.1 = σ.2.1 + 640 := (by rw [eσ2]; exact mσ1)
  have qσ2 := qσ1.wr eσ2 (Nat.le_refl _)
  have zσ2 := zσ1.wr eσ2
  have yσ2 : qx_sh T σ2 b = (42, 0) := (kw_s eσ2).trans (yσ1)
  refine Exists.intro (nI 12) (And.intro rfl ?_)
  obtain ⟨σ3, eσ3⟩ : ∃ zs, zs = qx_al σ2 (0, 12) 12 := ⟨_, rfl⟩
  refine Exists.intro 12 (Exists.intro (b + 2) (Exists.intro σ3 (And.intro rfl (And.intro (by decide) (And.intro nσ2 (And.intro eσ3.symm ?_))))))
  have nσ3 : σ3.1 = b + 3 := ka_n1 eσ3 nσ2
  have mσ3 : σ3.2.1 = σ.2.1 + 652 := ka_m1 eσ3 mσ2
  have qσ3 := qσ2.al eσ3 (kb_le nσ2)
  have zσ3 := zσ2.al eσ3
  have yσ3 : qx_sh T σ3 b = (42, 0) := (ka_s eσ3 (ka_ne0 nσ2 (by decide))).trans (yσ2)
  obtain ⟨σ4, eσ4⟩ : ∃ zs, zs = (qx_wr σ3 b 3 (some (b + 2))) := ⟨_, rfl⟩
  refine And.intro (by rw [show qx_sh T _ b = _ from yσ3]; rfl) (Exists.intro 3 (Exists.intro σ4 (And.intro rfl (And.intro eσ4.symm ?_))))
  have nσ4 : σ4.1 = b + 3 := (by rw [eσ4]; exact nσ3)
  have mσ4 : σ4.2.1 = σ.2.1 + 652 := (by rw [eσ4]; exact mσ3)
  have qσ4 := qσ3.wr eσ4 (Nat.le_refl _)
  have zσ4 := zσ3.wr eσ4
  have yσ4 : qx_sh T σ4 b = (42, 0) := (kw_s eσ4).trans (yσ3)
  refine Exists.intro (nI 64) (And.intro rfl ?_)
  obtain ⟨σ5, eσ5⟩ : ∃ zs, zs = qx_al σ4 (3, 64) 64 := ⟨_, rfl⟩
  refine Exists.intro 64 (Exists.intro (b + 3) (Exists.intro σ5 (And.intro rfl (And.intro (by decide) (And.intro nσ4 (And.intro eσ5.symm ?_))))))
  have nσ5 : σ5.1 = b + 4 := ka_n1 eσ5 nσ4
  have mσ5 : σ5.2.1 = σ.2.1 + 716 := ka_m1 eσ5 mσ4
  have qσ5 := qσ4.al eσ5 (kb_le nσ4)
  have zσ5 := zσ4.al eσ5
  have yσ5 : qx_sh T σ5 b = (42, 0) := (ka_s eσ5 (ka_ne0 nσ4 (by decide))).trans (yσ4)
  obtain ⟨σ6, eσ6⟩ : ∃ zs, zs = (qx_wr σ5 b 4 (some (b + 3))) := ⟨_, rfl⟩
  refine And.intro (by rw [show qx_sh T _ b = _ from yσ5]; rfl) (Exists.intro 4 (Exists.intro σ6 (And.intro rfl (And.intro eσ6.symm ?_))))
  have nσ6 : σ6.1 = b + 4 := (by rw [eσ6]; exact nσ5)
  have mσ6 : σ6.2.1 = σ.2.1 + 716 := (by rw [eσ6]; exact mσ5)
  have qσ6 := qσ5.wr eσ6 (Nat.le_refl _)
  have zσ6 := zσ5.wr eσ6
  have yσ6 : qx_sh T σ6 b = (42, 0) := (kw_s eσ6).trans (yσ5)
  obtain ⟨σ7, eσ7⟩ : ∃ zs, zs = (qx_wr σ6 b 5 none) := ⟨_, rfl⟩
  refine And.intro (by rw [show qx_sh T _ b = _ from yσ6]; rfl) (Exists.intro 5 (Exists.intro σ7 (And.intro rfl (And.intro eσ7.symm ?_))))
  have nσ7 : σ7.1 = b + 4 := (by rw [eσ7]; exact nσ6)
  have mσ7 : σ7.2.1 = σ.2.1 + 716 := (by rw [eσ7]; exact mσ6)
  have qσ7 := qσ6.wr eσ7 (Nat.le_refl _)
  have zσ7 := zσ6.wr eσ7
  have yσ7 : qx_sh T σ7 b = (42, 0) := (kw_s eσ7).trans (yσ6)
  obtain ⟨σ8, eσ8⟩ : ∃ zs, zs = (qx_wr σ7 b 7 none) := ⟨_, rfl⟩
  refine And.intro (by rw [show qx_sh T _ b = _ from yσ7]; rfl) (Exists.intro 7 (Exists.intro σ8 (And.intro rfl (And.intro eσ8.symm ?_))))
  have nσ8 : σ8.1 = b + 4 := (by rw [eσ8]; exact nσ7)
  have mσ8 : σ8.2.1 = σ.2.1 + 716 := (by rw [eσ8]; exact mσ7)
  have qσ8 := qσ7.wr eσ8 (Nat.le_refl _)
  have zσ8 := zσ7.wr eσ8
  have yσ8 : qx_sh T σ8 b = (42, 0) := (kw_s eσ8).trans (yσ7)
  refine Exists.intro (nI 1) (And.intro rfl ?_)
  obtain ⟨σ9, eσ9⟩ : ∃ zs, zs = (qx_wi σ8 b 8 (nI 1)) := ⟨_, rfl⟩
  refine And.intro (by rw [show qx_sh T _ b = _ from yσ8]; rfl) (Exists.intro 8 (Exists.intro σ9 (And.intro rfl (And.intro eσ9.symm ?_))))
  have nσ9 : σ9.1 = b + 4 := (by rw [eσ9]; exact nσ8)
  have mσ9 : σ9.2.1 = σ.2.1 + 716 := (by rw [eσ9]; exact mσ8)
  have qσ9 := qσ8.wi eσ9 (Nat.le_refl _)
  have zσ9 := zσ8.wi eσ9 (Or.inr (by simp [pL]))
  have yσ9 : qx_sh T σ9 b = (42, 0) := (kx_s eσ9).trans (yσ8)
  refine Exists.intro (nI 1) (And.intro rfl ?_)
  obtain ⟨σ10, eσ10⟩ : ∃ zs, zs = (qx_wi σ9 b 9 (nI 1)) := ⟨_, rfl⟩
  refine And.intro (by rw [show qx_sh T _ b = _ from yσ9]; rfl) (And.intro (by decide) (Exists.intro 9 (Exists.intro σ10 (And.intro rfl (And.intro eσ10.symm ?_)))))
  have nσ10 : σ10.1 = b + 4 := (by rw [eσ10]; exact nσ9)
  have mσ10 : σ10.2.1 = σ.2.1 + 716 := (by rw [eσ10]; exact mσ9)
  have qσ10 := qσ9.wi eσ10 (Nat.le_refl _)
  have zσ10 := zσ9.wi eσ10 (Or.inr (by simp [pL]))
  have yσ10 : qx_sh T σ10 b = (42, 0) := (kx_s eσ10).trans (yσ9)
  obtain ⟨σ11, eσ11⟩ : ∃ zs, zs = (qx_wr σ10 b 0 (some 16)) := ⟨_, rfl⟩
  refine And.intro (by rw [show qx_sh T _ b = _ from yσ10]; rfl) (Exists.intro 0 (Exists.intro σ11 (And.intro rfl (And.intro eσ11.symm ?_))))
  have nσ11 : σ11.1 = b + 4 := (by rw [eσ11]; exact nσ10)
  have mσ11 : σ11.2.1 = σ.2.1 + 716 := (by rw [eσ11]; exact mσ10)
  have qσ11 := qσ10.wr eσ11 (Nat.le_refl _)
  have zσ11 := zσ10.wr eσ11
  have yσ11 : qx_sh T σ11 b = (42, 0) := (kw_s eσ11).trans (yσ10)
  obtain ⟨σ12, eσ12⟩ : ∃ zs, zs = (qx_wr σ11 b 1 (some 21)) := ⟨_, rfl⟩
  refine And.intro (by rw [show qx_sh T _ b = _ from yσ11]; rfl) (Exists.intro 1 (Exists.intro σ12 (And.intro rfl (And.intro eσ12.symm ?_))))
  have nσ12 : σ12.1 = b + 4 := (by rw [eσ12]; exact nσ11)
  have mσ12 : σ12.2.1 = σ.2.1 + 716 := (by rw [eσ12]; exact mσ11)
  have qσ12 := qσ11.wr eσ12 (Nat.le_refl _)
  have zσ12 := zσ11.wr eσ12
  have yσ12 : qx_sh T σ12 b = (42, 0) := (kw_s eσ12).trans (yσ11)
  obtain ⟨σ13, eσ13⟩ : ∃ zs, zs = (qx_wr σ12 b 6 (some 21)) := ⟨_, rfl⟩
  refine And.intro (by rw [show qx_sh T _ b = _ from yσ12]; rfl) (Exists.intro 6 (Exists.intro σ13 (And.intro rfl (And.intro eσ13.symm ?_))))
  have nσ13 : σ13.1 = b + 4 := (by rw [eσ13]; exact nσ12)
  have mσ13 : σ13.2.1 = σ.2.1 + 716 := (by rw [eσ13]; exact mσ12)
  have qσ13 := qσ12.wr eσ13 (Nat.le_refl _)
  have zσ13 := zσ12.wr eσ13
  have yσ13 : qx_sh T σ13 b = (42, 0) := (kw_s eσ13).trans (yσ12)
  refine qx_K_le (ls := [.retAddr 0, .retAddr 0, .retAddr 0]) ⟨Or.inl rfl, Or.inl rfl, Or.inl rfl, trivial⟩ ?_
  refine qz_K (a := b) (ci := 2) hb (hT _ (Nat.le_refl _)) (kx_d (show qx_sh T σ13 b = (42, 0) from yσ13) (hT _ (Nat.le_refl _))) (by decide) (fun k => match k with | 0 => ⟨fun h => absurd h (by decide), fun _ => ((kw_ne eσ13 (Or.inr (by decide))).trans ((kw_ne eσ12 (Or.inr (by decide))).trans (kw_eq eσ11)))⟩ | 1 => ⟨fun h => absurd h (by decide), fun _ => ((kw_ne eσ13 (Or.inr (by decide))).trans (kw_eq eσ12))⟩ | 2 => ⟨fun _ => ((kw_ne eσ13 (Or.inr (by decide))).trans ((kw_ne eσ12 (Or.inr (by decide))).trans ((kw_ne eσ11 (Or.inr (by decide))).trans ((kx_r eσ10).trans ((kx_r eσ9).trans ((kw_ne eσ8 (Or.inr (by decide))).trans ((kw_ne eσ7 (Or.inr (by decide))).trans ((kw_ne eσ6 (Or.inr (by decide))).trans ((ka_r eσ5 (ka_ne0 nσ4 (by decide))).trans ((kw_ne eσ4 (Or.inr (by decide))).trans ((ka_r eσ3 (ka_ne0 nσ2 (by decide))).trans (kw_eq eσ2)))))))))))), fun h => absurd h (by decide)⟩ | 3 => ⟨fun _ => ((kw_ne eσ13 (Or.inr (by decide))).trans ((kw_ne eσ12 (Or.inr (by decide))).trans ((kw_ne eσ11 (Or.inr (by decide))).trans ((kx_r eσ10).trans ((kx_r eσ9).trans ((kw_ne eσ8 (Or.inr (by decide))).trans ((kw_ne eσ7 (Or.inr (by decide))).trans ((kw_ne eσ6 (Or.inr (by decide))).trans ((ka_r eσ5 (ka_ne0 nσ4 (by decide))).trans (kw_eq eσ4)))))))))), fun h => absurd h (by decide)⟩ | 4 => ⟨fun _ => ((kw_ne eσ13 (Or.inr (by decide))).trans ((kw_ne eσ12 (Or.inr (by decide))).trans ((kw_ne eσ11 (Or.inr (by decide))).trans ((kx_r eσ10).trans ((kx_r eσ9).trans ((kw_ne eσ8 (Or.inr (by decide))).trans ((kw_ne eσ7 (Or.inr (by decide))).trans (kw_eq eσ6)))))))), fun h => absurd h (by decide)⟩ | 5 => ⟨fun h => absurd h (by decide), fun h => absurd h (by decide)⟩ | 6 => ⟨fun h => absurd h (by decide), fun h => absurd h (by decide)⟩ | 7 => ⟨fun h => absurd h (by decide), fun h => absurd h (by decide)⟩ | 8 => ⟨fun h => absurd h (by decide), fun h => absurd h (by decide)⟩ | 9 => ⟨fun h => absurd h (by decide), fun h => absurd h (by decide)⟩ | (k + 10) => ⟨fun h => absurd (show (9 : Nat) = 3 from h) (by decide), fun h => absurd (show (9 : Nat) = 4 from h) (by decide)⟩) ?_
  refine qy_wp_ok (c := CX2_init) (cuts := []) vX2_init wX2_init 2000 64 _ _ _ ?_
  exact ⟨rfl, qσ13.sl (Nat.le_refl _), nσ13, mσ13, zσ13.sl, ⟨qz_b (hT _ (Nat.le_refl _)), (qz_sh (by omega)).trans (show qx_sh T σ13 (b + 1) = (0, 640) from (kw_s eσ13).trans ((kw_s eσ12).trans ((kw_s eσ11).trans ((kx_s eσ10).trans ((kx_s eσ9).trans ((kw_s eσ8).trans ((kw_s eσ7).trans ((kw_s eσ6).trans ((ka_s eσ5 (ka_ne nσ4 (by decide))).trans ((kw_s eσ4).trans ((ka_s eσ3 (ka_ne nσ2 (by decide))).trans ((kw_s eσ2).trans (ka_n eσ1 nσ (hT _ (Nat.le_add_right _ _))))))))))))))), (qz_sh (by omega)).trans (show qx_sh T σ13 (b + 2) = (0, 12) from (kw_s eσ13).trans ((kw_s eσ12).trans ((kw_s eσ11).trans ((kx_s eσ10).trans ((kx_s eσ9).trans ((kw_s eσ8).trans ((kw_s eσ7).trans ((kw_s eσ6).trans ((ka_s eσ5 (ka_ne nσ4 (by decide))).trans ((kw_s eσ4).trans (ka_n eσ3 nσ2 (hT _ (Nat.le_add_right _ _))))))))))))), (qz_sh (by omega)).trans (show qx_sh T σ13 (b + 3) = (3, 64) from (kw_s eσ13).trans ((kw_s eσ12).trans ((kw_s eσ11).trans ((kx_s eσ10).trans ((kx_s eσ9).trans ((kw_s eσ8).trans ((kw_s eσ7).trans ((kw_s eσ6).trans (ka_n eσ5 nσ4 (hT _ (Nat.le_add_right _ _)))))))))))⟩, show qx_mi σ13 b 8 = nI 1 from (show qx_mi σ13 b 8 = nI 1 from (kw_i eσ13).trans ((kw_i eσ12).trans ((kw_i eσ11).trans ((qn_ne eσ10 (Or.inr (by decide))).trans (qn_eq eσ9))))), show qx_mi σ13 b 9 = nI 1 from (show qx_mi σ13 b 9 = nI 1 from (kw_i eσ13).trans ((kw_i eσ12).trans ((kw_i eσ11).trans (qn_eq eσ10)))), show qx_mr σ13 b 5 = none from (show qx_mr σ13 b 5 = none from (kw_ne eσ13 (Or.inr (by decide))).trans ((kw_ne eσ12 (Or.inr (by decide))).trans ((kw_ne eσ11 (Or.inr (by decide))).trans ((kx_r eσ10).trans ((kx_r eσ9).trans ((kw_ne eσ8 (Or.inr (by decide))).trans (kw_eq eσ7))))))), show qx_mr σ13 b 7 = none from (show qx_mr σ13 b 7 = none from (kw_ne eσ13 (Or.inr (by decide))).trans ((kw_ne eσ12 (Or.inr (by decide))).trans ((kw_ne eσ11 (Or.inr (by decide))).trans ((kx_r eσ10).trans ((kx_r eσ9).trans (kw_eq eσ8)))))), show qx_mr σ13 b 6 = some 21 from (show qx_mr σ13 b 6 = some 21 from kw_eq eσ13)⟩
theorem c_i10_3 {G : qx_G} {T : qx_T} {σ : qx_S} {b : Nat} (hb : 3 ≤ b) (hT : ∀ a, b ≤ a → T a = none) (nσ : σ.1 = b + 1) (hs : qx_sh T σ b = (43, 0)) (h0 : ∀ j, qx_mi σ b j = nI 0) : qx_M G T 0 YX10_init [.ref b, .ref 156, .ref 21] σ (fun r s => r = none ∧ qh b σ s ∧ s.1 = b + 5 ∧ s.2.1 = σ.2.1 + 110 ∧ kz b [] s ∧ qx_sh T s b = (43, 0) ∧ (qx_sh T s (b + 1) = (0, 10) ∧ qx_sh T s (b + 2) = (0, 80) ∧ qx_sh T s (b + 3) = (0, 10) ∧ qx_sh T s (b + 4) = (0, 10)) ∧ qx_mr s b 0 = some 156 ∧ qx_mr s b 1 = some 21 ∧ qx_mr s b 2 = some (b + 1) ∧ qx_mr s b 3 = some (b + 2) ∧ qx_mr s b 4 = some (b + 3) ∧ qx_mr s b 5 = some (b + 4)) := by
  have mσ : σ.2.1 = σ.2.1 + 0 := rfl
  have qσ : qh b σ σ := qh.rf
  have zσ : kz b [] σ := fun a j h1 h2 _ => by rw [show a = b by omega]; exact h0 j
  refine qx_M_in rfl (Nat.le_of_ble_eq_true rfl) ?_
  refine qy_wp_ok (c := CX10_init) (cuts := []) vX10_init wX10_init 2000 0 _ _ _ ?_
  refine Exists.intro (nI 10) (And.intro rfl ?_)
  obtain ⟨σ1, eσ1⟩ : ∃ zs, zs = qx_al σ (0, 10) 10 := ⟨_, rfl⟩
  refine Exists.intro 10 (Exists.intro (b + 1) (Exists.intro σ1 (And.intro rfl (And.intro (by decide) (And.intro nσ (And.intro eσ1.symm ?_))))))
  have nσ1 : σ1.1 = b + 2 := ka_n1 eσ1 nσ
  have mσ1 : σ1.2.1 = σ.2.1 + 10 := ka_m1 eσ1 mσ
  have qσ1 := qσ.al eσ1 (kb_le nσ)
  have zσ1 := zσ.al eσ1
  have yσ1 : qx_sh T σ1 b = (43, 0) := (ka_s eσ1 (ka_ne0 nσ (by decide))).trans (hs)
  obtain ⟨σ2, eσ2⟩ : ∃ zs, zs = (qx_wr σ1 b 2 (some (b + 1))) := ⟨_, rfl⟩
  refine And.intro (by rw [show qx_sh T _ b = _ from yσ1]; rfl) (Exists.intro 2 (Exists.intro σ2 (And.intro rfl (And.intro eσ2.symm ?_))))
  have nσ2 : σ2.1 = b + 2 := (by rw [eσ2]; exact nσ1)
  have mσ2 : σ2.2.1 = σ.2.1 + 10 := (by rw [eσ2]; exact mσ1)
  have qσ2 := qσ1.wr eσ2 (Nat.le_refl _)
  have zσ2 := zσ1.wr eσ2
  have yσ2 : qx_sh T σ2 b = (43, 0) := (kw_s eσ2).trans (yσ1)
  refine Exists.intro (nI 80) (And.intro rfl ?_)
  obtain ⟨σ3, eσ3⟩ : ∃ zs, zs = qx_al σ2 (0, 80) 80 := ⟨_, rfl⟩
  refine Exists.intro 80 (Exists.intro (b + 2) (Exists.intro σ3 (And.intro rfl (And.intro (by decide) (And.intro nσ2 (And.intro eσ3.symm ?_))))))
  have nσ3 : σ3.1 = b + 3 := ka_n1 eσ3 nσ2
  have mσ3 : σ3.2.1 = σ.2.1 + 90 := ka_m1 eσ3 mσ2
  have qσ3 := qσ2.al eσ3 (kb_le nσ2)
  have zσ3 := zσ2.al eσ3
  have yσ3 : qx_sh T σ3 b = (43, 0) := (ka_s eσ3 (ka_ne0 nσ2 (by decide))).trans (yσ2)
  obtain ⟨σ4, eσ4⟩ : ∃ zs, zs = (qx_wr σ3 b 3 (some (b + 2))) := ⟨_, rfl⟩
  refine And.intro (by rw [show qx_sh T _ b = _ from yσ3]; rfl) (Exists.intro 3 (Exists.intro σ4 (And.intro rfl (And.intro eσ4.symm ?_))))
  have nσ4 : σ4.1 = b + 3 := (by rw [eσ4]; exact nσ3)
  have mσ4 : σ4.2.1 = σ.2.1 + 90 := (by rw [eσ4]; exact mσ3)
  have qσ4 := qσ3.wr eσ4 (Nat.le_refl _)
  have zσ4 := zσ3.wr eσ4
  have yσ4 : qx_sh T σ4 b = (43, 0) := (kw_s eσ4).trans (yσ3)
  refine Exists.intro (nI 10) (And.intro rfl ?_)
  obtain ⟨σ5, eσ5⟩ : ∃ zs, zs = qx_al σ4 (0, 10) 10 := ⟨_, rfl⟩
  refine Exists.intro 10 (Exists.intro (b + 3) (Exists.intro σ5 (And.intro rfl (And.intro (by decide) (And.intro nσ4 (And.intro eσ5.symm ?_))))))
  have nσ5 : σ5.1 = b + 4 := ka_n1 eσ5 nσ4
  have mσ5 : σ5.2.1 = σ.2.1 + 100 := ka_m1 eσ5 mσ4
  have qσ5 := qσ4.al eσ5 (kb_le nσ4)
  have zσ5 := zσ4.al eσ5
  have yσ5 : qx_sh T σ5 b = (43, 0) := (ka_s eσ5 (ka_ne0 nσ4 (by decide))).trans (yσ4)
  obtain ⟨σ6, eσ6⟩ : ∃ zs, zs = (qx_wr σ5 b 4 (some (b + 3))) := ⟨_, rfl⟩
  refine And.intro (by rw [show qx_sh T _ b = _ from yσ5]; rfl) (Exists.intro 4 (Exists.intro σ6 (And.intro rfl (And.intro eσ6.symm ?_))))
  have nσ6 : σ6.1 = b + 4 := (by rw [eσ6]; exact nσ5)
  have mσ6 : σ6.2.1 = σ.2.1 + 100 := (by rw [eσ6]; exact mσ5)
  have qσ6 := qσ5.wr eσ6 (Nat.le_refl _)
  have zσ6 := zσ5.wr eσ6
  have yσ6 : qx_sh T σ6 b = (43, 0) := (kw_s eσ6).trans (yσ5)
  refine Exists.intro (nI 10) (And.intro rfl ?_)
  obtain ⟨σ7, eσ7⟩ : ∃ zs, zs = qx_al σ6 (0, 10) 10 := ⟨_, rfl⟩
  refine Exists.intro 10 (Exists.intro (b + 4) (Exists.intro σ7 (And.intro rfl (And.intro (by decide) (And.intro nσ6 (And.intro eσ7.symm ?_))))))
  have nσ7 : σ7.1 = b + 5 := ka_n1 eσ7 nσ6
  have mσ7 : σ7.2.1 = σ.2.1 + 110 := ka_m1 eσ7 mσ6
  have qσ7 := qσ6.al eσ7 (kb_le nσ6)
  have zσ7 := zσ6.al eσ7
  have yσ7 : qx_sh T σ7 b = (43, 0) := (ka_s eσ7 (ka_ne0 nσ6 (by decide))).trans (yσ6)
  obtain ⟨σ8, eσ8⟩ : ∃ zs, zs = (qx_wr σ7 b 5 (some (b + 4))) := ⟨_, rfl⟩
  refine And.intro (by rw [show qx_sh T _ b = _ from yσ7]; rfl) (Exists.intro 5 (Exists.intro σ8 (And.intro rfl (And.intro eσ8.symm ?_))))
  have nσ8 : σ8.1 = b + 5 := (by rw [eσ8]; exact nσ7)
  have mσ8 : σ8.2.1 = σ.2.1 + 110 := (by rw [eσ8]; exact mσ7)
  have qσ8 := qσ7.wr eσ8 (Nat.le_refl _)
  have zσ8 := zσ7.wr eσ8
  have yσ8 : qx_sh T σ8 b = (43, 0) := (kw_s eσ8).trans (yσ7)
  obtain ⟨σ9, eσ9⟩ : ∃ zs, zs = (qx_wr σ8 b 0 (some 156)) := ⟨_, rfl⟩
  refine And.intro (by rw [show qx_sh T _ b = _ from yσ8]; rfl) (Exists.intro 0 (Exists.intro σ9 (And.intro rfl (And.intro eσ9.symm ?_))))
  have nσ9 : σ9.1 = b + 5 := (by rw [eσ9]; exact nσ8)
  have mσ9 : σ9.2.1 = σ.2.1 + 110 := (by rw [eσ9]; exact mσ8)
  have qσ9 := qσ8.wr eσ9 (Nat.le_refl _)
  have zσ9 := zσ8.wr eσ9
  have yσ9 : qx_sh T σ9 b = (43, 0) := (kw_s eσ9).trans (yσ8)
  obtain ⟨σ10, eσ10⟩ : ∃ zs, zs = (qx_wr σ9 b 1 (some 21)) := ⟨_, rfl⟩
  refine And.intro (by rw [show qx_sh T _ b = _ from yσ9]; rfl) (Exists.intro 1 (Exists.intro σ10 (And.intro rfl (And.intro eσ10.symm ?_))))
  have nσ10 : σ10.1 = b + 5 := (by rw [eσ10]; exact nσ9)
  have mσ10 : σ10.2.1 = σ.2.1 + 110 := (by rw [eσ10]; exact mσ9)
  have qσ10 := qσ9.wr eσ10 (Nat.le_refl _)
  have zσ10 := zσ9.wr eσ10
  have yσ10 : qx_sh T σ10 b = (43, 0) := (kw_s eσ10).trans (yσ9)
  exact ⟨rfl, qσ10, nσ10, mσ10, zσ10, (show qx_sh T σ10 b = (43, 0) from yσ10), ⟨(show qx_sh T σ10 (b + 1) = (0, 10) from (kw_s eσ10).trans ((kw_s eσ9).trans ((kw_s eσ8).trans ((ka_s eσ7 (ka_ne nσ6 (by decide))).trans ((kw_s eσ6).trans ((ka_s eσ5 (ka_ne nσ4 (by decide))).trans ((kw_s eσ4).trans ((ka_s eσ3 (ka_ne nσ2 (by decide))).trans ((kw_s eσ2).trans (ka_n eσ1 nσ (hT _ (Nat.le_add_right _ _)))))))))))), (show qx_sh T σ10 (b + 2) = (0, 80) from (kw_s eσ10).trans ((kw_s eσ9).trans ((kw_s eσ8).trans ((ka_s eσ7 (ka_ne nσ6 (by decide))).trans ((kw_s eσ6).trans ((ka_s eσ5 (ka_ne nσ4 (by decide))).trans ((kw_s eσ4).trans (ka_n eσ3 nσ2 (hT _ (Nat.le_add_right _ _)))))))))), (show qx_sh T σ10 (b + 3) = (0, 10) from (kw_s eσ10).trans ((kw_s eσ9).trans ((kw_s eσ8).trans ((ka_s eσ7 (ka_ne nσ6 (by decide))).trans ((kw_s eσ6).trans (ka_n eσ5 nσ4 (hT _ (Nat.le_add_right _ _)))))))), (show qx_sh T σ10 (b + 4) = (0, 10) from (kw_s eσ10).trans ((kw_s eσ9).trans ((kw_s eσ8).trans (ka_n eσ7 nσ6 (hT _ (Nat.le_add_right _ _))))))⟩, (show qx_mr σ10 b 0 = some 156 from (kw_ne eσ10 (Or.inr (by decide))).trans (kw_eq eσ9)), (show qx_mr σ10 b 1 = some 21 from kw_eq eσ10), (show qx_mr σ10 b 2 = some (b + 1) from (kw_ne eσ10 (Or.inr (by decide))).trans ((kw_ne eσ9 (Or.inr (by decide))).trans ((kw_ne eσ8 (Or.inr (by decide))).trans ((ka_r eσ7 (ka_ne0 nσ6 (by decide))).trans ((kw_ne eσ6 (Or.inr (by decide))).trans ((ka_r eσ5 (ka_ne0 nσ4 (by decide))).trans ((kw_ne eσ4 (Or.inr (by decide))).trans ((ka_r eσ3 (ka_ne0 nσ2 (by decide))).trans (kw_eq eσ2))))))))), (show qx_mr σ10 b 3 = some (b + 2) from (kw_ne eσ10 (Or.inr (by decide))).trans ((kw_ne eσ9 (Or.inr (by decide))).trans ((kw_ne eσ8 (Or.inr (by decide))).trans ((ka_r eσ7 (ka_ne0 nσ6 (by decide))).trans ((kw_ne eσ6 (Or.inr (by decide))).trans ((ka_r eσ5 (ka_ne0 nσ4 (by decide))).trans (kw_eq eσ4))))))), (show qx_mr σ10 b 4 = some (b + 3) from (kw_ne eσ10 (Or.inr (by decide))).trans ((kw_ne eσ9 (Or.inr (by decide))).trans ((kw_ne eσ8 (Or.inr (by decide))).trans ((ka_r eσ7 (ka_ne0 nσ6 (by decide))).trans (kw_eq eσ6))))), (show qx_mr σ10 b 5 = some (b + 4) from (kw_ne eσ10 (Or.inr (by decide))).trans ((kw_ne eσ9 (Or.inr (by decide))).trans (kw_eq eσ8)))⟩
theorem c_i10_0 {G : qx_G} {T : qx_T} {σ : qx_S} {b : Nat} (hb : 3 ≤ b) (hT : ∀ a, b ≤ a → T a = none) (nσ : σ.1 = b + 1) (hs : qx_sh T σ b = (40, 0)) (h0 : ∀ j, qx_mi σ b j = nI 0) : qx_M G T 0 YX10_init [.ref b, .ref 156, .ref 21] σ (fun r s => r = none ∧ qh b σ s ∧ s.1 = b + 5 ∧ s.2.1 = σ.2.1 + 110 ∧ kz b [] s ∧ qx_sh T s b = (40, 0) ∧ (qx_sh T s (b + 1) = (0, 10) ∧ qx_sh T s (b + 2) = (0, 80) ∧ qx_sh T s (b + 3) = (0, 10) ∧ qx_sh T s (b + 4) = (0, 10)) ∧ qx_mr s b 0 = some 156 ∧ qx_mr s b 1 = some 21 ∧ qx_mr s b 2 = some (b + 1) ∧ qx_mr s b 3 = some (b + 2) ∧ qx_mr s b 4 = some (b + 3) ∧ qx_mr s b 5 = some (b + 4)) := by
  have mσ : σ.2.1 = σ.2.1 + 0 := rfl
  have qσ : qh b σ σ := qh.rf
  have zσ : kz b [] σ := fun a j h1 h2 _ => by rw [show a = b by omega]; exact h0 j
  refine qx_M_in rfl (Nat.le_of_ble_eq_true rfl) ?_
  refine qy_wp_ok (c := CX10_init) (cuts := []) vX10_init wX10_init 2000 0 _ _ _ ?_
  refine Exists.intro (nI 10) (And.intro rfl ?_)
  obtain ⟨σ1, eσ1⟩ : ∃ zs, zs = qx_al σ (0, 10) 10 := ⟨_, rfl⟩
  refine Exists.intro 10 (Exists.intro (b + 1) (Exists.intro σ1 (And.intro rfl (And.intro (by decide) (And.intro nσ (And.intro eσ1.symm ?_))))))
  have nσ1 : σ1.1 = b + 2 := ka_n1 eσ1 nσ
  have mσ1 : σ1.2.1 = σ.2.1 + 10 := ka_m1 eσ1 mσ
  have qσ1 := qσ.al eσ1 (kb_le nσ)
  have zσ1 := zσ.al eσ1
  have yσ1 : qx_sh T σ1 b = (40, 0) := (ka_s eσ1 (ka_ne0 nσ (by decide))).trans (hs)
  obtain ⟨σ2, eσ2⟩ : ∃ zs, zs = (qx_wr σ1 b 2 (some (b + 1))) := ⟨_, rfl⟩
  refine And.intro (by rw [show qx_sh T _ b = _ from yσ1]; rfl) (Exists.intro 2 (Exists.intro σ2 (And.intro rfl (And.intro eσ2.symm ?_))))
  have nσ2 : σ2.1 = b + 2 := (by rw [eσ2]; exact nσ1)
  have mσ2 : σ2.2.1 = σ.2.1 + 10 := (by rw [eσ2]; exact mσ1)
  have qσ2 := qσ1.wr eσ2 (Nat.le_refl _)
  have zσ2 := zσ1.wr eσ2
  have yσ2 : qx_sh T σ2 b = (40, 0) := (kw_s eσ2).trans (yσ1)
  refine Exists.intro (nI 80) (And.intro rfl ?_)
  obtain ⟨σ3, eσ3⟩ : ∃ zs, zs = qx_al σ2 (0, 80) 80 := ⟨_, rfl⟩
  refine Exists.intro 80 (Exists.intro (b + 2) (Exists.intro σ3 (And.intro rfl (And.intro (by decide) (And.intro nσ2 (And.intro eσ3.symm ?_))))))
  have nσ3 : σ3.1 = b + 3 := ka_n1 eσ3 nσ2
  have mσ3 : σ3.2.1 = σ.2.1 + 90 := ka_m1 eσ3 mσ2
  have qσ3 := qσ2.al eσ3 (kb_le nσ2)
  have zσ3 := zσ2.al eσ3
  have yσ3 : qx_sh T σ3 b = (40, 0) := (ka_s eσ3 (ka_ne0 nσ2 (by decide))).trans (yσ2)
  obtain ⟨σ4, eσ4⟩ : ∃ zs, zs = (qx_wr σ3 b 3 (some (b + 2))) := ⟨_, rfl⟩
  refine And.intro (by rw [show qx_sh T _ b = _ from yσ3]; rfl) (Exists.intro 3 (Exists.intro σ4 (And.intro rfl (And.intro eσ4.symm ?_))))
  have nσ4 : σ4.1 = b + 3 := (by rw [eσ4]; exact nσ3)
  have mσ4 : σ4.2.1 = σ.2.1 + 90 := (by rw [eσ4]; exact mσ3)
  have qσ4 := qσ3.wr eσ4 (Nat.le_refl _)
  have zσ4 := zσ3.wr eσ4
  have yσ4 : qx_sh T σ4 b = (40, 0) := (kw_s eσ4).trans (yσ3)
  refine Exists.intro (nI 10) (And.intro rfl ?_)
  obtain ⟨σ5, eσ5⟩ : ∃ zs, zs = qx_al σ4 (0, 10) 10 := ⟨_, rfl⟩
  refine Exists.intro 10 (Exists.intro (b + 3) (Exists.intro σ5 (And.intro rfl (And.intro (by decide) (And.intro nσ4 (And.intro eσ5.symm ?_))))))
  have nσ5 : σ5.1 = b + 4 := ka_n1 eσ5 nσ4
  have mσ5 : σ5.2.1 = σ.2.1 + 100 := ka_m1 eσ5 mσ4
  have qσ5 := qσ4.al eσ5 (kb_le nσ4)
  have zσ5 := zσ4.al eσ5
  have yσ5 : qx_sh T σ5 b = (40, 0) := (ka_s eσ5 (ka_ne0 nσ4 (by decide))).trans (yσ4)
  obtain ⟨σ6, eσ6⟩ : ∃ zs, zs = (qx_wr σ5 b 4 (some (b + 3))) := ⟨_, rfl⟩
  refine And.intro (by rw [show qx_sh T _ b = _ from yσ5]; rfl) (Exists.intro 4 (Exists.intro σ6 (And.intro rfl (And.intro eσ6.symm ?_))))
  have nσ6 : σ6.1 = b + 4 := (by rw [eσ6]; exact nσ5)
  have mσ6 : σ6.2.1 = σ.2.1 + 100 := (by rw [eσ6]; exact mσ5)
  have qσ6 := qσ5.wr eσ6 (Nat.le_refl _)
  have zσ6 := zσ5.wr eσ6
  have yσ6 : qx_sh T σ6 b = (40, 0) := (kw_s eσ6).trans (yσ5)
  refine Exists.intro (nI 10) (And.intro rfl ?_)
  obtain ⟨σ7, eσ7⟩ : ∃ zs, zs = qx_al σ6 (0, 10) 10 := ⟨_, rfl⟩
  refine Exists.intro 10 (Exists.intro (b + 4) (Exists.intro σ7 (And.intro rfl (And.intro (by decide) (And.intro nσ6 (And.intro eσ7.symm ?_))))))
  have nσ7 : σ7.1 = b + 5 := ka_n1 eσ7 nσ6
  have mσ7 : σ7.2.1 = σ.2.1 + 110 := ka_m1 eσ7 mσ6
  have qσ7 := qσ6.al eσ7 (kb_le nσ6)
  have zσ7 := zσ6.al eσ7
  have yσ7 : qx_sh T σ7 b = (40, 0) := (ka_s eσ7 (ka_ne0 nσ6 (by decide))).trans (yσ6)
  obtain ⟨σ8, eσ8⟩ : ∃ zs, zs = (qx_wr σ7 b 5 (some (b + 4))) := ⟨_, rfl⟩
  refine And.intro (by rw [show qx_sh T _ b = _ from yσ7]; rfl) (Exists.intro 5 (Exists.intro σ8 (And.intro rfl (And.intro eσ8.symm ?_))))
  have nσ8 : σ8.1 = b + 5 := (by rw [eσ8]; exact nσ7)
  have mσ8 : σ8.2.1 = σ.2.1 + 110 := (by rw [eσ8]; exact mσ7)
  have qσ8 := qσ7.wr eσ8 (Nat.le_refl _)
  have zσ8 := zσ7.wr eσ8
  have yσ8 : qx_sh T σ8 b = (40, 0) := (kw_s eσ8).trans (yσ7)
  obtain ⟨σ9, eσ9⟩ : ∃ zs, zs = (qx_wr σ8 b 0 (some 156)) := ⟨_, rfl⟩
  refine And.intro (by rw [show qx_sh T _ b = _ from yσ8]; rfl) (Exists.intro 0 (Exists.intro σ9 (And.intro rfl (And.intro eσ9.symm ?_))))
  have nσ9 : σ9.1 = b + 5 := (by rw [eσ9]; exact nσ8)
  have mσ9 : σ9.2.1 = σ.2.1 + 110 := (by rw [eσ9]; exact mσ8)
  have qσ9 := qσ8.wr eσ9 (Nat.le_refl _)
  have zσ9 := zσ8.wr eσ9
  have yσ9 : qx_sh T σ9 b = (40, 0) := (kw_s eσ9).trans (yσ8)
  obtain ⟨σ10, eσ10⟩ : ∃ zs, zs = (qx_wr σ9 b 1 (some 21)) := ⟨_, rfl⟩
  refine And.intro (by rw [show qx_sh T _ b = _ from yσ9]; rfl) (Exists.intro 1 (Exists.intro σ10 (And.intro rfl (And.intro eσ10.symm ?_))))
  have nσ10 : σ10.1 = b + 5 := (by rw [eσ10]; exact nσ9)
  have mσ10 : σ10.2.1 = σ.2.1 + 110 := (by rw [eσ10]; exact mσ9)
  have qσ10 := qσ9.wr eσ10 (Nat.le_refl _)
  have zσ10 := zσ9.wr eσ10
  have yσ10 : qx_sh T σ10 b = (40, 0) := (kw_s eσ10).trans (yσ9)
  exact ⟨rfl, qσ10, nσ10, mσ10, zσ10, (show qx_sh T σ10 b = (40, 0) from yσ10), ⟨(show qx_sh T σ10 (b + 1) = (0, 10) from (kw_s eσ10).trans ((kw_s eσ9).trans ((kw_s eσ8).trans ((ka_s eσ7 (ka_ne nσ6 (by decide))).trans ((kw_s eσ6).trans ((ka_s eσ5 (ka_ne nσ4 (by decide))).trans ((kw_s eσ4).trans ((ka_s eσ3 (ka_ne nσ2 (by decide))).trans ((kw_s eσ2).trans (ka_n eσ1 nσ (hT _ (Nat.le_add_right _ _)))))))))))), (show qx_sh T σ10 (b + 2) = (0, 80) from (kw_s eσ10).trans ((kw_s eσ9).trans ((kw_s eσ8).trans ((ka_s eσ7 (ka_ne nσ6 (by decide))).trans ((kw_s eσ6).trans ((ka_s eσ5 (ka_ne nσ4 (by decide))).trans ((kw_s eσ4).trans (ka_n eσ3 nσ2 (hT _ (Nat.le_add_right _ _)))))))))), (show qx_sh T σ10 (b + 3) = (0, 10) from (kw_s eσ10).trans ((kw_s eσ9).trans ((kw_s eσ8).trans ((ka_s eσ7 (ka_ne nσ6 (by decide))).trans ((kw_s eσ6).trans (ka_n eσ5 nσ4 (hT _ (Nat.le_add_right _ _)))))))), (show qx_sh T σ10 (b + 4) = (0, 10) from (kw_s eσ10).trans ((kw_s eσ9).trans ((kw_s eσ8).trans (ka_n eσ7 nσ6 (hT _ (Nat.le_add_right _ _))))))⟩, (show qx_mr σ10 b 0 = some 156 from (kw_ne eσ10 (Or.inr (by decide))).trans (kw_eq eσ9)), (show qx_mr σ10 b 1 = some 21 from kw_eq eσ10), (show qx_mr σ10 b 2 = some (b + 1) from (kw_ne eσ10 (Or.inr (by decide))).trans ((kw_ne eσ9 (Or.inr (by decide))).trans ((kw_ne eσ8 (Or.inr (by decide))).trans ((ka_r eσ7 (ka_ne0 nσ6 (by decide))).trans ((kw_ne eσ6 (Or.inr (by decide))).trans ((ka_r eσ5 (ka_ne0 nσ4 (by decide))).trans ((kw_ne eσ4 (Or.inr (by decide))).trans ((ka_r eσ3 (ka_ne0 nσ2 (by decide))).trans (kw_eq eσ2))))))))), (show qx_mr σ10 b 3 = some (b + 2) from (kw_ne eσ10 (Or.inr (by decide))).trans ((kw_ne eσ9 (Or.inr (by decide))).trans ((kw_ne eσ8 (Or.inr (by decide))).trans ((ka_r eσ7 (ka_ne0 nσ6 (by decide))).trans ((kw_ne eσ6 (Or.inr (by decide))).trans ((ka_r eσ5 (ka_ne0 nσ4 (by decide))).trans (kw_eq eσ4))))))), (show qx_mr σ10 b 4 = some (b + 3) from (kw_ne eσ10 (Or.inr (by decide))).trans ((kw_ne eσ9 (Or.inr (by decide))).trans ((kw_ne eσ8 (Or.inr (by decide))).trans ((ka_r eσ7 (ka_ne0 nσ6 (by decide))).trans (kw_eq eσ6))))), (show qx_mr σ10 b 5 = some (b + 4) from (kw_ne eσ10 (Or.inr (by decide))).trans ((kw_ne eσ9 (Or.inr (by decide))).trans (kw_eq eσ8)))⟩
def hS0 (T : qx_T) (s : qx_S) (b : Nat) : Prop := qx_sh T s b = (8, 0) ∧ qx_sh T s (b + 1) = (0, 10) ∧ qx_sh T s (b + 2) = (0, 80) ∧ qx_sh T s (b + 3) = (0, 10) ∧ qx_sh T s (b + 4) = (0, 10) ∧ qx_sh T s (b + 5) = (0, 10)
theorem c_i0 {G : qx_G} {T : qx_T} {σ : qx_S} {b : Nat} (hb : 3 ≤ b) (hT : ∀ a, b ≤ a → T a = none) (nσ : σ.1 = b + 1) (hs : qx_sh T σ b = (40, 0)) (h0 : ∀ j, qx_mi σ b j = nI 0) : qx_M G T 1 YX0_init [.ref b, .ref 156, .ref 21] σ (fun r s => r = none ∧ qh b σ s ∧ s.1 = b + 6 ∧ s.2.1 = σ.2.1 + 120 ∧ kz b [] s ∧ hS0 T s b) := by
  have mσ : σ.2.1 = σ.2.1 + 0 := rfl
  have qσ : qh b σ σ := qh.rf
  have zσ : kz b [] σ := fun a j h1 h2 _ => by rw [show a = b by omega]; exact h0 j
  refine qx_M_in rfl (Nat.le_of_ble_eq_true rfl) ?_
  refine qy_wp_ok (c := CX0_init) (cuts := [14]) vX0_init wX0_init 2000 0 _ _ _ ?_
  refine Exists.intro _ (And.intro (by decide) (qx_M_mono (c_i10_0 hb hT nσ hs h0) ?_))
  rintro _ σ1 ⟨rfl, hσ1, nσ1, mσ1, kσ1, sσ1, ⟨s1σ1, s2σ1, s3σ1, s4σ1⟩, r0σ1, r1σ1, r2σ1, r3σ1, r4σ1, r5σ1⟩
  have nσ1 : σ1.1 = b + 5 := by omega
  have mσ1 : σ1.2.1 = σ.2.1 + 110 := by omega
  have qσ1 := qσ.tr (hσ1.mn (by omega))
  have zσ1 := zσ.ca hσ1 (by omega) kσ1 (fun _ _ _ _ => rfl)
  refine Exists.intro (nI 10) (And.intro rfl ?_)
  obtain ⟨σ2, eσ2⟩ : ∃ zs, zs = qx_al σ1 (0, 10) 10 := ⟨_, rfl⟩
  refine Exists.intro 10 (Exists.intro (b + 5) (Exists.intro σ2 (And.intro rfl (And.intro (by decide) (And.intro nσ1 (And.intro eσ2.symm ?_))))))
  have nσ2 : σ2.1 = b + 6 := ka_n1 eσ2 nσ1
  have mσ2 : σ2.2.1 = σ.2.1 + 120 := ka_m1 eσ2 mσ1
  have qσ2 := qσ1.al eσ2 (kb_le nσ1)
  have zσ2 := zσ1.al eσ2
  have yσ2 : qx_sh T σ2 b = (40, 0) := (ka_s eσ2 (ka_ne0 nσ1 (by decide))).trans (sσ1)
  obtain ⟨σ3, eσ3⟩ : ∃ zs, zs = (qx_wr σ2 b 6 (some (b + 5))) := ⟨_, rfl⟩
  refine And.intro (by rw [show qx_sh T _ b = _ from yσ2]; rfl) (Exists.intro 6 (Exists.intro σ3 (And.intro rfl (And.intro eσ3.symm ?_))))
  have nσ3 : σ3.1 = b + 6 := (by rw [eσ3]; exact nσ2)
  have mσ3 : σ3.2.1 = σ.2.1 + 120 := (by rw [eσ3]; exact mσ2)
  have qσ3 := qσ2.wr eσ3 (Nat.le_refl _)
  have zσ3 := zσ2.wr eσ3
  have yσ3 : qx_sh T σ3 b = (40, 0) := (kw_s eσ3).trans (yσ2)
  refine qx_K_le (ls := [.retAddr 0, .retAddr 0, .retAddr 0]) ⟨Or.inl rfl, Or.inl rfl, Or.inl rfl, trivial⟩ ?_
  refine qz_K (a := b) (ci := 0) hb (hT _ (Nat.le_refl _)) (kx_d (show qx_sh T σ3 b = (40, 0) from yσ3) (hT _ (Nat.le_refl _))) (by decide) (fun k => match k with | 0 => ⟨fun h => absurd h (by decide), fun _ => ((kw_ne eσ3 (Or.inr (by decide))).trans ((ka_r eσ2 (ka_ne0 nσ1 (by decide))).trans (r0σ1)))⟩ | 1 => ⟨fun h => absurd h (by decide), fun _ => ((kw_ne eσ3 (Or.inr (by decide))).trans ((ka_r eσ2 (ka_ne0 nσ1 (by decide))).trans (r1σ1)))⟩ | 2 => ⟨fun _ => ((kw_ne eσ3 (Or.inr (by decide))).trans ((ka_r eσ2 (ka_ne0 nσ1 (by decide))).trans (r2σ1))), fun h => absurd h (by decide)⟩ | 3 => ⟨fun _ => ((kw_ne eσ3 (Or.inr (by decide))).trans ((ka_r eσ2 (ka_ne0 nσ1 (by decide))).trans (r3σ1))), fun h => absurd h (by decide)⟩ | 4 => ⟨fun _ => ((kw_ne eσ3 (Or.inr (by decide))).trans ((ka_r eσ2 (ka_ne0 nσ1 (by decide))).trans (r4σ1))), fun h => absurd h (by decide)⟩ | 5 => ⟨fun _ => ((kw_ne eσ3 (Or.inr (by decide))).trans ((ka_r eσ2 (ka_ne0 nσ1 (by decide))).trans (r5σ1))), fun h => absurd h (by decide)⟩ | 6 => ⟨fun _ => (kw_eq eσ3), fun h => absurd h (by decide)⟩ | (k + 7) => ⟨fun h => absurd (show (9 : Nat) = 3 from h) (by decide), fun h => absurd (show (9 : Nat) = 4 from h) (by decide)⟩) ?_
  refine qy_wp_ok (c := CX0_init) (cuts := []) vX0_init wX0_init 2000 14 _ _ _ ?_
  exact ⟨rfl, qσ3.sl (Nat.le_refl _), nσ3, mσ3, zσ3.sl, qz_b (hT _ (Nat.le_refl _)), (qz_sh (by omega)).trans (show qx_sh T σ3 (b + 1) = (0, 10) from (kw_s eσ3).trans ((ka_s eσ2 (ka_ne nσ1 (by decide))).trans (s1σ1))), (qz_sh (by omega)).trans (show qx_sh T σ3 (b + 2) = (0, 80) from (kw_s eσ3).trans ((ka_s eσ2 (ka_ne nσ1 (by decide))).trans (s2σ1))), (qz_sh (by omega)).trans (show qx_sh T σ3 (b + 3) = (0, 10) from (kw_s eσ3).trans ((ka_s eσ2 (ka_ne nσ1 (by decide))).trans (s3σ1))), (qz_sh (by omega)).trans (show qx_sh T σ3 (b + 4) = (0, 10) from (kw_s eσ3).trans ((ka_s eσ2 (ka_ne nσ1 (by decide))).trans (s4σ1))), (qz_sh (by omega)).trans (show qx_sh T σ3 (b + 5) = (0, 10) from (kw_s eσ3).trans (ka_n eσ2 nσ1 (hT _ (Nat.le_add_right _ _))))⟩
theorem l_fillT {G : qx_G} {T : qx_T} {σ0 : qx_S} {x N : Nat} {v : Int32} (hs : qx_sh T σ0 x = (0, N)) (hN : N ≤ 5000) : ∀ (m i : Nat) (σ : qx_S), i + m = N → ql [(x, none)] σ0 σ → (∀ j, j < i → qx_mi σ x j = v) →
    qx_K G T 0 RJ7 YJ7_fill_53178 5 [.ref x, .int v, .int (nI i), .int (nI N)] [] σ (fun r s => r = none ∧ ql [(x, none)] σ0 s ∧ ∀ j, j < N → qx_mi s x j = v) := by
  intro m
  induction m with
  | zero =>
    intro i σ hi hf hj
    obtain rfl : i = N := by omega
    refine qy_wp_ok (c := CJ7_fill_53178) (cuts := [5]) vJ7_fill_53178 wJ7_fill_53178 2000 5 _ _ _ ?_
    refine And.intro (fun h7 => ?_) (fun h7 => ?_)
    · skip
      have h7 := nI_leT (a := i) (b := i) (by omega) (by omega) h7
      exact ⟨rfl, hf, hj⟩
    · skip
      have h7 := nI_leF (a := i) (b := i) (by omega) (by omega) h7
      exact absurd h7 (by omega)
  | succ m ih =>
    intro i σ hi hf hj
    have hs1 := (kf_s (T := T) hf x).trans hs
    refine qy_wp_ok (c := CJ7_fill_53178) (cuts := [5]) vJ7_fill_53178 wJ7_fill_53178 2000 5 _ _ _ ?_
    refine And.intro (fun h7 => ?_) (fun h7 => ?_)
    · skip
      have h7 := nI_leT (a := N) (b := i) (by omega) (by omega) h7
      exact absurd h7 (by omega)
    · skip
      have h7 := nI_leF (a := N) (b := i) (by omega) (by omega) h7
      obtain ⟨σ1, eσ1⟩ : ∃ zs, zs = (qx_wi σ x i v) := ⟨_, rfl⟩
      have fσ1 := qn_wi eσ1
      refine Exists.intro (i) (Exists.intro σ1 (And.intro rfl (And.intro ⟨N, hs1, by omega, by omega⟩ (And.intro eσ1.symm ?_))))
      refine Exists.intro (nI (i + 1)) (And.intro (nI_add _ _) ?_)
      refine ih (i + 1) _ (by omega) (hf.tr fσ1) (fun j hjj => ?_)
      by_cases z : j = i
      · rw [z]; exact qn_eq eσ1
      · exact (qn_ne eσ1 (Or.inr z)).trans (hj j (by omega))
theorem c_fillT {G : qx_G} {T : qx_T} {σ : qx_S} {x N : Nat} {v : Int32} (hs : qx_sh T σ x = (0, N)) (hN : N ≤ 5000) : qx_M G T 0 YJ7_fill_53178 [.ref x, .int v] σ (fun r s => r = none ∧ ql [(x, none)] σ s ∧ ∀ j, j < N → qx_mi s x j = v) := by
  refine qx_M_in rfl (Nat.le_of_ble_eq_true rfl) ?_
  refine qy_wp_ok (c := CJ7_fill_53178) (cuts := [5]) vJ7_fill_53178 wJ7_fill_53178 2000 0 _ _ _ ?_
  refine Exists.intro (nI 0) (And.intro rfl ?_)
  refine Exists.intro (0, N) (Exists.intro (nI N) (And.intro hs (And.intro (show (0 : Nat) ≤ 7 by decide) (And.intro rfl ?_))))
  exact l_fillT hs hN N 0 σ (by omega) qf.rf (fun j hj => absurd hj (by omega))

