/-! CONSTRUCTORS: MOST, a STATE -/
def hS3 (T : qx_T) (s : qx_S) (b : Nat) : Prop := qx_sh T s b = (11, 0) ∧ qx_sh T s (b + 1) = (0, 10) ∧ qx_sh T s (b + 2) = (0, 80) ∧ qx_sh T s (b + 3) = (0, 10) ∧ qx_sh T s (b + 4) = (0, 10) ∧ qx_sh T s (b + 5) = (0, 50) ∧ qx_sh T s (b + 6) = (0, 5) ∧ qx_sh T s (b + 7) = (0, 50) ∧ qx_sh T s (b + 8) = (0, 100) ∧ qx_sh T s (b + 9) = (0, 1024) ∧ qx_sh T s (b + 10) = (0, 1024) ∧ qx_sh T s (b + 11) = (0, 11) ∧ qx_sh T s (b + 12) = (0, 1024) ∧ qx_sh T s (b + 13) = (0, 5)
theorem c_i3 {G : qx_G} {T : qx_T} {σ : qx_S} {b : Nat} (hb : 3 ≤ b) (hT : ∀ a, b ≤ a → T a = none) (nσ : σ.1 = b + 1) (hs : qx_sh T σ b = (43, 0)) (h0 : ∀ j, qx_mi σ b j = nI 0) : qx_M G T 1 YX3_init [.ref b, .ref 156, .ref 21] σ (fun r s => r = none ∧ qh b σ s ∧ s.1 = b + 14 ∧ s.2.1 = σ.2.1 + 3403 ∧ kz b [(b + 9, none)] s ∧ hS3 T s b ∧ ∀ j, j < 1024 → qx_mi s (b + 9) j = -1000000) := by
  have mσ : σ.2.1 = σ.2.1 + 0 := rfl
  have qσ : qh b σ σ := qh.rf
  have zσ : kz b [(b + 9, none)] σ := fun a j h1 h2 _ => by rw [show a = b by omega]; exact h0 j
  refine qx_M_in rfl (Nat.le_of_ble_eq_true rfl) ?_
  refine qy_wp_ok (c := CX3_init) (cuts := [108]) vX3_init wX3_init 2000 0 _ _ _ ?_
  refine Exists.intro _ (And.intro (by decide) (qx_M_mono (c_i10_3 hb hT nσ hs h0) ?_))
  rintro _ σ1 ⟨rfl, hσ1, nσ1, mσ1, kσ1, sσ1, ⟨s1σ1, s2σ1, s3σ1, s4σ1⟩, r0σ1, r1σ1, r2σ1, r3σ1, r4σ1, r5σ1⟩
  have nσ1 : σ1.1 = b + 5 := by omega
  have mσ1 : σ1.2.1 = σ.2.1 + 110 := by omega
  have qσ1 := qσ.tr (hσ1.mn (by omega))
  have zσ1 := zσ.ca hσ1 (by omega) kσ1 (fun _ _ _ _ => rfl)
  refine Exists.intro (nI 50) (And.intro rfl ?_)
  obtain ⟨σ2, eσ2⟩ : ∃ zs, zs = qx_al σ1 (0, 50) 50 := ⟨_, rfl⟩
  refine Exists.intro 50 (Exists.intro (b + 5) (Exists.intro σ2 (And.intro rfl (And.intro (by decide) (And.intro nσ1 (And.intro eσ2.symm ?_))))))
  have nσ2 : σ2.1 = b + 6 := ka_n1 eσ2 nσ1
  have mσ2 : σ2.2.1 = σ.2.1 + 160 := ka_m1 eσ2 mσ1
  have qσ2 := qσ1.al eσ2 (kb_le nσ1)
  have zσ2 := zσ1.al eσ2
  have yσ2 : qx_sh T σ2 b = (43, 0) := (ka_s eσ2 (ka_ne0 nσ1 (by decide))).trans (sσ1)
  obtain ⟨σ3, eσ3⟩ : ∃ zs, zs = (qx_wr σ2 b 6 (some (b + 5))) := ⟨_, rfl⟩
  refine And.intro (by rw [show qx_sh T _ b = _ from yσ2]; rfl) (Exists.intro 6 (Exists.intro σ3 (And.intro rfl (And.intro eσ3.symm ?_))))
  have nσ3 : σ3.1 = b + 6 := (by rw [eσ3]; exact nσ2)
  have mσ3 : σ3.2.1 = σ.2.1 + 160 := (by rw [eσ3]; exact mσ2)
  have qσ3 := qσ2.wr eσ3 (Nat.le_refl _)
  have zσ3 := zσ2.wr eσ3
  have yσ3 : qx_sh T σ3 b = (43, 0) := (kw_s eσ3).trans (yσ2)
  refine Exists.intro (nI 5) (And.intro rfl ?_)
  obtain ⟨σ4, eσ4⟩ : ∃ zs, zs = qx_al σ3 (0, 5) 5 := ⟨_, rfl⟩
  refine Exists.intro 5 (Exists.intro (b + 6) (Exists.intro σ4 (And.intro rfl (And.intro (by decide) (And.intro nσ3 (And.intro eσ4.symm ?_))))))
  have nσ4 : σ4.1 = b + 7 := ka_n1 eσ4 nσ3
  have mσ4 : σ4.2.1 = σ.2.1 + 165 := ka_m1 eσ4 mσ3
  have qσ4 := qσ3.al eσ4 (kb_le nσ3)
  have zσ4 := zσ3.al eσ4
  have yσ4 : qx_sh T σ4 b = (43, 0) := (ka_s eσ4 (ka_ne0 nσ3 (by decide))).trans (yσ3)
  obtain ⟨σ5, eσ5⟩ : ∃ zs, zs = (qx_wr σ4 b 7 (some (b + 6))) := ⟨_, rfl⟩
  refine And.intro (by rw [show qx_sh T _ b = _ from yσ4]; rfl) (Exists.intro 7 (Exists.intro σ5 (And.intro rfl (And.intro eσ5.symm ?_))))
  have nσ5 : σ5.1 = b + 7 := (by rw [eσ5]; exact nσ4)
  have mσ5 : σ5.2.1 = σ.2.1 + 165 := (by rw [eσ5]; exact mσ4)
  have qσ5 := qσ4.wr eσ5 (Nat.le_refl _)
  have zσ5 := zσ4.wr eσ5
  have yσ5 : qx_sh T σ5 b = (43, 0) := (kw_s eσ5).trans (yσ4)
  refine Exists.intro (nI 50) (And.intro rfl ?_)
  obtain ⟨σ6, eσ6⟩ : ∃ zs, zs = qx_al σ5 (0, 50) 50 := ⟨_, rfl⟩
  refine Exists.intro 50 (Exists.intro (b + 7) (Exists.intro σ6 (And.intro rfl (And.intro (by decide) (And.intro nσ5 (And.intro eσ6.symm ?_))))))
  have nσ6 : σ6.1 = b + 8 := ka_n1 eσ6 nσ5
  have mσ6 : σ6.2.1 = σ.2.1 + 215 := ka_m1 eσ6 mσ5
  have qσ6 := qσ5.al eσ6 (kb_le nσ5)
  have zσ6 := zσ5.al eσ6
  have yσ6 : qx_sh T σ6 b = (43, 0) := (ka_s eσ6 (ka_ne0 nσ5 (by decide))).trans (yσ5)
  obtain ⟨σ7, eσ7⟩ : ∃ zs, zs = (qx_wr σ6 b 8 (some (b + 7))) := ⟨_, rfl⟩
  refine And.intro (by rw [show qx_sh T _ b = _ from yσ6]; rfl) (Exists.intro 8 (Exists.intro σ7 (And.intro rfl (And.intro eσ7.symm ?_))))
  have nσ7 : σ7.1 = b + 8 := (by rw [eσ7]; exact nσ6)
  have mσ7 : σ7.2.1 = σ.2.1 + 215 := (by rw [eσ7]; exact mσ6)
  have qσ7 := qσ6.wr eσ7 (Nat.le_refl _)
  have zσ7 := zσ6.wr eσ7
  have yσ7 : qx_sh T σ7 b = (43, 0) := (kw_s eσ7).trans (yσ6)
  refine Exists.intro (nI 100) (And.intro rfl ?_)
  obtain ⟨σ8, eσ8⟩ : ∃ zs, zs = qx_al σ7 (0, 100) 100 := ⟨_, rfl⟩
  refine Exists.intro 100 (Exists.intro (b + 8) (Exists.intro σ8 (And.intro rfl (And.intro (by decide) (And.intro nσ7 (And.intro eσ8.symm ?_))))))
  have nσ8 : σ8.1 = b + 9 := ka_n1 eσ8 nσ7
  have mσ8 : σ8.2.1 = σ.2.1 + 315 := ka_m1 eσ8 mσ7
  have qσ8 := qσ7.al eσ8 (kb_le nσ7)
  have zσ8 := zσ7.al eσ8
  have yσ8 : qx_sh T σ8 b = (43, 0) := (ka_s eσ8 (ka_ne0 nσ7 (by decide))).trans (yσ7)
  obtain ⟨σ9, eσ9⟩ : ∃ zs, zs = (qx_wr σ8 b 9 (some (b + 8))) := ⟨_, rfl⟩
  refine And.intro (by rw [show qx_sh T _ b = _ from yσ8]; rfl) (Exists.intro 9 (Exists.intro σ9 (And.intro rfl (And.intro eσ9.symm ?_))))
  have nσ9 : σ9.1 = b + 9 := (by rw [eσ9]; exact nσ8)
  have mσ9 : σ9.2.1 = σ.2.1 + 315 := (by rw [eσ9]; exact mσ8)
  have qσ9 := qσ8.wr eσ9 (Nat.le_refl _)
  have zσ9 := zσ8.wr eσ9
  have yσ9 : qx_sh T σ9 b = (43, 0) := (kw_s eσ9).trans (yσ8)
  refine Exists.intro (nI 1024) (And.intro rfl ?_)
  obtain ⟨σ10, eσ10⟩ : ∃ zs, zs = qx_al σ9 (0, 1024) 1024 := ⟨_, rfl⟩
  refine Exists.intro 1024 (Exists.intro (b + 9) (Exists.intro σ10 (And.intro rfl (And.intro (by decide) (And.intro nσ9 (And.intro eσ10.symm ?_))))))
  have nσ10 : σ10.1 = b + 10 := ka_n1 eσ10 nσ9
  have mσ10 : σ10.2.1 = σ.2.1 + 1339 := ka_m1 eσ10 mσ9
  have qσ10 := qσ9.al eσ10 (kb_le nσ9)
  have zσ10 := zσ9.al eσ10
  have yσ10 : qx_sh T σ10 b = (43, 0) := (ka_s eσ10 (ka_ne0 nσ9 (by decide))).trans (yσ9)
  obtain ⟨σ11, eσ11⟩ : ∃ zs, zs = (qx_wr σ10 b 10 (some (b + 9))) := ⟨_, rfl⟩
  refine And.intro (by rw [show qx_sh T _ b = _ from yσ10]; rfl) (Exists.intro 10 (Exists.intro σ11 (And.intro rfl (And.intro eσ11.symm ?_))))
  have nσ11 : σ11.1 = b + 10 := (by rw [eσ11]; exact nσ10)
  have mσ11 : σ11.2.1 = σ.2.1 + 1339 := (by rw [eσ11]; exact mσ10)
  have qσ11 := qσ10.wr eσ11 (Nat.le_refl _)
  have zσ11 := zσ10.wr eσ11
  have yσ11 : qx_sh T σ11 b = (43, 0) := (kw_s eσ11).trans (yσ10)
  refine Exists.intro (nI 1024) (And.intro rfl ?_)
  obtain ⟨σ12, eσ12⟩ : ∃ zs, zs = qx_al σ11 (0, 1024) 1024 := ⟨_, rfl⟩
  refine Exists.intro 1024 (Exists.intro (b + 10) (Exists.intro σ12 (And.intro rfl (And.intro (by decide) (And.intro nσ11 (And.intro eσ12.symm ?_))))))
  have nσ12 : σ12.1 = b + 11 := ka_n1 eσ12 nσ11
  have mσ12 : σ12.2.1 = σ.2.1 + 2363 := ka_m1 eσ12 mσ11
  have qσ12 := qσ11.al eσ12 (kb_le nσ11)
  have zσ12 := zσ11.al eσ12
  have yσ12 : qx_sh T σ12 b = (43, 0) := (ka_s eσ12 (ka_ne0 nσ11 (by decide))).trans (yσ11)
  obtain ⟨σ13, eσ13⟩ : ∃ zs, zs = (qx_wr σ12 b 11 (some (b + 10))) := ⟨_, rfl⟩
  refine And.intro (by rw [show qx_sh T _ b = _ from yσ12]; rfl) (Exists.intro 11 (Exists.intro σ13 (And.intro rfl (And.intro eσ13.symm ?_))))
  have nσ13 : σ13.1 = b + 11 := (by rw [eσ13]; exact nσ12)
  have mσ13 : σ13.2.1 = σ.2.1 + 2363 := (by rw [eσ13]; exact mσ12)
  have qσ13 := qσ12.wr eσ13 (Nat.le_refl _)
  have zσ13 := zσ12.wr eσ13
  have yσ13 : qx_sh T σ13 b = (43, 0) := (kw_s eσ13).trans (yσ12)
  refine Exists.intro (nI 11) (And.intro rfl ?_)
  obtain ⟨σ14, eσ14⟩ : ∃ zs, zs = qx_al σ13 (0, 11) 11 := ⟨_, rfl⟩
  refine Exists.intro 11 (Exists.intro (b + 11) (Exists.intro σ14 (And.intro rfl (And.intro (by decide) (And.intro nσ13 (And.intro eσ14.symm ?_))))))
  have nσ14 : σ14.1 = b + 12 := ka_n1 eσ14 nσ13
  have mσ14 : σ14.2.1 = σ.2.1 + 2374 := ka_m1 eσ14 mσ13
  have qσ14 := qσ13.al eσ14 (kb_le nσ13)
  have zσ14 := zσ13.al eσ14
  have yσ14 : qx_sh T σ14 b = (43, 0) := (ka_s eσ14 (ka_ne0 nσ13 (by decide))).trans (yσ13)
  obtain ⟨σ15, eσ15⟩ : ∃ zs, zs = (qx_wr σ14 b 12 (some (b + 11))) := ⟨_, rfl⟩
  refine And.intro (by rw [show qx_sh T _ b = _ from yσ14]; rfl) (Exists.intro 12 (Exists.intro σ15 (And.intro rfl (And.intro eσ15.symm ?_))))
  have nσ15 : σ15.1 = b + 12 := (by rw [eσ15]; exact nσ14)
  have mσ15 : σ15.2.1 = σ.2.1 + 2374 := (by rw [eσ15]; exact mσ14)
  have qσ15 := qσ14.wr eσ15 (Nat.le_refl _)
  have zσ15 := zσ14.wr eσ15
  have yσ15 : qx_sh T σ15 b = (43, 0) := (kw_s eσ15).trans (yσ14)
  refine Exists.intro (nI 1024) (And.intro rfl ?_)
  obtain ⟨σ16, eσ16⟩ : ∃ zs, zs = qx_al σ15 (0, 1024) 1024 := ⟨_, rfl⟩
  refine Exists.intro 1024 (Exists.intro (b + 12) (Exists.intro σ16 (And.intro rfl (And.intro (by decide) (And.intro nσ15 (And.intro eσ16.symm ?_))))))
  have nσ16 : σ16.1 = b + 13 := ka_n1 eσ16 nσ15
  have mσ16 : σ16.2.1 = σ.2.1 + 3398 := ka_m1 eσ16 mσ15
  have qσ16 := qσ15.al eσ16 (kb_le nσ15)
  have zσ16 := zσ15.al eσ16
  have yσ16 : qx_sh T σ16 b = (43, 0) := (ka_s eσ16 (ka_ne0 nσ15 (by decide))).trans (yσ15)
  obtain ⟨σ17, eσ17⟩ : ∃ zs, zs = (qx_wr σ16 b 13 (some (b + 12))) := ⟨_, rfl⟩
  refine And.intro (by rw [show qx_sh T _ b = _ from yσ16]; rfl) (Exists.intro 13 (Exists.intro σ17 (And.intro rfl (And.intro eσ17.symm ?_))))
  have nσ17 : σ17.1 = b + 13 := (by rw [eσ17]; exact nσ16)
  have mσ17 : σ17.2.1 = σ.2.1 + 3398 := (by rw [eσ17]; exact mσ16)
  have qσ17 := qσ16.wr eσ17 (Nat.le_refl _)
  have zσ17 := zσ16.wr eσ17
  have yσ17 : qx_sh T σ17 b = (43, 0) := (kw_s eσ17).trans (yσ16)
  refine Exists.intro (nI 5) (And.intro rfl ?_)
  obtain ⟨σ18, eσ18⟩ : ∃ zs, zs = qx_al σ17 (0, 5) 5 := ⟨_, rfl⟩
  refine Exists.intro 5 (Exists.intro (b + 13) (Exists.intro σ18 (And.intro rfl (And.intro (by decide) (And.intro nσ17 (And.intro eσ18.symm ?_))))))
  have nσ18 : σ18.1 = b + 14 := ka_n1 eσ18 nσ17
  have mσ18 : σ18.2.1 = σ.2.1 + 3403 := ka_m1 eσ18 mσ17
  have qσ18 := qσ17.al eσ18 (kb_le nσ17)
  have zσ18 := zσ17.al eσ18
  have yσ18 : qx_sh T σ18 b = (43, 0) := (ka_s eσ18 (ka_ne0 nσ17 (by decide))).trans (yσ17)
  obtain ⟨σ19, eσ19⟩ : ∃ zs, zs = (qx_wr σ18 b 14 (some (b + 13))) := ⟨_, rfl⟩
  refine And.intro (by rw [show qx_sh T _ b = _ from yσ18]; rfl) (Exists.intro 14 (Exists.intro σ19 (And.intro rfl (And.intro eσ19.symm ?_))))
  have nσ19 : σ19.1 = b + 14 := (by rw [eσ19]; exact nσ18)
  have mσ19 : σ19.2.1 = σ.2.1 + 3403 := (by rw [eσ19]; exact mσ18)
  have qσ19 := qσ18.wr eσ19 (Nat.le_refl _)
  have zσ19 := zσ18.wr eσ19
  have yσ19 : qx_sh T σ19 b = (43, 0) := (kw_s eσ19).trans (yσ18)
  refine Exists.intro (nI 0) (And.intro rfl ?_)
  obtain ⟨σ20, eσ20⟩ : ∃ zs, zs = (qx_wi σ19 b 15 (nI 0)) := ⟨_, rfl⟩
  refine And.intro (by rw [show qx_sh T _ b = _ from yσ19]; rfl) (Exists.intro 15 (Exists.intro σ20 (And.intro rfl (And.intro eσ20.symm ?_))))
  have nσ20 : σ20.1 = b + 14 := (by rw [eσ20]; exact nσ19)
  have mσ20 : σ20.2.1 = σ.2.1 + 3403 := (by rw [eσ20]; exact mσ19)
  have qσ20 := qσ19.wi eσ20 (Nat.le_refl _)
  have zσ20 := zσ19.wi eσ20 (Or.inl rfl)
  have yσ20 : qx_sh T σ20 b = (43, 0) := (kx_s eσ20).trans (yσ19)
  refine Exists.intro (nI 0) (And.intro rfl ?_)
  obtain ⟨σ21, eσ21⟩ : ∃ zs, zs = (qx_wi σ20 b 16 (nI 0)) := ⟨_, rfl⟩
  refine And.intro (by rw [show qx_sh T _ b = _ from yσ20]; rfl) (Exists.intro 16 (Exists.intro σ21 (And.intro rfl (And.intro eσ21.symm ?_))))
  have nσ21 : σ21.1 = b + 14 := (by rw [eσ21]; exact nσ20)
  have mσ21 : σ21.2.1 = σ.2.1 + 3403 := (by rw [eσ21]; exact mσ20)
  have qσ21 := qσ20.wi eσ21 (Nat.le_refl _)
  have zσ21 := zσ20.wi eσ21 (Or.inl rfl)
  have yσ21 : qx_sh T σ21 b = (43, 0) := (kx_s eσ21).trans (yσ20)
  refine Exists.intro (nI 0) (And.intro rfl ?_)
  obtain ⟨σ22, eσ22⟩ : ∃ zs, zs = (qx_wi σ21 b 17 (nI 0)) := ⟨_, rfl⟩
  refine And.intro (by rw [show qx_sh T _ b = _ from yσ21]; rfl) (Exists.intro 17 (Exists.intro σ22 (And.intro rfl (And.intro eσ22.symm ?_))))
  have nσ22 : σ22.1 = b + 14 := (by rw [eσ22]; exact nσ21)
  have mσ22 : σ22.2.1 = σ.2.1 + 3403 := (by rw [eσ22]; exact mσ21)
  have qσ22 := qσ21.wi eσ22 (Nat.le_refl _)
  have zσ22 := zσ21.wi eσ22 (Or.inl rfl)
  have yσ22 : qx_sh T σ22 b = (43, 0) := (kx_s eσ22).trans (yσ21)
  refine Exists.intro (nI 0) (And.intro rfl ?_)
  obtain ⟨σ23, eσ23⟩ : ∃ zs, zs = (qx_wi σ22 b 18 (nI 0)) := ⟨_, rfl⟩
  refine And.intro (by rw [show qx_sh T _ b = _ from yσ22]; rfl) (Exists.intro 18 (Exists.intro σ23 (And.intro rfl (And.intro eσ23.symm ?_))))
  have nσ23 : σ23.1 = b + 14 := (by rw [eσ23]; exact nσ22)
  have mσ23 : σ23.2.1 = σ.2.1 + 3403 := (by rw [eσ23]; exact mσ22)
  have qσ23 := qσ22.wi eσ23 (Nat.le_refl _)
  have zσ23 := zσ22.wi eσ23 (Or.inl rfl)
  have yσ23 : qx_sh T σ23 b = (43, 0) := (kx_s eσ23).trans (yσ22)
  refine And.intro (by rw [show qx_sh T _ b = _ from yσ23]; rfl) (Exists.intro 10 (Exists.intro (some (b + 9)) (And.intro rfl (And.intro ((kx_r eσ23).trans ((kx_r eσ22).trans ((kx_r eσ21).trans ((kx_r eσ20).trans ((kw_ne eσ19 (Or.inr (by decide))).trans ((ka_r eσ18 (ka_ne0 nσ17 (by decide))).trans ((kw_ne eσ17 (Or.inr (by decide))).trans ((ka_r eσ16 (ka_ne0 nσ15 (by decide))).trans ((kw_ne eσ15 (Or.inr (by decide))).trans ((ka_r eσ14 (ka_ne0 nσ13 (by decide))).trans ((kw_ne eσ13 (Or.inr (by decide))).trans ((ka_r eσ12 (ka_ne0 nσ11 (by decide))).trans (kw_eq eσ11))))))))))))) ?_))))
  refine Exists.intro ((-1000000)) (And.intro (by decide) ?_)
  refine Exists.intro _ (And.intro (by decide) (qx_M_mono (c_fillT (N := 1024) (show qx_sh T σ23 (b + 9) = (0, 1024) from (kx_s eσ23).trans ((kx_s eσ22).trans ((kx_s eσ21).trans ((kx_s eσ20).trans ((kw_s eσ19).trans ((ka_s eσ18 (ka_ne nσ17 (by decide))).trans ((kw_s eσ17).trans ((ka_s eσ16 (ka_ne nσ15 (by decide))).trans ((kw_s eσ15).trans ((ka_s eσ14 (ka_ne nσ13 (by decide))).trans ((kw_s eσ13).trans ((ka_s eσ12 (ka_ne nσ11 (by decide))).trans ((kw_s eσ11).trans (ka_n eσ10 nσ9 (hT _ (Nat.le_add_right _ _)))))))))))))))) (by decide)) ?_))
  rintro _ σ24 ⟨rfl, fσ24, gσ24⟩
  have nσ24 : σ24.1 = b + 14 := (by rw [fσ24.1]; exact nσ23)
  have mσ24 : σ24.2.1 = σ.2.1 + 3403 := (by rw [fσ24.2.1]; exact mσ23)
  have qσ24 := qσ23.fl fσ24 (by omega)
  have zσ24 := zσ23.fl fσ24 (fun j => by simp [pL])
  refine qx_K_le (ls := [.retAddr 0, .retAddr 0, .retAddr 0]) ⟨Or.inl rfl, Or.inl rfl, Or.inl rfl, trivial⟩ ?_
  refine qz_K (a := b) (ci := 3) hb (hT _ (Nat.le_refl _)) (kx_d (show qx_sh T σ24 b = (43, 0) from (kf_s fσ24 _).trans (yσ23)) (hT _ (Nat.le_refl _))) (by decide) (fun k => match k with | 0 => ⟨fun h => absurd h (by decide), fun _ => ((fσ24.r _ _).trans ((kx_r eσ23).trans ((kx_r eσ22).trans ((kx_r eσ21).trans ((kx_r eσ20).trans ((kw_ne eσ19 (Or.inr (by decide))).trans ((ka_r eσ18 (ka_ne0 nσ17 (by decide))).trans ((kw_ne eσ17 (Or.inr (by decide))).trans ((ka_r eσ16 (ka_ne0 nσ15 (by decide))).trans ((kw_ne eσ15 (Or.inr (by decide))).trans ((ka_r eσ14 (ka_ne0 nσ13 (by decide))).trans ((kw_ne eσ13 (Or.inr (by decide))).trans ((ka_r eσ12 (ka_ne0 nσ11 (by decide))).trans ((kw_ne eσ11 (Or.inr (by decide))).trans ((ka_r eσ10 (ka_ne0 nσ9 (by decide))).trans ((kw_ne eσ9 (Or.inr (by decide))).trans ((ka_r eσ8 (ka_ne0 nσ7 (by decide))).trans ((kw_ne eσ7 (Or.inr (by decide))).trans ((ka_r eσ6 (ka_ne0 nσ5 (by decide))).trans ((kw_ne eσ5 (Or.inr (by decide))).trans ((ka_r eσ4 (ka_ne0 nσ3 (by decide))).trans ((kw_ne eσ3 (Or.inr (by decide))).trans ((ka_r eσ2 (ka_ne0 nσ1 (by decide))).trans (r0σ1))))))))))))))))))))))))⟩ | 1 => ⟨fun h => absurd h (by decide), fun _ => ((fσ24.r _ _).trans ((kx_r eσ23).trans ((kx_r eσ22).trans ((kx_r eσ21).trans ((kx_r eσ20).trans ((kw_ne eσ19 (Or.inr (by decide))).trans ((ka_r eσ18 (ka_ne0 nσ17 (by decide))).trans ((kw_ne eσ17 (Or.inr (by decide))).trans ((ka_r eσ16 (ka_ne0 nσ15 (by decide))).trans ((kw_ne eσ15 (Or.inr (by decide))).trans ((ka_r eσ14 (ka_ne0 nσ13 (by decide))).trans ((kw_ne eσ13 (Or.inr (by decide))).trans ((ka_r eσ12 (ka_ne0 nσ11 (by decide))).trans ((kw_ne eσ11 (Or.inr (by decide))).trans ((ka_r eσ10 (ka_ne0 nσ9 (by decide))).trans ((kw_ne eσ9 (Or.inr (by decide))).trans ((ka_r eσ8 (ka_ne0 nσ7 (by decide))).trans ((kw_ne eσ7 (Or.inr (by decide))).trans ((ka_r eσ6 (ka_ne0 nσ5 (by decide))).trans ((kw_ne eσ5 (Or.inr (by decide))).trans ((ka_r eσ4 (ka_ne0 nσ3 (by decide))).trans ((kw_ne eσ3 (Or.inr (by decide))).trans ((ka_r eσ2 (ka_ne0 nσ1 (by decide))).trans (r1σ1))))))))))))))))))))))))⟩ | 2 => ⟨fun _ => ((fσ24.r _ _).trans ((kx_r eσ23).trans ((kx_r eσ22).trans ((kx_r eσ21).trans ((kx_r eσ20).trans ((kw_ne eσ19 (Or.inr (by decide))).trans ((ka_r eσ18 (ka_ne0 nσ17 (by decide))).trans ((kw_ne eσ17 (Or.inr (by decide))).trans ((ka_r eσ16 (ka_ne0 nσ15 (by decide))).trans ((kw_ne eσ15 (Or.inr (by decide))).trans ((ka_r eσ14 (ka_ne0 nσ13 (by decide))).trans ((kw_ne eσ13 (Or.inr (by decide))).trans ((ka_r eσ12 (ka_ne0 nσ11 (by decide))).trans ((kw_ne eσ11 (Or.inr (by decide))).trans ((ka_r eσ10 (ka_ne0 nσ9 (by decide))).trans ((kw_ne eσ9 (Or.inr (by decide))).trans ((ka_r eσ8 (ka_ne0 nσ7 (by decide))).trans ((kw_ne eσ7 (Or.inr (by decide))).trans ((ka_r eσ6 (ka_ne0 nσ5 (by decide))).trans ((kw_ne eσ5 (Or.inr (by decide))).trans ((ka_r eσ4 (ka_ne0 nσ3 (by decide))).trans ((kw_ne eσ3 (Or.inr (by decide))).trans ((ka_r eσ2 (ka_ne0 nσ1 (by decide))).trans (r2σ1)))))))))))))))))))))))), fun h => absurd h (by decide)⟩ | 3 => ⟨fun _ => ((fσ24.r _ _).trans ((kx_r eσ23).trans ((kx_r eσ22).trans ((kx_r eσ21).trans ((kx_r eσ20).trans ((kw_ne eσ19 (Or.inr (by decide))).trans ((ka_r eσ18 (ka_ne0 nσ17 (by decide))).trans ((kw_ne eσ17 (Or.inr (by decide))).trans ((ka_r eσ16 (ka_ne0 nσ15 (by decide))).trans ((kw_ne eσ15 (Or.inr (by decide))).trans ((ka_r eσ14 (ka_ne0 nσ13 (by decide))).trans ((kw_ne eσ13 (Or.inr (by decide))).trans ((ka_r eσ12 (ka_ne0 nσ11 (by decide))).trans ((kw_ne eσ11 (Or.inr (by decide))).trans ((ka_r eσ10 (ka_ne0 nσ9 (by decide))).trans ((kw_ne eσ9 (Or.inr (by decide))).trans ((ka_r eσ8 (ka_ne0 nσ7 (by decide))).trans ((kw_ne eσ7 (Or.inr (by decide))).trans ((ka_r eσ6 (ka_ne0 nσ5 (by decide))).trans ((kw_ne eσ5 (Or.inr (by decide))).trans ((ka_r eσ4 (ka_ne0 nσ3 (by decide))).trans ((kw_ne eσ3 (Or.inr (by decide))).trans ((ka_r eσ2 (ka_ne0 nσ1 (by decide))).trans (r3σ1)))))))))))))))))))))))), fun h => absurd h (by decide)⟩ | 4 => ⟨fun _ => ((fσ24.r _ _).trans ((kx_r eσ23).trans ((kx_r eσ22).trans ((kx_r eσ21).trans ((kx_r eσ20).trans ((kw_ne eσ19 (Or.inr (by decide))).trans ((ka_r eσ18 (ka_ne0 nσ17 (by decide))).trans ((kw_ne eσ17 (Or.inr (by decide))).trans ((ka_r eσ16 (ka_ne0 nσ15 (by decide))).trans ((kw_ne eσ15 (Or.inr (by decide))).trans ((ka_r eσ14 (ka_ne0 nσ13 (by decide))).trans ((kw_ne eσ13 (Or.inr (by decide))).trans ((ka_r eσ12 (ka_ne0 nσ11 (by decide))).trans ((kw_ne eσ11 (Or.inr (by decide))).trans ((ka_r eσ10 (ka_ne0 nσ9 (by decide))).trans ((kw_ne eσ9 (Or.inr (by decide))).trans ((ka_r eσ8 (ka_ne0 nσ7 (by decide))).trans ((kw_ne eσ7 (Or.inr (by decide))).trans ((ka_r eσ6 (ka_ne0 nσ5 (by decide))).trans ((kw_ne eσ5 (Or.inr (by decide))).trans ((ka_r eσ4 (ka_ne0 nσ3 (by decide))).trans ((kw_ne eσ3 (Or.inr (by decide))).trans ((ka_r eσ2 (ka_ne0 nσ1 (by decide))).trans (r4σ1)))))))))))))))))))))))), fun h => absurd h (by decide)⟩ | 5 => ⟨fun _ => ((fσ24.r _ _).trans ((kx_r eσ23).trans ((kx_r eσ22).trans ((kx_r eσ21).trans ((kx_r eσ20).trans ((kw_ne eσ19 (Or.inr (by decide))).trans ((ka_r eσ18 (ka_ne0 nσ17 (by decide))).trans ((kw_ne eσ17 (Or.inr (by decide))).trans ((ka_r eσ16 (ka_ne0 nσ15 (by decide))).trans ((kw_ne eσ15 (Or.inr (by decide))).trans ((ka_r eσ14 (ka_ne0 nσ13 (by decide))).trans ((kw_ne eσ13 (Or.inr (by decide))).trans ((ka_r eσ12 (ka_ne0 nσ11 (by decide))).trans ((kw_ne eσ11 (Or.inr (by decide))).trans ((ka_r eσ10 (ka_ne0 nσ9 (by decide))).trans ((kw_ne eσ9 (Or.inr (by decide))).trans ((ka_r eσ8 (ka_ne0 nσ7 (by decide))).trans ((kw_ne eσ7 (Or.inr (by decide))).trans ((ka_r eσ6 (ka_ne0 nσ5 (by decide))).trans ((kw_ne eσ5 (Or.inr (by decide))).trans ((ka_r eσ4 (ka_ne0 nσ3 (by decide))).trans ((kw_ne eσ3 (Or.inr (by decide))).trans ((ka_r eσ2 (ka_ne0 nσ1 (by decide))).trans (r5σ1)))))))))))))))))))))))), fun h => absurd h (by decide)⟩ | 6 => ⟨fun _ => ((fσ24.r _ _).trans ((kx_r eσ23).trans ((kx_r eσ22).trans ((kx_r eσ21).trans ((kx_r eσ20).trans ((kw_ne eσ19 (Or.inr (by decide))).trans ((ka_r eσ18 (ka_ne0 nσ17 (by decide))).trans ((kw_ne eσ17 (Or.inr (by decide))).trans ((ka_r eσ16 (ka_ne0 nσ15 (by decide))).trans ((kw_ne eσ15 (Or.inr (by decide))).trans ((ka_r eσ14 (ka_ne0 nσ13 (by decide))).trans ((kw_ne eσ13 (Or.inr (by decide))).trans ((ka_r eσ12 (ka_ne0 nσ11 (by decide))).trans ((kw_ne eσ11 (Or.inr (by decide))).trans ((ka_r eσ10 (ka_ne0 nσ9 (by decide))).trans ((kw_ne eσ9 (Or.inr (by decide))).trans ((ka_r eσ8 (ka_ne0 nσ7 (by decide))).trans ((kw_ne eσ7 (Or.inr (by decide))).trans ((ka_r eσ6 (ka_ne0 nσ5 (by decide))).trans ((kw_ne eσ5 (Or.inr (by decide))).trans ((ka_r eσ4 (ka_ne0 nσ3 (by decide))).trans (kw_eq eσ3)))))))))))))))))))))), fun h => absurd h (by decide)⟩ | 7 => ⟨fun _ => ((fσ24.r _ _).trans ((kx_r eσ23).trans ((kx_r eσ22).trans ((kx_r eσ21).trans ((kx_r eσ20).trans ((kw_ne eσ19 (Or.inr (by decide))).trans ((ka_r eσ18 (ka_ne0 nσ17 (by decide))).trans ((kw_ne eσ17 (Or.inr (by decide))).trans ((ka_r eσ16 (ka_ne0 nσ15 (by decide))).trans ((kw_ne eσ15 (Or.inr (by decide))).trans ((ka_r eσ14 (ka_ne0 nσ13 (by decide))).trans ((kw_ne eσ13 (Or.inr (by decide))).trans ((ka_r eσ12 (ka_ne0 nσ11 (by decide))).trans ((kw_ne eσ11 (Or.inr (by decide))).trans ((ka_r eσ10 (ka_ne0 nσ9 (by decide))).trans ((kw_ne eσ9 (Or.inr (by decide))).trans ((ka_r eσ8 (ka_ne0 nσ7 (by decide))).trans ((kw_ne eσ7 (Or.inr (by decide))).trans ((ka_r eσ6 (ka_ne0 nσ5 (by decide))).trans (kw_eq eσ5)))))))))))))))))))), fun h => absurd h (by decide)⟩ | 8 => ⟨fun _ => ((fσ24.r _ _).trans ((kx_r eσ23).trans ((kx_r eσ22).trans ((kx_r eσ21).trans ((kx_r eσ20).trans ((kw_ne eσ19 (Or.inr (by decide))).trans ((ka_r eσ18 (ka_ne0 nσ17 (by decide))).trans ((kw_ne eσ17 (Or.inr (by decide))).trans ((ka_r eσ16 (ka_ne0 nσ15 (by decide))).trans ((kw_ne eσ15 (Or.inr (by decide))).trans ((ka_r eσ14 (ka_ne0 nσ13 (by decide))).trans ((kw_ne eσ13 (Or.inr (by decide))).trans ((ka_r eσ12 (ka_ne0 nσ11 (by decide))).trans ((kw_ne eσ11 (Or.inr (by decide))).trans ((ka_r eσ10 (ka_ne0 nσ9 (by decide))).trans ((kw_ne eσ9 (Or.inr (by decide))).trans ((ka_r eσ8 (ka_ne0 nσ7 (by decide))).trans (kw_eq eσ7)))))))))))))))))), fun h => absurd h (by decide)⟩ | 9 => ⟨fun _ => ((fσ24.r _ _).trans ((kx_r eσ23).trans ((kx_r eσ22).trans ((kx_r eσ21).trans ((kx_r eσ20).trans ((kw_ne eσ19 (Or.inr (by decide))).trans ((ka_r eσ18 (ka_ne0 nσ17 (by decide))).trans ((kw_ne eσ17 (Or.inr (by decide))).trans ((ka_r eσ16 (ka_ne0 nσ15 (by decide))).trans ((kw_ne eσ15 (Or.inr (by decide))).trans ((ka_r eσ14 (ka_ne0 nσ13 (by decide))).trans ((kw_ne eσ13 (Or.inr (by decide))).trans ((ka_r eσ12 (ka_ne0 nσ11 (by decide))).trans ((kw_ne eσ11 (Or.inr (by decide))).trans ((ka_r eσ10 (ka_ne0 nσ9 (by decide))).trans (kw_eq eσ9)))))))))))))))), fun h => absurd h (by decide)⟩ | 10 => ⟨fun _ => ((fσ24.r _ _).trans ((kx_r eσ23).trans ((kx_r eσ22).trans ((kx_r eσ21).trans ((kx_r eσ20).trans ((kw_ne eσ19 (Or.inr (by decide))).trans ((ka_r eσ18 (ka_ne0 nσ17 (by decide))).trans ((kw_ne eσ17 (Or.inr (by decide))).trans ((ka_r eσ16 (ka_ne0 nσ15 (by decide))).trans ((kw_ne eσ15 (Or.inr (by decide))).trans ((ka_r eσ14 (ka_ne0 nσ13 (by decide))).trans ((kw_ne eσ13 (Or.inr (by decide))).trans ((ka_r eσ12 (ka_ne0 nσ11 (by decide))).trans (kw_eq eσ11)))))))))))))), fun h => absurd h (by decide)⟩ | 11 => ⟨fun _ => ((fσ24.r _ _).trans ((kx_r eσ23).trans ((kx_r eσ22).trans ((kx_r eσ21).trans ((kx_r eσ20).trans ((kw_ne eσ19 (Or.inr (by decide))).trans ((ka_r eσ18 (ka_ne0 nσ17 (by decide))).trans ((kw_ne eσ17 (Or.inr (by decide))).trans ((ka_r eσ16 (ka_ne0 nσ15 (by decide))).trans ((kw_ne eσ15 (Or.inr (by decide))).trans ((ka_r eσ14 (ka_ne0 nσ13 (by decide))).trans (kw_eq eσ13)))))))))))), fun h => absurd h (by decide)⟩ | 12 => ⟨fun _ => ((fσ24.r _ _).trans ((kx_r eσ23).trans ((kx_r eσ22).trans ((kx_r eσ21).trans ((kx_r eσ20).trans ((kw_ne eσ19 (Or.inr (by decide))).trans ((ka_r eσ18 (ka_ne0 nσ17 (by decide))).trans ((kw_ne eσ17 (Or.inr (by decide))).trans ((ka_r eσ16 (ka_ne0 nσ15 (by decide))).trans (kw_eq eσ15)))))))))), fun h => absurd h (by decide)⟩ | 13 => ⟨fun _ => ((fσ24.r _ _).trans ((kx_r eσ23).trans ((kx_r eσ22).trans ((kx_r eσ21).trans ((kx_r eσ20).trans ((kw_ne eσ19 (Or.inr (by decide))).trans ((ka_r eσ18 (ka_ne0 nσ17 (by decide))).trans (kw_eq eσ17)))))))), fun h => absurd h (by decide)⟩ | 14 => ⟨fun _ => ((fσ24.r _ _).trans ((kx_r eσ23).trans ((kx_r eσ22).trans ((kx_r eσ21).trans ((kx_r eσ20).trans (kw_eq eσ19)))))), fun h => absurd h (by decide)⟩ | 15 => ⟨fun h => absurd h (by decide), fun h => absurd h (by decide)⟩ | 16 => ⟨fun h => absurd h (by decide), fun h => absurd h (by decide)⟩ | 17 => ⟨fun h => absurd h (by decide), fun h => absurd h (by decide)⟩ | 18 => ⟨fun h => absurd h (by decide), fun h => absurd h (by decide)⟩ | (k + 19) => ⟨fun h => absurd (show (9 : Nat) = 3 from h) (by decide), fun h => absurd (show (9 : Nat) = 4 from h) (by decide)⟩) ?_
  refine qy_wp_ok (c := CX3_init) (cuts := []) vX3_init wX3_init 2000 108 _ _ _ ?_
  exact ⟨rfl, qσ24.sl (Nat.le_refl _), nσ24, mσ24, zσ24.sl, ⟨qz_b (hT _ (Nat.le_refl _)), (qz_sh (by omega)).trans (show qx_sh T σ24 (b + 1) = (0, 10) from (kf_s fσ24 _).trans ((kx_s eσ23).trans ((kx_s eσ22).trans ((kx_s eσ21).trans ((kx_s eσ20).trans ((kw_s eσ19).trans ((ka_s eσ18 (ka_ne nσ17 (by decide))).trans ((kw_s eσ17).trans ((ka_s eσ16 (ka_ne nσ15 (by decide))).trans ((kw_s eσ15).trans ((ka_s eσ14 (ka_ne nσ13 (by decide))).trans ((kw_s eσ13).trans ((ka_s eσ12 (ka_ne nσ11 (by decide))).trans ((kw_s eσ11).trans ((ka_s eσ10 (ka_ne nσ9 (by decide))).trans ((kw_s eσ9).trans ((ka_s eσ8 (ka_ne nσ7 (by decide))).trans ((kw_s eσ7).trans ((ka_s eσ6 (ka_ne nσ5 (by decide))).trans ((kw_s eσ5).trans ((ka_s eσ4 (ka_ne nσ3 (by decide))).trans ((kw_s eσ3).trans ((ka_s eσ2 (ka_ne nσ1 (by decide))).trans (s1σ1)))))))))))))))))))))))), (qz_sh (by omega)).trans (show qx_sh T σ24 (b + 2) = (0, 80) from (kf_s fσ24 _).trans ((kx_s eσ23).trans ((kx_s eσ22).trans ((kx_s eσ21).trans ((kx_s eσ20).trans ((kw_s eσ19).trans ((ka_s eσ18 (ka_ne nσ17 (by decide))).trans ((kw_s eσ17).trans ((ka_s eσ16 (ka_ne nσ15 (by decide))).trans ((kw_s eσ15).trans ((ka_s eσ14 (ka_ne nσ13 (by decide))).trans ((kw_s eσ13).trans ((ka_s eσ12 (ka_ne nσ11 (by decide))).trans ((kw_s eσ11).trans ((ka_s eσ10 (ka_ne nσ9 (by decide))).trans ((kw_s eσ9).trans ((ka_s eσ8 (ka_ne nσ7 (by decide))).trans ((kw_s eσ7).trans ((ka_s eσ6 (ka_ne nσ5 (by decide))).trans ((kw_s eσ5).trans ((ka_s eσ4 (ka_ne nσ3 (by decide))).trans ((kw_s eσ3).trans ((ka_s eσ2 (ka_ne nσ1 (by decide))).trans (s2σ1)))))))))))))))))))))))), (qz_sh (by omega)).trans (show qx_sh T σ24 (b + 3) = (0, 10) from (kf_s fσ24 _).trans ((kx_s eσ23).trans ((kx_s eσ22).trans ((kx_s eσ21).trans ((kx_s eσ20).trans ((kw_s eσ19).trans ((ka_s eσ18 (ka_ne nσ17 (by decide))).trans ((kw_s eσ17).trans ((ka_s eσ16 (ka_ne nσ15 (by decide))).trans ((kw_s eσ15).trans ((ka_s eσ14 (ka_ne nσ13 (by decide))).trans ((kw_s eσ13).trans ((ka_s eσ12 (ka_ne nσ11 (by decide))).trans ((kw_s eσ11).trans ((ka_s eσ10 (ka_ne nσ9 (by decide))).trans ((kw_s eσ9).trans ((ka_s eσ8 (ka_ne nσ7 (by decide))).trans ((kw_s eσ7).trans ((ka_s eσ6 (ka_ne nσ5 (by decide))).trans ((kw_s eσ5).trans ((ka_s eσ4 (ka_ne nσ3 (by decide))).trans ((kw_s eσ3).trans ((ka_s eσ2 (ka_ne nσ1 (by decide))).trans (s3σ1)))))))))))))))))))))))), (qz_sh (by omega)).trans (show qx_sh T σ24 (b + 4) = (0, 10) from (kf_s fσ24 _).trans ((kx_s eσ23).trans ((kx_s eσ22).trans ((kx_s eσ21).trans ((kx_s eσ20).trans ((kw_s eσ19).trans ((ka_s eσ18 (ka_ne nσ17 (by decide))).trans ((kw_s eσ17).trans ((ka_s eσ16 (ka_ne nσ15 (by decide))).trans ((kw_s eσ15).trans ((ka_s eσ14 (ka_ne nσ13 (by decide))).trans ((kw_s eσ13).trans ((ka_s eσ12 (ka_ne nσ11 (by decide))).trans ((kw_s eσ11).trans ((ka_s eσ10 (ka_ne nσ9 (by decide))).trans ((kw_s eσ9).trans ((ka_s eσ8 (ka_ne nσ7 (by decide))).trans ((kw_s eσ7).trans ((ka_s eσ6 (ka_ne nσ5 (by decide))).trans ((kw_s eσ5).trans ((ka_s eσ4 (ka_ne nσ3 (by decide))).trans ((kw_s eσ3).trans ((ka_s eσ2 (ka_ne nσ1 (by decide))).trans (s4σ1)))))))))))))))))))))))), (qz_sh (by omega)).trans (show qx_sh T σ24 (b + 5) = (0, 50) from (kf_s fσ24 _).trans ((kx_s eσ23).trans ((kx_s eσ22).trans ((kx_s eσ21).trans ((kx_s eσ20).trans ((kw_s eσ19).trans ((ka_s eσ18 (ka_ne nσ17 (by decide))).trans ((kw_s eσ17).trans ((ka_s eσ16 (ka_ne nσ15 (by decide))).trans ((kw_s eσ15).trans ((ka_s eσ14 (ka_ne nσ13 (by decide))).trans ((kw_s eσ13).trans ((ka_s eσ12 (ka_ne nσ11 (by decide))).trans ((kw_s eσ11).trans ((ka_s eσ10 (ka_ne nσ9 (by decide))).trans ((kw_s eσ9).trans ((ka_s eσ8 (ka_ne nσ7 (by decide))).trans ((kw_s eσ7).trans ((ka_s eσ6 (ka_ne nσ5 (by decide))).trans ((kw_s eσ5).trans ((ka_s eσ4 (ka_ne nσ3 (by decide))).trans ((kw_s eσ3).trans (ka_n eσ2 nσ1 (hT _ (Nat.le_add_right _ _))))))))))))))))))))))))), (qz_sh (by omega)).trans (show qx_sh T σ24 (b + 6) = (0, 5) from (kf_s fσ24 _).trans ((kx_s eσ23).trans ((kx_s eσ22).trans ((kx_s eσ21).trans ((kx_s eσ20).trans ((kw_s eσ19).trans ((ka_s eσ18 (ka_ne nσ17 (by decide))).trans ((kw_s eσ17).trans ((ka_s eσ16 (ka_ne nσ15 (by decide))).trans ((kw_s eσ15).trans ((ka_s eσ14 (ka_ne nσ13 (by decide))).trans ((kw_s eσ13).trans ((ka_s eσ12 (ka_ne nσ11 (by decide))).trans ((kw_s eσ11).trans ((ka_s eσ10 (ka_ne nσ9 (by decide))).trans ((kw_s eσ9).trans ((ka_s eσ8 (ka_ne nσ7 (by decide))).trans ((kw_s eσ7).trans ((ka_s eσ6 (ka_ne nσ5 (by decide))).trans ((kw_s eσ5).trans (ka_n eσ4 nσ3 (hT _ (Nat.le_add_right _ _))))))))))))))))))))))), (qz_sh (by omega)).trans (show qx_sh T σ24 (b + 7) = (0, 50) from (kf_s fσ24 _).trans ((kx_s eσ23).trans ((kx_s eσ22).trans ((kx_s eσ21).trans ((kx_s eσ20).trans ((kw_s eσ19).trans ((ka_s eσ18 (ka_ne nσ17 (by decide))).trans ((kw_s eσ17).trans ((ka_s eσ16 (ka_ne nσ15 (by decide))).trans ((kw_s eσ15).trans ((ka_s eσ14 (ka_ne nσ13 (by decide))).trans ((kw_s eσ13).trans ((ka_s eσ12 (ka_ne nσ11 (by decide))).trans ((kw_s eσ11).trans ((ka_s eσ10 (ka_ne nσ9 (by decide))).trans ((kw_s eσ9).trans ((ka_s eσ8 (ka_ne nσ7 (by decide))).trans ((kw_s eσ7).trans (ka_n eσ6 nσ5 (hT _ (Nat.le_add_right _ _))))))))))))))))))))), (qz_sh (by omega)).trans (show qx_sh T σ24 (b + 8) = (0, 100) from (kf_s fσ24 _).trans ((kx_s eσ23).trans ((kx_s eσ22).trans ((kx_s eσ21).trans ((kx_s eσ20).trans ((kw_s eσ19).trans ((ka_s eσ18 (ka_ne nσ17 (by decide))).trans ((kw_s eσ17).trans ((ka_s eσ16 (ka_ne nσ15 (by decide))).trans ((kw_s eσ15).trans ((ka_s eσ14 (ka_ne nσ13 (by decide))).trans ((kw_s eσ13).trans ((ka_s eσ12 (ka_ne nσ11 (by decide))).trans ((kw_s eσ11).trans ((ka_s eσ10 (ka_ne nσ9 (by decide))).trans ((kw_s eσ9).trans (ka_n eσ8 nσ7 (hT _ (Nat.le_add_right _ _))))))))))))))))))), (qz_sh (by omega)).trans (show qx_sh T σ24 (b + 9) = (0, 1024) from (kf_s fσ24 _).trans ((kx_s eσ23).trans ((kx_s eσ22).trans ((kx_s eσ21).trans ((kx_s eσ20).trans ((kw_s eσ19).trans ((ka_s eσ18 (ka_ne nσ17 (by decide))).trans ((kw_s eσ17).trans ((ka_s eσ16 (ka_ne nσ15 (by decide))).trans ((kw_s eσ15).trans ((ka_s eσ14 (ka_ne nσ13 (by decide))).trans ((kw_s eσ13).trans ((ka_s eσ12 (ka_ne nσ11 (by decide))).trans ((kw_s eσ11).trans (ka_n eσ10 nσ9 (hT _ (Nat.le_add_right _ _))))))))))))))))), (qz_sh (by omega)).trans (show qx_sh T σ24 (b + 10) = (0, 1024) from (kf_s fσ24 _).trans ((kx_s eσ23).trans ((kx_s eσ22).trans ((kx_s eσ21).trans ((kx_s eσ20).trans ((kw_s eσ19).trans ((ka_s eσ18 (ka_ne nσ17 (by decide))).trans ((kw_s eσ17).trans ((ka_s eσ16 (ka_ne nσ15 (by decide))).trans ((kw_s eσ15).trans ((ka_s eσ14 (ka_ne nσ13 (by decide))).trans ((kw_s eσ13).trans (ka_n eσ12 nσ11 (hT _ (Nat.le_add_right _ _))))))))))))))), (qz_sh (by omega)).trans (show qx_sh T σ24 (b + 11) = (0, 11) from (kf_s fσ24 _).trans ((kx_s eσ23).trans ((kx_s eσ22).trans ((kx_s eσ21).trans ((kx_s eσ20).trans ((kw_s eσ19).trans ((ka_s eσ18 (ka_ne nσ17 (by decide))).trans ((kw_s eσ17).trans ((ka_s eσ16 (ka_ne nσ15 (by decide))).trans ((kw_s eσ15).trans (ka_n eσ14 nσ13 (hT _ (Nat.le_add_right _ _))))))))))))), (qz_sh (by omega)).trans (show qx_sh T σ24 (b + 12) = (0, 1024) from (kf_s fσ24 _).trans ((kx_s eσ23).trans ((kx_s eσ22).trans ((kx_s eσ21).trans ((kx_s eσ20).trans ((kw_s eσ19).trans ((ka_s eσ18 (ka_ne nσ17 (by decide))).trans ((kw_s eσ17).trans (ka_n eσ16 nσ15 (hT _ (Nat.le_add_right _ _))))))))))), (qz_sh (by omega)).trans (show qx_sh T σ24 (b + 13) = (0, 5) from (kf_s fσ24 _).trans ((kx_s eσ23).trans ((kx_s eσ22).trans ((kx_s eσ21).trans ((kx_s eσ20).trans ((kw_s eσ19).trans (ka_n eσ18 nσ17 (hT _ (Nat.le_add_right _ _)))))))))⟩, gσ24⟩
def i8S (T : qx_T) (s : qx_S) (b : Nat) : Prop := qx_sh T s b = (48, 0) ∧ hS1 T s (b + 1) ∧ hS7 T s (b + 6) ∧ qx_sh T s (b + 11) = (6, 20) ∧ hS4 T s (b + 12) ∧ qx_sh T s (b + 14) = (4, 12) ∧ qx_sh T s (b + 15) = (0, 10) ∧ qx_mr s b 0 = some (b + 1) ∧ qx_mr s b 1 = some (b + 6) ∧ qx_mr s b 2 = some (b + 11) ∧ qx_mr s b 3 = some (b + 12) ∧ qx_mr s b 4 = some (b + 14) ∧ qx_mr s b 5 = some (b + 15) ∧ qx_mi s b 9 = -1
theorem hS7.cg {T : qx_T} {σ s : qx_S} {b : Nat} (h : hS7 T σ b) (d : ∀ a, b ≤ a → a ≤ b + 4 → s.2.2.1 a = σ.2.2.1 a) : hS7 T s b := ⟨(kx_sh (d _ (by omega) (by omega))).trans h.1, (kx_sh (d _ (by omega) (by omega))).trans h.2.1, (kx_sh (d _ (by omega) (by omega))).trans h.2.2.1, (kx_sh (d _ (by omega) (by omega))).trans h.2.2.2.1, (kx_sh (d _ (by omega) (by omega))).trans h.2.2.2.2⟩
theorem hS1.cg {T : qx_T} {σ s : qx_S} {b : Nat} (h : hS1 T σ b) (d : ∀ a, b ≤ a → a ≤ b + 4 → s.2.2.1 a = σ.2.2.1 a) : hS1 T s b := ⟨(kx_sh (d _ (by omega) (by omega))).trans h.1, (kx_sh (d _ (by omega) (by omega))).trans h.2.1, (kx_sh (d _ (by omega) (by omega))).trans h.2.2.1, (kx_sh (d _ (by omega) (by omega))).trans h.2.2.2.1, (kx_sh (d _ (by omega) (by omega))).trans h.2.2.2.2⟩
theorem hS4.cg {T : qx_T} {σ s : qx_S} {b : Nat} (h : hS4 T σ b) (d : ∀ a, b ≤ a → a ≤ b + 1 → s.2.2.1 a = σ.2.2.1 a) : hS4 T s b := ⟨(kx_sh (d _ (by omega) (by omega))).trans h.1, (kx_sh (d _ (by omega) (by omega))).trans h.2⟩
theorem i8S.cg {T : qx_T} {σ s : qx_S} {b : Nat} (h : i8S T σ b) (d : ∀ a, b ≤ a → a < b + 16 → s.2.2.1 a = σ.2.2.1 a) (r : ∀ k, qx_mr s b k = qx_mr σ b k) (i : qx_mi s b 9 = qx_mi σ b 9) : i8S T s b := by
  obtain ⟨a1, a2, a3, a4, a5, a6, a7, a8, a9, a10, a11, a12, a13, a14⟩ := h
  exact ⟨(kx_sh (d _ (by omega) (by omega))).trans a1, a2.cg (fun _ _ _ => d _ (by omega) (by omega)), a3.cg (fun _ _ _ => d _ (by omega) (by omega)), (kx_sh (d _ (by omega) (by omega))).trans a4, a5.cg (fun _ _ _ => d _ (by omega) (by omega)), (kx_sh (d _ (by omega) (by omega))).trans a6, (kx_sh (d _ (by omega) (by omega))).trans a7, (r _).trans a8, (r _).trans a9, (r _).trans a10, (r _).trans a11, (r _).trans a12, (r _).trans a13, i.trans a14⟩
abbrev i8x (b : Nat) : List (Nat × Option Nat) := [(b, some 9), (b + 15, none)]
/-- i standings, k rings of the book are made -/
def i8I (T : qx_T) (σ0 : qx_S) (b i k : Nat) (s : qx_S) : Prop := s.1 = b + 16 + 5 * i + 2 * k ∧ s.2.1 = σ0.2.1 + 303 + 136 * i + 8 * k ∧ qh b σ0 s ∧ kz b (i8x b) s ∧ i8S T s b ∧ (∀ t, t < i → qx_mr s (b + 11) t = some (b + 16 + 5 * t) ∧ hS7 T s (b + 16 + 5 * t)) ∧ ∀ t, t < k → qx_mr s (b + 14) t = some (b + 116 + 2 * t) ∧ hS4 T s (b + 116 + 2 * t)
def hS8 (T : qx_T) (s : qx_S) (b : Nat) : Prop := qx_sh T s b = (16, 0) ∧ hS1 T s (b + 1) ∧ hS7 T s (b + 6) ∧ qx_sh T s (b + 11) = (6, 20) ∧ hS4 T s (b + 12) ∧ qx_sh T s (b + 14) = (4, 12) ∧ qx_sh T s (b + 15) = (0, 10) ∧ (∀ t, t < 20 → qx_mr s (b + 11) t = some (b + 16 + 5 * t) ∧ hS7 T s (b + 16 + 5 * t)) ∧ ∀ t, t < 12 → qx_mr s (b + 14) t = some (b + 116 + 2 * t) ∧ hS4 T s (b + 116 + 2 * t)
theorem i8_end {G : qx_G} {T : qx_T} {σ0 σ : qx_S} {b : Nat} (hb : 3 ≤ b) (hT : ∀ a, b ≤ a → T a = none) (h : i8I T σ0 b 20 12 σ) : qx_K G T 1 RX8 YX8_init 142 [.ref b, .retAddr 0] [] σ (fun r s => r = none ∧ qh b σ0 s ∧ s.1 = b + 140 ∧ s.2.1 = σ0.2.1 + 3119 ∧ kz b (i8x b) s ∧ qx_mi s b 9 = -1 ∧ (∀ p, p < 10 → qx_mi s (b + 15) p = -1) ∧ hS8 T s b) := by
  obtain ⟨nσ, mσ, qσ, zσ, hS, hp, hg⟩ := h
  obtain ⟨a1, a2, a3, a4, a5, a6, a7, a8, a9, a10, a11, a12, a13, a14⟩ := id hS
  have mσ : σ.2.1 = σ0.2.1 + 3119 := by omega
  have nσ : σ.1 = b + 140 := by omega
  refine qy_wp_ok (c := CX8_init) (cuts := [150]) vX8_init wX8_init 2000 142 _ _ _ ?_
  refine And.intro (by rw [show qx_sh T _ b = _ from a1]; rfl) (Exists.intro 5 (Exists.intro (some (b + 15)) (And.intro rfl (And.intro a13 ?_))))
  refine Exists.intro ((-1)) (And.intro (by decide) ?_)
  refine Exists.intro _ (And.intro (by decide) (qx_M_mono (c_fillT (N := 10) (show qx_sh T σ (b + 15) = (0, 10) from a7) (by decide)) ?_))
  rintro _ σ1 ⟨rfl, fσ1, gσ1⟩
  have nσ1 : σ1.1 = b + 140 := (by rw [fσ1.1]; exact nσ)
  have mσ1 : σ1.2.1 = σ0.2.1 + 3119 := (by rw [fσ1.2.1]; exact mσ)
  have qσ1 := qσ.fl fσ1 (by omega)
  have zσ1 := zσ.fl fσ1 (fun j => by simp [pL])
  refine qx_K_le (ls := [.retAddr 0, .retAddr 0]) ⟨Or.inl rfl, Or.inr rfl, trivial⟩ ?_
  refine qz_K (a := b) (ci := 8) hb (hT _ (Nat.le_refl _)) (kx_d (show qx_sh T σ1 b = (48, 0) from (kf_s fσ1 _).trans (a1)) (hT _ (Nat.le_refl _))) (by decide) (fun k => match k with | 0 => ⟨fun _ => ((fσ1.r _ _).trans (a8)), fun h => absurd h (by decide)⟩ | 1 => ⟨fun _ => ((fσ1.r _ _).trans (a9)), fun h => absurd h (by decide)⟩ | 2 => ⟨fun _ => ((fσ1.r _ _).trans (a10)), fun h => absurd h (by decide)⟩ | 3 => ⟨fun _ => ((fσ1.r _ _).trans (a11)), fun h => absurd h (by decide)⟩ | 4 => ⟨fun _ => ((fσ1.r _ _).trans (a12)), fun h => absurd h (by decide)⟩ | 5 => ⟨fun _ => ((fσ1.r _ _).trans (a13)), fun h => absurd h (by decide)⟩ | 6 => ⟨fun h => absurd h (by decide), fun h => absurd h (by decide)⟩ | 7 => ⟨fun h => absurd h (by decide), fun h => absurd h (by decide)⟩ | 8 => ⟨fun h => absurd h (by decide), fun h => absurd h (by decide)⟩ | 9 => ⟨fun h => absurd h (by decide), fun h => absurd h (by decide)⟩ | 10 => ⟨fun h => absurd h (by decide), fun h => absurd h (by decide)⟩ | (k + 11) => ⟨fun h => absurd (show (9 : Nat) = 3 from h) (by decide), fun h => absurd (show (9 : Nat) = 4 from h) (by decide)⟩) ?_
  refine qy_wp_ok (c := CX8_init) (cuts := []) vX8_init wX8_init 2000 150 _ _ _ ?_
  have d : ∀ a, a ≠ b → (qz_s σ1 b 8).2.2.1 a = σ.2.2.1 a := fun a ha => (va_up_ne _ _ ha).trans (by rw [fσ1.2.2.1])
  have ks : ∀ a, a ≠ b → qx_sh T (qz_s σ1 b 8) a = qx_sh T σ a := fun a ha => kx_sh (d a ha)
  refine ⟨rfl, qσ1.sl (Nat.le_refl _), nσ1, mσ1, zσ1.sl, (fσ1.i _ _ (pL_ne (by simp))).trans a14, gσ1, qz_b (hT _ (Nat.le_refl _)), a2.cg (fun a _ _ => d _ (by omega)), a3.cg (fun a _ _ => d _ (by omega)), (ks _ (by omega)).trans a4, a5.cg (fun a _ _ => d _ (by omega)), (ks _ (by omega)).trans a6, (ks _ (by omega)).trans a7, fun t ht => ⟨(fσ1.r _ _).trans (hp t ht).1, (hp t ht).2.cg (fun a _ _ => d _ (by omega))⟩, fun t ht => ⟨(fσ1.r _ _).trans (hg t ht).1, (hg t ht).2.cg (fun a _ _ => d _ (by omega))⟩⟩
theorem l_i8b {G : qx_G} {T : qx_T} {σ0 : qx_S} {b : Nat} (hb : 3 ≤ b) (hT : ∀ a, b ≤ a → T a = none) : ∀ (m k : Nat) (σ : qx_S), m + k = 12 → i8I T σ0 b 20 k σ → qx_K G T 1 RX8 YX8_init 117 [.ref b, .int (nI k)] [] σ (fun r s => r = none ∧ qh b σ0 s ∧ s.1 = b + 140 ∧ s.2.1 = σ0.2.1 + 3119 ∧ kz b (i8x b) s ∧ qx_mi s b 9 = -1 ∧ (∀ p, p < 10 → qx_mi s (b + 15) p = -1) ∧ hS8 T s b) := by
  intro m
  induction m with
  | zero =>
    intro k σ hk h
    obtain rfl : k = 12 := by omega
    have e := i8_end (G := G) hb hT h
    refine qy_wp_ok (c := CX8_init) (cuts := [117, 142]) vX8_init wX8_init 2000 117 _ _ _ ?_
    refine Exists.intro (nI 12) (And.intro rfl ?_)
    refine And.intro (fun h120 => ?_) (fun h120 => ?_)
    · skip
      refine qx_K_le (ls := [.ref b, .retAddr 0]) ⟨Or.inr rfl, Or.inl rfl, trivial⟩ ?_
      exact e
    · skip
      exact absurd (by decide) h120
  | succ m ih =>
    intro k σ hk h
    obtain ⟨nσ, mσ, qσ, zσ, hS, hp, hg⟩ := h
    obtain ⟨a1, a2, a3, a4, a5, a6, a7, a8, a9, a10, a11, a12, a13, a14⟩ := id hS
    obtain ⟨c, ec⟩ : ∃ c, c = b + 116 + 2 * k := ⟨_, rfl⟩
    have nσ : σ.1 = c := by omega
    have mσ : σ.2.1 = σ.2.1 + 0 := rfl
    have hTc : ∀ a, c ≤ a → T a = none := fun a ha => hT a (by omega)
    refine qy_wp_ok (c := CX8_init) (cuts := [117, 142]) vX8_init wX8_init 2000 117 _ _ _ ?_
    refine Exists.intro (nI 12) (And.intro rfl ?_)
    refine And.intro (fun h120 => ?_) (fun h120 => ?_)
    · skip
      have h120 := nI_leT (a := 12) (b := k) (by decide) (by omega) h120
      exact absurd h120 (by omega)
    · skip
      have h120 := nI_leF (a := 12) (b := k) (by decide) (by omega) h120
      refine And.intro (by rw [show qx_sh T _ b = _ from a1]; rfl) (Exists.intro 4 (Exists.intro (some (b + 14)) (And.intro rfl (And.intro a12 ?_))))
      obtain ⟨σ1, eσ1⟩ : ∃ zs, zs = qx_al σ (44, 0) 2 := ⟨_, rfl⟩
      refine Exists.intro c (Exists.intro σ1 (And.intro nσ (And.intro eσ1.symm ?_)))
      have nσ1 : σ1.1 = c + 1 := by have := ka_1 eσ1; omega
      have mσ1 : σ1.2.1 = σ.2.1 + 2 := by have := ka_2 eσ1; omega
      have qσ1 := qσ.al eσ1 (by omega)
      have zσ1 := zσ.al eσ1
      have yσ1 : qx_sh T σ1 c = (44, 0) := ka_n eσ1 nσ (hTc _ (by omega))
      refine Exists.intro _ (And.intro (by decide) (qx_M_mono (c_i4 (by omega) hTc nσ1 (show qx_sh T σ1 c = (44, 0) from yσ1) (fun j => (show qx_mi σ1 c j = nI 0 from ka_0 eσ1 nσ))) ?_))
      rintro _ σ2 ⟨rfl, hσ2, nσ2, mσ2, kσ2, sσ2⟩
      have nσ2 : σ2.1 = c + 2 := by omega
      have mσ2 : σ2.2.1 = σ.2.1 + 8 := by omega
      have qσ2 := qσ1.tr (hσ2.mn (by omega))
      have zσ2 := zσ1.ca hσ2 (by omega) kσ2 (fun _ _ _ _ => rfl)
      obtain ⟨σ3, eσ3⟩ : ∃ zs, zs = (qx_wr σ2 (b + 14) k (some c)) := ⟨_, rfl⟩
      refine Exists.intro (k) (Exists.intro σ3 (Exists.intro 4 (And.intro rfl (And.intro ⟨⟨12, (hσ2.s (by omega)).trans ((ka_s eσ1 (by omega)).trans (a6)), by omega, by decide⟩, by decide, by decide⟩ (And.intro (by rw [show qx_sh T _ c = _ from sσ2.1]; rfl) (And.intro eσ3.symm ?_))))))
      have nσ3 : σ3.1 = c + 2 := (by rw [eσ3]; exact nσ2)
      have mσ3 : σ3.2.1 = σ.2.1 + 8 := (by rw [eσ3]; exact mσ2)
      have qσ3 := qσ2.wr eσ3 (by omega)
      have zσ3 := zσ2.wr eσ3
      have yσ3 : qx_sh T σ3 c = (12, 0) := (kw_s eσ3).trans (sσ2.1)
      refine Exists.intro (nI (k + 1)) (And.intro (nI_add _ _) ?_)
      refine ih (k + 1) _ (by omega) ⟨by omega, by omega, qσ3, zσ3, hS.cg (fun a h1 h2 => ?_) (fun j => ?_) ?_, fun t ht => ⟨?_, (hp t ht).2.cg (fun a h1 h2 => ?_)⟩, fun t ht => ?_⟩
      · rw [eσ3]; exact (hσ2.2.1 a (by omega)).trans (ka_d eσ1 (by omega))
      · exact (kw_ne eσ3 (Or.inl (by omega))).trans ((hσ2.r (by omega)).trans (ka_r eσ1 (by omega)))
      · exact (kw_i eσ3).trans ((hσ2.i (by omega)).trans (ka_i eσ1 (by omega)))
      · exact (kw_ne eσ3 (Or.inl (by omega))).trans ((hσ2.r (by omega)).trans ((ka_r eσ1 (by omega)).trans (hp t ht).1))
      · rw [eσ3]; exact (hσ2.2.1 a (by omega)).trans (ka_d eσ1 (by omega))
      · by_cases z : t = k
        · rw [z, ← ec]
          exact ⟨kw_eq eσ3, sσ2.cg (fun a _ _ => by rw [eσ3]; rfl)⟩
        · have hgt := hg t (by omega)
          refine ⟨(kw_ne eσ3 (Or.inr z)).trans ((hσ2.r (by omega)).trans ((ka_r eσ1 (by omega)).trans hgt.1)), hgt.2.cg (fun a h1 h2 => ?_)⟩
          rw [eσ3]; exact (hσ2.2.1 a (by omega)).trans (ka_d eσ1 (by omega))
theorem l_i8a {G : qx_G} {T : qx_T} {σ0 : qx_S} {b : Nat} (hb : 3 ≤ b) (hT : ∀ a, b ≤ a → T a = none) : ∀ (m i : Nat) (σ : qx_S), m + i = 20 → i8I T σ0 b i 0 σ → qx_K G T 1 RX8 YX8_init 90 [.ref b, .int (nI i)] [] σ (fun r s => r = none ∧ qh b σ0 s ∧ s.1 = b + 140 ∧ s.2.1 = σ0.2.1 + 3119 ∧ kz b (i8x b) s ∧ qx_mi s b 9 = -1 ∧ (∀ p, p < 10 → qx_mi s (b + 15) p = -1) ∧ hS8 T s b) := by
  intro m
  induction m with
  | zero =>
    intro i σ hi h
    obtain rfl : i = 20 := by omega
    have e := l_i8b (G := G) hb hT 12 0 σ (by omega) h
    refine qy_wp_ok (c := CX8_init) (cuts := [90, 117]) vX8_init wX8_init 2000 90 _ _ _ ?_
    refine Exists.intro (nI 20) (And.intro rfl ?_)
    refine And.intro (fun h93 => ?_) (fun h93 => ?_)
    · skip
      refine Exists.intro (nI 0) (And.intro rfl ?_)
      exact e
    · skip
      exact absurd (by decide) h93
  | succ m ih =>
    intro i σ hi h
    obtain ⟨nσ, mσ, qσ, zσ, hS, hp, hg⟩ := h
    obtain ⟨a1, a2, a3, a4, a5, a6, a7, a8, a9, a10, a11, a12, a13, a14⟩ := id hS
    obtain ⟨c, ec⟩ : ∃ c, c = b + 16 + 5 * i := ⟨_, rfl⟩
    have nσ : σ.1 = c := by omega
    have mσ : σ.2.1 = σ.2.1 + 0 := rfl
    have hTc : ∀ a, c ≤ a → T a = none := fun a ha => hT a (by omega)
    refine qy_wp_ok (c := CX8_init) (cuts := [90, 117]) vX8_init wX8_init 2000 90 _ _ _ ?_
    refine Exists.intro (nI 20) (And.intro rfl ?_)
    refine And.intro (fun h93 => ?_) (fun h93 => ?_)
    · skip
      have h93 := nI_leT (a := 20) (b := i) (by decide) (by omega) h93
      exact absurd h93 (by omega)
    · skip
      have h93 := nI_leF (a := 20) (b := i) (by decide) (by omega) h93
      refine And.intro (by rw [show qx_sh T _ b = _ from a1]; rfl) (Exists.intro 2 (Exists.intro (some (b + 11)) (And.intro rfl (And.intro a10 ?_))))
      obtain ⟨σ1, eσ1⟩ : ∃ zs, zs = qx_al σ (47, 0) 6 := ⟨_, rfl⟩
      refine Exists.intro c (Exists.intro σ1 (And.intro nσ (And.intro eσ1.symm ?_)))
      have nσ1 : σ1.1 = c + 1 := by have := ka_1 eσ1; omega
      have mσ1 : σ1.2.1 = σ.2.1 + 6 := by have := ka_2 eσ1; omega
      have qσ1 := qσ.al eσ1 (by omega)
      have zσ1 := zσ.al eσ1
      have yσ1 : qx_sh T σ1 c = (47, 0) := ka_n eσ1 nσ (hTc _ (by omega))
      refine Exists.intro _ (And.intro (by decide) (qx_M_mono (c_i7 (by omega) hTc nσ1 (show qx_sh T σ1 c = (47, 0) from yσ1) (fun j => (show qx_mi σ1 c j = nI 0 from ka_0 eσ1 nσ))) ?_))
      rintro _ σ2 ⟨rfl, hσ2, nσ2, mσ2, kσ2, sσ2⟩
      have nσ2 : σ2.1 = c + 5 := by omega
      have mσ2 : σ2.2.1 = σ.2.1 + 136 := by omega
      have qσ2 := qσ1.tr (hσ2.mn (by omega))
      have zσ2 := zσ1.ca hσ2 (by omega) kσ2 (fun _ _ _ _ => rfl)
      obtain ⟨σ3, eσ3⟩ : ∃ zs, zs = (qx_wr σ2 (b + 11) i (some c)) := ⟨_, rfl⟩
      refine Exists.intro (i) (Exists.intro σ3 (Exists.intro 6 (And.intro rfl (And.intro ⟨⟨20, (hσ2.s (by omega)).trans ((ka_s eσ1 (by omega)).trans (a4)), by omega, by decide⟩, by decide, by decide⟩ (And.intro (by rw [show qx_sh T _ c = _ from sσ2.1]; rfl) (And.intro eσ3.symm ?_))))))
      have nσ3 : σ3.1 = c + 5 := (by rw [eσ3]; exact nσ2)
      have mσ3 : σ3.2.1 = σ.2.1 + 136 := (by rw [eσ3]; exact mσ2)
      have qσ3 := qσ2.wr eσ3 (by omega)
      have zσ3 := zσ2.wr eσ3
      have yσ3 : qx_sh T σ3 c = (15, 0) := (kw_s eσ3).trans (sσ2.1)
      refine Exists.intro (nI (i + 1)) (And.intro (nI_add _ _) ?_)
      refine ih (i + 1) _ (by omega) ⟨by omega, by omega, qσ3, zσ3, hS.cg (fun a h1 h2 => ?_) (fun j => ?_) ?_, fun t ht => ?_, fun t ht => absurd ht (by omega)⟩
      · rw [eσ3]; exact (hσ2.2.1 a (by omega)).trans (ka_d eσ1 (by omega))
      · exact (kw_ne eσ3 (Or.inl (by omega))).trans ((hσ2.r (by omega)).trans (ka_r eσ1 (by omega)))
      · exact (kw_i eσ3).trans ((hσ2.i (by omega)).trans (ka_i eσ1 (by omega)))
      · by_cases z : t = i
        · rw [z, ← ec]
          exact ⟨kw_eq eσ3, sσ2.cg (fun a _ _ => by rw [eσ3]; rfl)⟩
        · have hgt := hp t (by omega)
          refine ⟨(kw_ne eσ3 (Or.inr z)).trans ((hσ2.r (by omega)).trans ((ka_r eσ1 (by omega)).trans hgt.1)), hgt.2.cg (fun a h1 h2 => ?_)⟩
          rw [eσ3]; exact (hσ2.2.1 a (by omega)).trans (ka_d eσ1 (by omega))
theorem c_i8 {G : qx_G} {T : qx_T} {σ : qx_S} {b : Nat} (hb : 3 ≤ b) (hT : ∀ a, b ≤ a → T a = none) (nσ : σ.1 = b + 1) (hs : qx_sh T σ b = (48, 0)) (h0 : ∀ j, qx_mi σ b j = nI 0) : qx_M G T 1 YX8_init [.ref b] σ (fun r s => r = none ∧ qh b σ s ∧ s.1 = b + 140 ∧ s.2.1 = σ.2.1 + 3119 ∧ kz b (i8x b) s ∧ qx_mi s b 9 = -1 ∧ (∀ p, p < 10 → qx_mi s (b + 15) p = -1) ∧ hS8 T s b) := by
  have mσ : σ.2.1 = σ.2.1 + 0 := rfl
  have qσ : qh b σ σ := qh.rf
  have zσ : kz b (i8x b) σ := fun a j h1 h2 _ => by rw [show a = b by omega]; exact h0 j
  have hT1 : ∀ a, b + 1 ≤ a → T a = none := fun a ha => hT a (by omega)
  have hT6 : ∀ a, b + 6 ≤ a → T a = none := fun a ha => hT a (by omega)
  have hT12 : ∀ a, b + 12 ≤ a → T a = none := fun a ha => hT a (by omega)
  refine qx_M_in rfl (Nat.le_of_ble_eq_true rfl) ?_
  refine qy_wp_ok (c := CX8_init) (cuts := [90]) vX8_init wX8_init 2000 0 _ _ _ ?_
  obtain ⟨σ1, eσ1⟩ : ∃ zs, zs = qx_al σ (41, 0) 9 := ⟨_, rfl⟩
  refine Exists.intro (b + 1) (Exists.intro σ1 (And.intro nσ (And.intro eσ1.symm ?_)))
  have nσ1 : σ1.1 = b + 2 := ka_n1 eσ1 nσ
  have mσ1 : σ1.2.1 = σ.2.1 + 9 := ka_m1 eσ1 mσ
  have qσ1 := qσ.al eσ1 (kb_le nσ)
  have zσ1 := zσ.al eσ1
  have yσ1 : qx_sh T σ1 b = (48, 0) := (ka_s eσ1 (ka_ne0 nσ (by decide))).trans (hs)
  refine Exists.intro _ (And.intro (by decide) (qx_M_mono (c_i1 (by omega) hT1 nσ1 (show qx_sh T σ1 (b + 1) = (41, 0) from ka_n eσ1 nσ (hT _ (Nat.le_add_right _ _))) (fun j => (show qx_mi σ1 (b + 1) j = nI 0 from ka_0 eσ1 nσ))) ?_))
  rintro _ σ2 ⟨rfl, hσ2, nσ2, mσ2, kσ2, sσ2⟩
  have nσ2 : σ2.1 = b + 6 := by omega
  have mσ2 : σ2.2.1 = σ.2.1 + 117 := by omega
  have qσ2 := qσ1.tr (hσ2.mn (by omega))
  have zσ2 := zσ1.ca hσ2 (by omega) kσ2 (fun _ _ _ _ => rfl)
  obtain ⟨σ3, eσ3⟩ : ∃ zs, zs = (qx_wr σ2 b 0 (some (b + 1))) := ⟨_, rfl⟩
  refine And.intro (by rw [show qx_sh T _ b = _ from (hσ2.s (by omega)).trans (yσ1)]; rfl) (Exists.intro 0 (Exists.intro σ3 (And.intro rfl (And.intro eσ3.symm ?_))))
  have nσ3 : σ3.1 = b + 6 := (by rw [eσ3]; exact nσ2)
  have mσ3 : σ3.2.1 = σ.2.1 + 117 := (by rw [eσ3]; exact mσ2)
  have qσ3 := qσ2.wr eσ3 (Nat.le_refl _)
  have zσ3 := zσ2.wr eσ3
  have yσ3 : qx_sh T σ3 b = (48, 0) := (kw_s eσ3).trans ((hσ2.s (by omega)).trans (yσ1))
  obtain ⟨σ4, eσ4⟩ : ∃ zs, zs = qx_al σ3 (47, 0) 6 := ⟨_, rfl⟩
  refine Exists.intro (b + 6) (Exists.intro σ4 (And.intro nσ3 (And.intro eσ4.symm ?_)))
  have nσ4 : σ4.1 = b + 7 := ka_n1 eσ4 nσ3
  have mσ4 : σ4.2.1 = σ.2.1 + 123 := ka_m1 eσ4 mσ3
  have qσ4 := qσ3.al eσ4 (kb_le nσ3)
  have zσ4 := zσ3.al eσ4
  have yσ4 : qx_sh T σ4 b = (48, 0) := (ka_s eσ4 (ka_ne0 nσ3 (by decide))).trans (yσ3)
  refine Exists.intro _ (And.intro (by decide) (qx_M_mono (c_i7 (by omega) hT6 nσ4 (show qx_sh T σ4 (b + 6) = (47, 0) from ka_n eσ4 nσ3 (hT _ (Nat.le_add_right _ _))) (fun j => (show qx_mi σ4 (b + 6) j = nI 0 from ka_0 eσ4 nσ3))) ?_))
  rintro _ σ5 ⟨rfl, hσ5, nσ5, mσ5, kσ5, sσ5⟩
  have nσ5 : σ5.1 = b + 11 := by omega
  have mσ5 : σ5.2.1 = σ.2.1 + 253 := by omega
  have qσ5 := qσ4.tr (hσ5.mn (by omega))
  have zσ5 := zσ4.ca hσ5 (by omega) kσ5 (fun _ _ _ _ => rfl)
  obtain ⟨σ6, eσ6⟩ : ∃ zs, zs = (qx_wr σ5 b 1 (some (b + 6))) := ⟨_, rfl⟩
  refine And.intro (by rw [show qx_sh T _ b = _ from (hσ5.s (by omega)).trans (yσ4)]; rfl) (Exists.intro 1 (Exists.intro σ6 (And.intro rfl (And.intro eσ6.symm ?_))))
  have nσ6 : σ6.1 = b + 11 := (by rw [eσ6]; exact nσ5)
  have mσ6 : σ6.2.1 = σ.2.1 + 253 := (by rw [eσ6]; exact mσ5)
  have qσ6 := qσ5.wr eσ6 (Nat.le_refl _)
  have zσ6 := zσ5.wr eσ6
  have yσ6 : qx_sh T σ6 b = (48, 0) := (kw_s eσ6).trans ((hσ5.s (by omega)).trans (yσ4))
  refine Exists.intro (nI 20) (And.intro rfl ?_)
  obtain ⟨σ7, eσ7⟩ : ∃ zs, zs = qx_al σ6 (6, 20) 20 := ⟨_, rfl⟩
  refine Exists.intro 20 (Exists.intro (b + 11) (Exists.intro σ7 (And.intro rfl (And.intro (by decide) (And.intro nσ6 (And.intro eσ7.symm ?_))))))
  have nσ7 : σ7.1 = b + 12 := ka_n1 eσ7 nσ6
  have mσ7 : σ7.2.1 = σ.2.1 + 273 := ka_m1 eσ7 mσ6
  have qσ7 := qσ6.al eσ7 (kb_le nσ6)
  have zσ7 := zσ6.al eσ7
  have yσ7 : qx_sh T σ7 b = (48, 0) := (ka_s eσ7 (ka_ne0 nσ6 (by decide))).trans (yσ6)
  obtain ⟨σ8, eσ8⟩ : ∃ zs, zs = (qx_wr σ7 b 2 (some (b + 11))) := ⟨_, rfl⟩
  refine And.intro (by rw [show qx_sh T _ b = _ from yσ7]; rfl) (Exists.intro 2 (Exists.intro σ8 (And.intro rfl (And.intro eσ8.symm ?_))))
  have nσ8 : σ8.1 = b + 12 := (by rw [eσ8]; exact nσ7)
  have mσ8 : σ8.2.1 = σ.2.1 + 273 := (by rw [eσ8]; exact mσ7)
  have qσ8 := qσ7.wr eσ8 (Nat.le_refl _)
  have zσ8 := zσ7.wr eσ8
  have yσ8 : qx_sh T σ8 b = (48, 0) := (kw_s eσ8).trans (yσ7)
  obtain ⟨σ9, eσ9⟩ : ∃ zs, zs = qx_al σ8 (44, 0) 2 := ⟨_, rfl⟩
  refine Exists.intro (b + 12) (Exists.intro σ9 (And.intro nσ8 (And.intro eσ9.symm ?_)))
  have nσ9 : σ9.1 = b + 13 := ka_n1 eσ9 nσ8
  have mσ9 : σ9.2.1 = σ.2.1 + 275 := ka_m1 eσ9 mσ8
  have qσ9 := qσ8.al eσ9 (kb_le nσ8)
  have zσ9 := zσ8.al eσ9
  have yσ9 : qx_sh T σ9 b = (48, 0) := (ka_s eσ9 (ka_ne0 nσ8 (by decide))).trans (yσ8)
  refine Exists.intro _ (And.intro (by decide) (qx_M_mono (c_i4 (by omega) hT12 nσ9 (show qx_sh T σ9 (b + 12) = (44, 0) from ka_n eσ9 nσ8 (hT _ (Nat.le_add_right _ _))) (fun j => (show qx_mi σ9 (b + 12) j = nI 0 from ka_0 eσ9 nσ8))) ?_))
  rintro _ σ10 ⟨rfl, hσ10, nσ10, mσ10, kσ10, sσ10⟩
  have nσ10 : σ10.1 = b + 14 := by omega
  have mσ10 : σ10.2.1 = σ.2.1 + 281 := by omega
  have qσ10 := qσ9.tr (hσ10.mn (by omega))
  have zσ10 := zσ9.ca hσ10 (by omega) kσ10 (fun _ _ _ _ => rfl)
  obtain ⟨σ11, eσ11⟩ : ∃ zs, zs = (qx_wr σ10 b 3 (some (b + 12))) := ⟨_, rfl⟩
  refine And.intro (by rw [show qx_sh T _ b = _ from (hσ10.s (by omega)).trans (yσ9)]; rfl) (Exists.intro 3 (Exists.intro σ11 (And.intro rfl (And.intro eσ11.symm ?_))))
  have nσ11 : σ11.1 = b + 14 := (by rw [eσ11]; exact nσ10)
  have mσ11 : σ11.2.1 = σ.2.1 + 281 := (by rw [eσ11]; exact mσ10)
  have qσ11 := qσ10.wr eσ11 (Nat.le_refl _)
  have zσ11 := zσ10.wr eσ11
  have yσ11 : qx_sh T σ11 b = (48, 0) := (kw_s eσ11).trans ((hσ10.s (by omega)).trans (yσ9))
  refine Exists.intro (nI 12) (And.intro rfl ?_)
  obtain ⟨σ12, eσ12⟩ : ∃ zs, zs = qx_al σ11 (4, 12) 12 := ⟨_, rfl⟩
  refine Exists.intro 12 (Exists.intro (b + 14) (Exists.intro σ12 (And.intro rfl (And.intro (by decide) (And.intro nσ11 (And.intro eσ12.symm ?_))))))
  have nσ12 : σ12.1 = b + 15 := ka_n1 eσ12 nσ11
  have mσ12 : σ12.2.1 = σ.2.1 + 293 := ka_m1 eσ12 mσ11
  have qσ12 := qσ11.al eσ12 (kb_le nσ11)
  have zσ12 := zσ11.al eσ12
  have yσ12 : qx_sh T σ12 b = (48, 0) := (ka_s eσ12 (ka_ne0 nσ11 (by decide))).trans (yσ11)
  obtain ⟨σ13, eσ13⟩ : ∃ zs, zs = (qx_wr σ12 b 4 (some (b + 14))) := ⟨_, rfl⟩
  refine And.intro (by rw [show qx_sh T _ b = _ from yσ12]; rfl) (Exists.intro 4 (Exists.intro σ13 (And.intro rfl (And.intro eσ13.symm ?_))))
  have nσ13 : σ13.1 = b + 15 := (by rw [eσ13]; exact nσ12)
  have mσ13 : σ13.2.1 = σ.2.1 + 293 := (by rw [eσ13]; exact mσ12)
  have qσ13 := qσ12.wr eσ13 (Nat.le_refl _)
  have zσ13 := zσ12.wr eσ13
  have yσ13 : qx_sh T σ13 b = (48, 0) := (kw_s eσ13).trans (yσ12)
  refine Exists.intro (nI 10) (And.intro rfl ?_)
  obtain ⟨σ14, eσ14⟩ : ∃ zs, zs = qx_al σ13 (0, 10) 10 := ⟨_, rfl⟩
  refine Exists.intro 10 (Exists.intro (b + 15) (Exists.intro σ14 (And.intro rfl (And.intro (by decide) (And.intro nσ13 (And.intro eσ14.symm ?_))))))
  have nσ14 : σ14.1 = b + 16 := ka_n1 eσ14 nσ13
  have mσ14 : σ14.2.1 = σ.2.1 + 303 := ka_m1 eσ14 mσ13
  have qσ14 := qσ13.al eσ14 (kb_le nσ13)
  have zσ14 := zσ13.al eσ14
  have yσ14 : qx_sh T σ14 b = (48, 0) := (ka_s eσ14 (ka_ne0 nσ13 (by decide))).trans (yσ13)
  obtain ⟨σ15, eσ15⟩ : ∃ zs, zs = (qx_wr σ14 b 5 (some (b + 15))) := ⟨_, rfl⟩
  refine And.intro (by rw [show qx_sh T _ b = _ from yσ14]; rfl) (Exists.intro 5 (Exists.intro σ15 (And.intro rfl (And.intro eσ15.symm ?_))))
  have nσ15 : σ15.1 = b + 16 := (by rw [eσ15]; exact nσ14)
  have mσ15 : σ15.2.1 = σ.2.1 + 303 := (by rw [eσ15]; exact mσ14)
  have qσ15 := qσ14.wr eσ15 (Nat.le_refl _)
  have zσ15 := zσ14.wr eσ15
  have yσ15 : qx_sh T σ15 b = (48, 0) := (kw_s eσ15).trans (yσ14)
  refine Exists.intro (nI 0) (And.intro rfl ?_)
  obtain ⟨σ16, eσ16⟩ : ∃ zs, zs = (qx_wi σ15 b 6 (nI 0)) := ⟨_, rfl⟩
  refine And.intro (by rw [show qx_sh T _ b = _ from yσ15]; rfl) (Exists.intro 6 (Exists.intro σ16 (And.intro rfl (And.intro eσ16.symm ?_))))
  have nσ16 : σ16.1 = b + 16 := (by rw [eσ16]; exact nσ15)
  have mσ16 : σ16.2.1 = σ.2.1 + 303 := (by rw [eσ16]; exact mσ15)
  have qσ16 := qσ15.wi eσ16 (Nat.le_refl _)
  have zσ16 := zσ15.wi eσ16 (Or.inl rfl)
  have yσ16 : qx_sh T σ16 b = (48, 0) := (kx_s eσ16).trans (yσ15)
  refine Exists.intro (nI 0) (And.intro rfl ?_)
  obtain ⟨σ17, eσ17⟩ : ∃ zs, zs = (qx_wi σ16 b 7 (nI 0)) := ⟨_, rfl⟩
  refine And.intro (by rw [show qx_sh T _ b = _ from yσ16]; rfl) (Exists.intro 7 (Exists.intro σ17 (And.intro rfl (And.intro eσ17.symm ?_))))
  have nσ17 : σ17.1 = b + 16 := (by rw [eσ17]; exact nσ16)
  have mσ17 : σ17.2.1 = σ.2.1 + 303 := (by rw [eσ17]; exact mσ16)
  have qσ17 := qσ16.wi eσ17 (Nat.le_refl _)
  have zσ17 := zσ16.wi eσ17 (Or.inl rfl)
  have yσ17 : qx_sh T σ17 b = (48, 0) := (kx_s eσ17).trans (yσ16)
  refine Exists.intro (nI 0) (And.intro rfl ?_)
  obtain ⟨σ18, eσ18⟩ : ∃ zs, zs = (qx_wi σ17 b 8 (nI 0)) := ⟨_, rfl⟩
  refine And.intro (by rw [show qx_sh T _ b = _ from yσ17]; rfl) (Exists.intro 8 (Exists.intro σ18 (And.intro rfl (And.intro eσ18.symm ?_))))
  have nσ18 : σ18.1 = b + 16 := (by rw [eσ18]; exact nσ17)
  have mσ18 : σ18.2.1 = σ.2.1 + 303 := (by rw [eσ18]; exact mσ17)
  have qσ18 := qσ17.wi eσ18 (Nat.le_refl _)
  have zσ18 := zσ17.wi eσ18 (Or.inl rfl)
  have yσ18 : qx_sh T σ18 b = (48, 0) := (kx_s eσ18).trans (yσ17)
  refine Exists.intro ((-1)) (And.intro (by decide) ?_)
  obtain ⟨σ19, eσ19⟩ : ∃ zs, zs = (qx_wi σ18 b 9 (-1)) := ⟨_, rfl⟩
  refine And.intro (by rw [show qx_sh T _ b = _ from yσ18]; rfl) (Exists.intro 9 (Exists.intro σ19 (And.intro rfl (And.intro eσ19.symm ?_))))
  have nσ19 : σ19.1 = b + 16 := (by rw [eσ19]; exact nσ18)
  have mσ19 : σ19.2.1 = σ.2.1 + 303 := (by rw [eσ19]; exact mσ18)
  have qσ19 := qσ18.wi eσ19 (Nat.le_refl _)
  have zσ19 := zσ18.wi eσ19 (Or.inr (by simp [pL]))
  have yσ19 : qx_sh T σ19 b = (48, 0) := (kx_s eσ19).trans (yσ18)
  refine Exists.intro (nI 0) (And.intro rfl ?_)
  obtain ⟨σ20, eσ20⟩ : ∃ zs, zs = (qx_wi σ19 b 10 (nI 0)) := ⟨_, rfl⟩
  refine And.intro (by rw [show qx_sh T _ b = _ from yσ19]; rfl) (Exists.intro 10 (Exists.intro σ20 (And.intro rfl (And.intro eσ20.symm ?_))))
  have nσ20 : σ20.1 = b + 16 := (by rw [eσ20]; exact nσ19)
  have mσ20 : σ20.2.1 = σ.2.1 + 303 := (by rw [eσ20]; exact mσ19)
  have qσ20 := qσ19.wi eσ20 (Nat.le_refl _)
  have zσ20 := zσ19.wi eσ20 (Or.inl rfl)
  have yσ20 : qx_sh T σ20 b = (48, 0) := (kx_s eσ20).trans (yσ19)
  refine Exists.intro (nI 0) (And.intro rfl ?_)
  exact l_i8a hb hT 20 0 _ (by omega) ⟨by omega, by omega, qσ20, zσ20, ⟨(show qx_sh T σ20 b = (48, 0) from yσ20), ⟨(show qx_sh T σ20 (b + 1) = (9, 0) from (kx_s eσ20).trans ((kx_s eσ19).trans ((kx_s eσ18).trans ((kx_s eσ17).trans ((kx_s eσ16).trans ((kw_s eσ15).trans ((ka_s eσ14 (ka_ne nσ13 (by decide))).trans ((kw_s eσ13).trans ((ka_s eσ12 (ka_ne nσ11 (by decide))).trans ((kw_s eσ11).trans ((hσ10.s (by omega)).trans ((ka_s eσ9 (ka_ne nσ8 (by decide))).trans ((kw_s eσ8).trans ((ka_s eσ7 (ka_ne nσ6 (by decide))).trans ((kw_s eσ6).trans ((hσ5.s (by omega)).trans ((ka_s eσ4 (ka_ne nσ3 (by decide))).trans ((kw_s eσ3).trans (sσ2.1))))))))))))))))))), (show qx_sh T σ20 (b + 2) = (0, 10) from (kx_s eσ20).trans ((kx_s eσ19).trans ((kx_s eσ18).trans ((kx_s eσ17).trans ((kx_s eσ16).trans ((kw_s eσ15).trans ((ka_s eσ14 (ka_ne nσ13 (by decide))).trans ((kw_s eσ13).trans ((ka_s eσ12 (ka_ne nσ11 (by decide))).trans ((kw_s eσ11).trans ((hσ10.s (by omega)).trans ((ka_s eσ9 (ka_ne nσ8 (by decide))).trans ((kw_s eσ8).trans ((ka_s eσ7 (ka_ne nσ6 (by decide))).trans ((kw_s eσ6).trans ((hσ5.s (by omega)).trans ((ka_s eσ4 (ka_ne nσ3 (by decide))).trans ((kw_s eσ3).trans (sσ2.2.1))))))))))))))))))), (show qx_sh T σ20 (b + 3) = (0, 10) from (kx_s eσ20).trans ((kx_s eσ19).trans ((kx_s eσ18).trans ((kx_s eσ17).trans ((kx_s eσ16).trans ((kw_s eσ15).trans ((ka_s eσ14 (ka_ne nσ13 (by decide))).trans ((kw_s eσ13).trans ((ka_s eσ12 (ka_ne nσ11 (by decide))).trans ((kw_s eσ11).trans ((hσ10.s (by omega)).trans ((ka_s eσ9 (ka_ne nσ8 (by decide))).trans ((kw_s eσ8).trans ((ka_s eσ7 (ka_ne nσ6 (by decide))).trans ((kw_s eσ6).trans ((hσ5.s (by omega)).trans ((ka_s eσ4 (ka_ne nσ3 (by decide))).trans ((kw_s eσ3).trans (sσ2.2.2.1))))))))))))))))))), (show qx_sh T σ20 (b + 4) = (0, 80) from (kx_s eσ20).trans ((kx_s eσ19).trans ((kx_s eσ18).trans ((kx_s eσ17).trans ((kx_s eσ16).trans ((kw_s eσ15).trans ((ka_s eσ14 (ka_ne nσ13 (by decide))).trans ((kw_s eσ13).trans ((ka_s eσ12 (ka_ne nσ11 (by decide))).trans ((kw_s eσ11).trans ((hσ10.s (by omega)).trans ((ka_s eσ9 (ka_ne nσ8 (by decide))).trans ((kw_s eσ8).trans ((ka_s eσ7 (ka_ne nσ6 (by decide))).trans ((kw_s eσ6).trans ((hσ5.s (by omega)).trans ((ka_s eσ4 (ka_ne nσ3 (by decide))).trans ((kw_s eσ3).trans (sσ2.2.2.2.1))))))))))))))))))), (show qx_sh T σ20 (b + 5) = (0, 8) from (kx_s eσ20).trans ((kx_s eσ19).trans ((kx_s eσ18).trans ((kx_s eσ17).trans ((kx_s eσ16).trans ((kw_s eσ15).trans ((ka_s eσ14 (ka_ne nσ13 (by decide))).trans ((kw_s eσ13).trans ((ka_s eσ12 (ka_ne nσ11 (by decide))).trans ((kw_s eσ11).trans ((hσ10.s (by omega)).trans ((ka_s eσ9 (ka_ne nσ8 (by decide))).trans ((kw_s eσ8).trans ((ka_s eσ7 (ka_ne nσ6 (by decide))).trans ((kw_s eσ6).trans ((hσ5.s (by omega)).trans ((ka_s eσ4 (ka_ne nσ3 (by decide))).trans ((kw_s eσ3).trans (sσ2.2.2.2.2)))))))))))))))))))⟩, ⟨(show qx_sh T σ20 (b + 6) = (15, 0) from (kx_s eσ20).trans ((kx_s eσ19).trans ((kx_s eσ18).trans ((kx_s eσ17).trans ((kx_s eσ16).trans ((kw_s eσ15).trans ((ka_s eσ14 (ka_ne nσ13 (by decide))).trans ((kw_s eσ13).trans ((ka_s eσ12 (ka_ne nσ11 (by decide))).trans ((kw_s eσ11).trans ((hσ10.s (by omega)).trans ((ka_s eσ9 (ka_ne nσ8 (by decide))).trans ((kw_s eσ8).trans ((ka_s eσ7 (ka_ne nσ6 (by decide))).trans ((kw_s eσ6).trans (sσ5.1)))))))))))))))), (show qx_sh T σ20 (b + 7) = (0, 10) from (kx_s eσ20).trans ((kx_s eσ19).trans ((kx_s eσ18).trans ((kx_s eσ17).trans ((kx_s eσ16).trans ((kw_s eσ15).trans ((ka_s eσ14 (ka_ne nσ13 (by decide))).trans ((kw_s eσ13).trans ((ka_s eσ12 (ka_ne nσ11 (by decide))).trans ((kw_s eσ11).trans ((hσ10.s (by omega)).trans ((ka_s eσ9 (ka_ne nσ8 (by decide))).trans ((kw_s eσ8).trans ((ka_s eσ7 (ka_ne nσ6 (by decide))).trans ((kw_s eσ6).trans (sσ5.2.1)))))))))))))))), (show qx_sh T σ20 (b + 8) = (0, 10) from (kx_s eσ20).trans ((kx_s eσ19).trans ((kx_s eσ18).trans ((kx_s eσ17).trans ((kx_s eσ16).trans ((kw_s eσ15).trans ((ka_s eσ14 (ka_ne nσ13 (by decide))).trans ((kw_s eσ13).trans ((ka_s eσ12 (ka_ne nσ11 (by decide))).trans ((kw_s eσ11).trans ((hσ10.s (by omega)).trans ((ka_s eσ9 (ka_ne nσ8 (by decide))).trans ((kw_s eσ8).trans ((ka_s eσ7 (ka_ne nσ6 (by decide))).trans ((kw_s eσ6).trans (sσ5.2.2.1)))))))))))))))), (show qx_sh T σ20 (b + 9) = (0, 100) from (kx_s eσ20).trans ((kx_s eσ19).trans ((kx_s eσ18).trans ((kx_s eσ17).trans ((kx_s eσ16).trans ((kw_s eσ15).trans ((ka_s eσ14 (ka_ne nσ13 (by decide))).trans ((kw_s eσ13).trans ((ka_s eσ12 (ka_ne nσ11 (by decide))).trans ((kw_s eσ11).trans ((hσ10.s (by omega)).trans ((ka_s eσ9 (ka_ne nσ8 (by decide))).trans ((kw_s eσ8).trans ((ka_s eσ7 (ka_ne nσ6 (by decide))).trans ((kw_s eσ6).trans (sσ5.2.2.2.1)))))))))))))))), (show qx_sh T σ20 (b + 10) = (0, 10) from (kx_s eσ20).trans ((kx_s eσ19).trans ((kx_s eσ18).trans ((kx_s eσ17).trans ((kx_s eσ16).trans ((kw_s eσ15).trans ((ka_s eσ14 (ka_ne nσ13 (by decide))).trans ((kw_s eσ13).trans ((ka_s eσ12 (ka_ne nσ11 (by decide))).trans ((kw_s eσ11).trans ((hσ10.s (by omega)).trans ((ka_s eσ9 (ka_ne nσ8 (by decide))).trans ((kw_s eσ8).trans ((ka_s eσ7 (ka_ne nσ6 (by decide))).trans ((kw_s eσ6).trans (sσ5.2.2.2.2))))))))))))))))⟩, (show qx_sh T σ20 (b + 11) = (6, 20) from (kx_s eσ20).trans ((kx_s eσ19).trans ((kx_s eσ18).trans ((kx_s eσ17).trans ((kx_s eσ16).trans ((kw_s eσ15).trans ((ka_s eσ14 (ka_ne nσ13 (by decide))).trans ((kw_s eσ13).trans ((ka_s eσ12 (ka_ne nσ11 (by decide))).trans ((kw_s eσ11).trans ((hσ10.s (by omega)).trans ((ka_s eσ9 (ka_ne nσ8 (by decide))).trans ((kw_s eσ8).trans (ka_n eσ7 nσ6 (hT _ (Nat.le_add_right _ _)))))))))))))))), ⟨(show qx_sh T σ20 (b + 12) = (12, 0) from (kx_s eσ20).trans ((kx_s eσ19).trans ((kx_s eσ18).trans ((kx_s eσ17).trans ((kx_s eσ16).trans ((kw_s eσ15).trans ((ka_s eσ14 (ka_ne nσ13 (by decide))).trans ((kw_s eσ13).trans ((ka_s eσ12 (ka_ne nσ11 (by decide))).trans ((kw_s eσ11).trans (sσ10.1))))))))))), (show qx_sh T σ20 (b + 13) = (0, 6) from (kx_s eσ20).trans ((kx_s eσ19).trans ((kx_s eσ18).trans ((kx_s eσ17).trans ((kx_s eσ16).trans ((kw_s eσ15).trans ((ka_s eσ14 (ka_ne nσ13 (by decide))).trans ((kw_s eσ13).trans ((ka_s eσ12 (ka_ne nσ11 (by decide))).trans ((kw_s eσ11).trans (sσ10.2)))))))))))⟩, (show qx_sh T σ20 (b + 14) = (4, 12) from (kx_s eσ20).trans ((kx_s eσ19).trans ((kx_s eσ18).trans ((kx_s eσ17).trans ((kx_s eσ16).trans ((kw_s eσ15).trans ((ka_s eσ14 (ka_ne nσ13 (by decide))).trans ((kw_s eσ13).trans (ka_n eσ12 nσ11 (hT _ (Nat.le_add_right _ _))))))))))), (show qx_sh T σ20 (b + 15) = (0, 10) from (kx_s eσ20).trans ((kx_s eσ19).trans ((kx_s eσ18).trans ((kx_s eσ17).trans ((kx_s eσ16).trans ((kw_s eσ15).trans (ka_n eσ14 nσ13 (hT _ (Nat.le_add_right _ _))))))))), (show qx_mr σ20 b 0 = some (b + 1) from (kx_r eσ20).trans ((kx_r eσ19).trans ((kx_r eσ18).trans ((kx_r eσ17).trans ((kx_r eσ16).trans ((kw_ne eσ15 (Or.inr (by decide))).trans ((ka_r eσ14 (ka_ne0 nσ13 (by decide))).trans ((kw_ne eσ13 (Or.inr (by decide))).trans ((ka_r eσ12 (ka_ne0 nσ11 (by decide))).trans ((kw_ne eσ11 (Or.inr (by decide))).trans ((hσ10.r (by omega)).trans ((ka_r eσ9 (ka_ne0 nσ8 (by decide))).trans ((kw_ne eσ8 (Or.inr (by decide))).trans ((ka_r eσ7 (ka_ne0 nσ6 (by decide))).trans ((kw_ne eσ6 (Or.inr (by decide))).trans ((hσ5.r (by omega)).trans ((ka_r eσ4 (ka_ne0 nσ3 (by decide))).trans (kw_eq eσ3)))))))))))))))))), (show qx_mr σ20 b 1 = some (b + 6) from (kx_r eσ20).trans ((kx_r eσ19).trans ((kx_r eσ18).trans ((kx_r eσ17).trans ((kx_r eσ16).trans ((kw_ne eσ15 (Or.inr (by decide))).trans ((ka_r eσ14 (ka_ne0 nσ13 (by decide))).trans ((kw_ne eσ13 (Or.inr (by decide))).trans ((ka_r eσ12 (ka_ne0 nσ11 (by decide))).trans ((kw_ne eσ11 (Or.inr (by decide))).trans ((hσ10.r (by omega)).trans ((ka_r eσ9 (ka_ne0 nσ8 (by decide))).trans ((kw_ne eσ8 (Or.inr (by decide))).trans ((ka_r eσ7 (ka_ne0 nσ6 (by decide))).trans (kw_eq eσ6))))))))))))))), (show qx_mr σ20 b 2 = some (b + 11) from (kx_r eσ20).trans ((kx_r eσ19).trans ((kx_r eσ18).trans ((kx_r eσ17).trans ((kx_r eσ16).trans ((kw_ne eσ15 (Or.inr (by decide))).trans ((ka_r eσ14 (ka_ne0 nσ13 (by decide))).trans ((kw_ne eσ13 (Or.inr (by decide))).trans ((ka_r eσ12 (ka_ne0 nσ11 (by decide))).trans ((kw_ne eσ11 (Or.inr (by decide))).trans ((hσ10.r (by omega)).trans ((ka_r eσ9 (ka_ne0 nσ8 (by decide))).trans (kw_eq eσ8))))))))))))), (show qx_mr σ20 b 3 = some (b + 12) from (kx_r eσ20).trans ((kx_r eσ19).trans ((kx_r eσ18).trans ((kx_r eσ17).trans ((kx_r eσ16).trans ((kw_ne eσ15 (Or.inr (by decide))).trans ((ka_r eσ14 (ka_ne0 nσ13 (by decide))).trans ((kw_ne eσ13 (Or.inr (by decide))).trans ((ka_r eσ12 (ka_ne0 nσ11 (by decide))).trans (kw_eq eσ11)))))))))), (show qx_mr σ20 b 4 = some (b + 14) from (kx_r eσ20).trans ((kx_r eσ19).trans ((kx_r eσ18).trans ((kx_r eσ17).trans ((kx_r eσ16).trans ((kw_ne eσ15 (Or.inr (by decide))).trans ((ka_r eσ14 (ka_ne0 nσ13 (by decide))).trans (kw_eq eσ13)))))))), (show qx_mr σ20 b 5 = some (b + 15) from (kx_r eσ20).trans ((kx_r eσ19).trans ((kx_r eσ18).trans ((kx_r eσ17).trans ((kx_r eσ16).trans (kw_eq eσ15)))))), (show qx_mi σ20 b 9 = (-1) from (qn_ne eσ20 (Or.inr (by decide))).trans (qn_eq eσ19))⟩, fun t ht => absurd ht (by omega), fun t ht => absurd ht (by omega)⟩

