/-! THE REFERENCE: searches, where a two leads -/
theorem mS.fr2 {σ s : qx_S} {B : q_B} {l : List (Nat × Option Nat)} (h : mS σ B) (f : ql l σ s) (hl : pL l 197 45 = false) (r1 : ∀ j, pL l 219 j = false) (r2 : ∀ j, pL l 220 j = false) (r3 : ∀ j, pL l 221 j = false) (r4 : ∀ j, pL l 222 j = false) (r5 : ∀ j, pL l 223 j = false) (r6 : ∀ j, pL l 224 j = false) : mS s B := by
  refine h.fr f hl (fun a h1 h2 => ?_)
  rcases (by omega : a = 219 ∨ a = 220 ∨ a = 221 ∨ a = 222 ∨ a = 223 ∨ a = 224) with e | e | e | e | e | e <;> subst e <;> assumption
theorem m_canS {G : qx_G} {σ : qx_S} {S : qS} {rf : Option qR} {n a b : Nat} (hX : mX σ (q_st S n) rf none) (g : gS S) (hv : q_vd S n) (ha : a < s_n S 1) (hb : b < s_n S 1) : qx_M G qc_T 6 YX12_canChange [.ref 197, .int (nI a), .int (nI b)] σ (fun r s => r = some (.int (bI (q_cs S rf n a b))) ∧ ql lR σ s ∧ mG s (q_two a b) 2) := by
  have e := (q_st_sA g.2.1.2 n).n (i := 1) (by omega)
  have k := m_canChange (G := G) hX (q_st_g g hv) (a := a) (b := b) (by rw [e]; exact ha) (by rw [e]; exact hb)
  rw [← q_cs_can g ha hb]
  exact k
theorem m_whereS {G : qx_G} {σ : qx_S} {S : qS} {n a b : Nat} (g : gS S) (hv : q_vd S n) (ha : a < s_n S 1) (hb : b < s_n S 1) (hab : a ≠ b) (hS : qx_mi σ 207 = q_gr (q_two a b) 2 (q_st S n)) : qx_M G qc_T 1 YX12_whereAll [.ref 197] σ (qr (nI (q_sw (s_n S 1) n a b)) σ) := by
  have h10 := g.2.1.2
  have e := (q_st_sA h10 n).n (i := 1) (by omega)
  have e2 := ((q_st_sA h10 n).tr (q_gr_sA (rg := q_two a b) (n := 2) (S := q_st S n) (fun k _ => q_two_lt (by omega) (by omega) k))).n (i := 1) (by omega)
  have k := m_whereAll (G := G) hS (q_gr_g (q_st_g g hv) (by decide) (fun k _ => by rw [e]; exact q_two_lt ha hb k))
  rw [e2, q_gr_sw ha hb hab] at k
  exact k
theorem m_slotS {G : qx_G} {σ : qx_S} {B : q_B} {n : Nat} (h : mS σ B) (hn : n < 1073741824) : qx_M G qc_T 0 YX12_slotOf [.ref 197, .int (nI n)] σ (fun r s => ∃ j, j < 4096 ∧ r = some (.int (nI j)) ∧ (∃ v, v ≤ 2001 ∧ qx_mi s 224 j = nI v ∧ (v = 0 → q_fi B n = none) ∧ (0 < v → q_fi B n = some (v - 1))) ∧ ql [] σ s) := by
  obtain ⟨h1, hz, c, sl, hH, hsl⟩ := h
  refine qx_M_mono (m_slotOf1 h1 hH hsl (fun i hi => ⟨(c i hi).1, (c i hi).2.1⟩) hn) ?_
  rintro _ s ⟨j, hj, rfl, E, f⟩
  refine ⟨j, hj, rfl, ⟨sl j, Nat.le_trans (hH.1 j hj) h1, (f.i 224 j rfl).trans (hsl j hj), fun z => q_fi_none.mpr (E.none hH z), fun z => ?_⟩, f⟩
  have y := E.some hH (by omega)
  exact q_fi_of (fun i i' h h' e => hH.2.2.2 i i' h h' e) y.1 y.2
abbrev lQ : List (Nat × Option Nat) := [(197, some 45), (219, none), (220, none), (221, none), (222, none), (223, none), (224, none), (205, none), (206, none), (197, some 18), (208, none), (197, some 24), (207, none)]
theorem l_evA {G : qx_G} {Φ : qx_F} {S S' : qS} {rf : Option qR} {B : q_B} {σ : qx_S} {gp gq : Int32} {k a b n : Nat} (g : gS S) (hX : mX σ S' rf none) (hs : sP S S') (hB : mS σ B) (hk : k < B.1) (en : q_co B k = n) (hv : q_vd S n) (ha : a < s_n S 1) (hb : b < s_n S 1) (hab : a ≠ b)
    (hA : ∀ s S'', ql lQ σ s → mX s S'' rf none → sP S S'' → mS s B → (q_cs S rf n a b = false ∨ (q_fi B (q_sw (s_n S 1) n a b)).isSome = true) → qx_K G qc_T 7 RX12 YX12_searches 176 [.ref 197, .int gp, .int gq, .int (nI k), .int (nI a), .int (nI b), .retAddr 0, .retAddr 0] [] s Φ)
    (hC : ∀ s, ql lQ σ s → mX s (q_gr (q_two a b) 2 (q_st S n)) rf none → mS s B → q_cs S rf n a b = true → q_fi B (q_sw (s_n S 1) n a b) = none → qx_K G qc_T 7 RX12 YX12_searches 111 [.ref 197, .int gp, .int gq, .int (nI k), .int (nI a), .int (nI b), .int (nI (q_sw (s_n S 1) n a b)), .retAddr 0] [] s Φ) :
    qx_K G qc_T 7 RX12 YX12_searches 60 [.ref 197, .int gp, .int gq, .int (nI k), .int (nI a), .int (nI b), .retAddr 0, .retAddr 0] [] σ Φ := by
  have h10 := g.2.1.2
  have hle := hB.1
  have hn := hv.1
  have hw : q_sw (s_n S 1) n a b < 1073741824 := q_sw_lt h10
  have x1 : S' 1 = S 1 := hs 1 (by omega)
  have x7 : S' 7 = S 7 := hs 7 (by omega)
  have y1 : q_st S n 1 = S 1 := sP.st n 1 (by omega)
  have y7 : q_st S n 7 = S 7 := sP.st n 7 (by omega)
  have hgr : sP S (q_gr (q_two a b) 2 (q_st S n)) := (sP.st n).gr ha hb
  have z1 : q_gr (q_two a b) 2 (q_st S n) 1 = S 1 := hgr 1 (by omega)
  have z7 : q_gr (q_two a b) 2 (q_st S n) 7 = S 7 := hgr 7 (by omega)
  have hf : ql lQ σ σ := qf.rf
  have ek : qx_mi σ 219 k = nI n := en ▸ (hB.2.2.1 k hk).1
  refine qy_wp_ok (c := CX12_searches) (cuts := [60, 176, 111]) vX12_searches wX12_searches 2000 60 _ _ _ ?_
  refine And.intro rfl (Exists.intro 219 (And.intro rfl ?_))
  refine Exists.intro (k) (Exists.intro (nI n) (And.intro rfl (And.intro ⟨2001, rfl, by omega, by decide⟩ (And.intro ek ?_))))
  refine And.intro rfl (Exists.intro _ (And.intro (by decide) (qx_M_mono (m_stands hX.1 h10 (x1.trans g.2.1.1) hn) ?_)))
  rintro _ σ1 ⟨rfl, fσ1, gσ1⟩
  have hf_σ1 : ql lQ σ σ1 := hf.tr (fσ1.mn (by decide))
  have hB_σ1 : mS σ1 B := hB.fr2 fσ1 rfl (fun _ => rfl) (fun _ => rfl) (fun _ => rfl) (fun _ => rfl) (fun _ => rfl) (fun _ => rfl)
  have hX_σ1 : mX σ1 (q_st S n) rf none := hX.at fσ1 (gσ1.trans (hs.pl _)) (y1.trans x1.symm) (y7.trans x7.symm)
  refine And.intro rfl (Exists.intro _ (And.intro (by decide) (qx_M_mono (m_canS hX_σ1 g hv ha hb) ?_)))
  rintro _ σ2 ⟨rfl, fσ2, gσ2⟩
  have hf_σ2 : ql lQ σ σ2 := hf_σ1.tr (fσ2.mn (by decide))
  have hB_σ2 : mS σ2 B := hB_σ1.fr2 fσ2 rfl (fun _ => rfl) (fun _ => rfl) (fun _ => rfl) (fun _ => rfl) (fun _ => rfl) (fun _ => rfl)
  have hX_σ2 : mX σ2 _ rf none := hX_σ1.fr fσ2 rfl
  refine And.intro (fun h78 => ?_) (fun h78 => ?_)
  · skip
    have h78 := bI_t h78
    refine And.intro rfl (Exists.intro _ (And.intro (by decide) (qx_M_mono (m_goRound (rg := q_two a b) hX_σ2.1 (by decide) (by decide) (fun k _ => q_two_lt (by omega) (by omega) k) gσ2) ?_)))
    rintro _ σ3 ⟨rfl, fσ3, gσ3⟩
    have hf_σ3 : ql lQ σ σ3 := hf_σ2.tr (fσ3.mn (by decide))
    have hB_σ3 : mS σ3 B := hB_σ2.fr2 fσ3 rfl (fun _ => rfl) (fun _ => rfl) (fun _ => rfl) (fun _ => rfl) (fun _ => rfl) (fun _ => rfl)
    have hX_σ3 : mX σ3 (q_gr (q_two a b) 2 (q_st S n)) rf none := hX_σ2.at fσ3 gσ3 (z1.trans y1.symm) (z7.trans y7.symm)
    refine And.intro rfl (Exists.intro _ (And.intro (by decide) (qx_M_mono (m_whereS g hv ha hb hab gσ3) ?_)))
    rintro _ _ ⟨rfl, rfl⟩
    refine And.intro rfl (Exists.intro 224 (And.intro rfl ?_))
    refine And.intro rfl (Exists.intro _ (And.intro (by decide) (qx_M_mono (m_slotS hB_σ3 hw) ?_)))
    rintro _ σ4 ⟨j, hj, rfl, ⟨v, vle, ev, v1, v2⟩, fσ4⟩
    have hf_σ4 : ql lQ σ σ4 := hf_σ3.tr (fσ4.mn (by decide))
    have hB_σ4 : mS σ4 B := hB_σ3.fr2 fσ4 rfl (fun _ => rfl) (fun _ => rfl) (fun _ => rfl) (fun _ => rfl) (fun _ => rfl) (fun _ => rfl)
    have hX_σ4 : mX σ4 _ rf none := hX_σ3.fr fσ4 rfl
    refine Exists.intro (j) (Exists.intro (nI v) (And.intro rfl (And.intro ⟨4096, rfl, by omega, by decide⟩ (And.intro ev ?_))))
    refine And.intro (fun h105 => ?_) (fun h105 => ?_)
    · skip
      have h105 := nI_leT (a := v) (b := 0) (by omega) (by decide) h105
      exact hC _ hf_σ4 hX_σ4 hB_σ4 h78 (v1 (by omega))
    · skip
      have h105 := nI_leF (a := v) (b := 0) (by omega) (by decide) h105
      refine qx_K_le (ls := [.ref 197, .int gp, .int gq, .int (nI k), .int (nI a), .int (nI b), .retAddr 0, .retAddr 0]) ⟨Or.inr rfl, Or.inr rfl, Or.inr rfl, Or.inr rfl, Or.inr rfl, Or.inr rfl, Or.inl rfl, Or.inr rfl, trivial⟩ ?_
      first | exact hA _ _ hf_σ4 hX_σ4 (sP.st n) hB_σ4 (Or.inl h78) | exact hA _ _ hf_σ4 hX_σ4 hgr hB_σ4 (Or.inr (by rw [v2 (by omega)]; rfl))
  · skip
    have h78 := bI_f h78
    first | exact hA _ _ hf_σ2 hX_σ2 (sP.st n) hB_σ2 (Or.inl h78) | exact hA _ _ hf_σ2 hX_σ2 hgr hB_σ2 (Or.inr (by rw [v2 (by omega)]; rfl))

