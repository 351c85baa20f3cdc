/-! THE CLASS: undo -/
theorem q_un_nw {S : qS} {u j : Nat} (hj : j < 122) : q_nw (q_un S u) j = q_slt S u j := by
  unfold q_nw q_slt
  by_cases h1 : j < 10
  · rw [if_pos h1]
    unfold q_un q_un2 q_un1
    rw [if_neg (by omega), if_neg (by omega), if_neg (by omega), if_neg (by omega), if_pos (by omega)]
    exact congrArg S (by omega)
  · rw [if_neg h1]
    by_cases h2 : j < 110
    · rw [if_pos h2]
      unfold q_un q_un2
      rw [if_neg (by omega), if_neg (by omega), if_neg (by omega), if_pos (by omega)]
      exact congrArg S (by omega)
    · rw [if_neg h2]
      by_cases h3 : j < 120
      · rw [if_pos h3]
        unfold q_un q_un2 q_un1
        rw [if_neg (by omega), if_neg (by omega), if_neg (by omega), if_neg (by omega), if_neg (by omega), if_pos (by omega)]
        exact congrArg S (by omega)
      · rw [if_neg h3]
        by_cases h4 : j < 121
        · rw [if_pos h4]
          unfold q_un
          rw [if_pos rfl]
          exact congrArg S (by omega)
        · rw [if_neg h4]
          unfold q_un
          rw [if_neg (by decide), if_pos rfl]
          exact congrArg S (by omega)
theorem q_un_o {S : qS} {u i : Nat} (h3 : i ≠ 3) (h6 : i ≠ 6) (h9 : i ≠ 9) (h1 : ¬ (10 ≤ i ∧ i < 60 ∧ ((i - 10) % 5 = 0 ∨ (i - 10) % 5 = 4))) (h2 : ¬ (154 ≤ i ∧ i < 254)) : q_un S u i = S i := by
  unfold q_un q_un2 q_un1
  rw [if_neg h3, if_neg h6, if_neg h9, if_neg (by omega), if_neg (by omega), if_neg (by omega)]
theorem q_un_9 {S : qS} {u : Nat} : q_un S u 9 = nI u := by
  unfold q_un
  rw [if_neg (by decide), if_neg (by decide), if_pos rfl]
theorem gT.un {S : qS} (g : gT S) {u : Nat} (eu : s_n S 9 = u + 1) : gT (q_un S u) := by
  have hpe := g.pe
  have hu : u < 20 := by have := g.U.1.2; omega
  have o : ∀ i, i ≠ 3 → i ≠ 6 → i ≠ 9 → ¬ (10 ≤ i ∧ i < 60 ∧ ((i - 10) % 5 = 0 ∨ (i - 10) % 5 = 4)) → ¬ (154 ≤ i ∧ i < 254) → q_un S u i = S i := fun i a b c d f => q_un_o a b c d f
  have n0 : s_n (q_un S u) 0 = s_n S 0 := s_n_cg (o 0 (by omega) (by omega) (by omega) (by omega) (by omega))
  have n1 : s_n (q_un S u) 1 = s_n S 1 := s_n_cg (o 1 (by omega) (by omega) (by omega) (by omega) (by omega))
  have n9 : s_n (q_un S u) 9 = u := (congrArg Int32.toNatClampNeg q_un_9).trans (nI_clamp (by omega))
  have sl := g.U.2 u (by omega)
  have gs : gS (q_un S u) := by
    refine ⟨by rw [o 0 (by omega) (by omega) (by omega) (by omega) (by omega), n0]; exact g.1.2.1.1, by rw [o 1 (by omega) (by omega) (by omega) (by omega) (by omega), n1]; exact g.1.2.1.2.1, ?_⟩
    rw [n0, n1]
    intro p hp
    obtain ⟨v, h1, h2⟩ := sl.2 p hp
    have e : q_un S u (10 + 5 * p) = nI v := (q_nw_at (q_un S u) (by omega)).symm.trans ((q_un_nw (by omega)).trans h2)
    have e2 : s_n (q_un S u) (10 + 5 * p) = v := (congrArg Int32.toNatClampNeg e).trans (nI_clamp (by have := g.pl; omega))
    rw [e2]
    exact ⟨e, h1⟩
  refine gT.mk (g.1.mk gs (fun i hi => o i (by omega) (by omega) (by omega) (by omega) (by omega))) ?_ (g.2.2.1.cg (fun i hi => o i (by omega) (by omega) (by omega) (by omega) (by omega))) (g.2.2.2.1.cg (fun i hi => o i (by omega) (by omega) (by omega) (by omega) (by omega))) ⟨⟨by rw [n9]; exact q_un_9, by rw [n9]; omega⟩, ?_⟩
  · exact sl.1.cg n1 (fun k hk => q_un_nw (by omega))
  · rw [n9, n0, n1]
    intro i hi
    have old := g.U.2 i (by omega)
    have e : ∀ j, q_slt (q_un S u) i j = q_slt S i j := fun j => o _ (by omega) (by omega) (by omega) (by omega) (by omega)
    exact ⟨old.1.cg rfl (fun k hk => e _), fun p hp => by rw [e]; exact old.2 p hp⟩
abbrev kUn : List (Nat × Option Nat) := (15, some 7) :: kS5 21
theorem kUn_ne {x k : Nat} (h : ¬ (x = 15 ∧ k = 7)) (h2 : x < 21 ∨ 25 < x) : pL kUn x k = false := pL_ne (by
  intro q hq
  simp only [List.mem_cons, List.not_mem_nil, or_false] at hq
  rcases hq with z | z | z | z | z | z
  · rw [z]
    by_cases w : x = 15
    · exact Or.inr ⟨7, rfl, by omega⟩
    · exact Or.inl (fun v => w v.symm)
  all_goals rw [z]; exact Or.inl (by show _ ≠ x; omega))
theorem c_takePast {G : qx_G} {σ : qx_S} {S : qS} {rf : Option qR} {e u : Nat} (hI : cI σ S rf e) (eu : s_n S 9 = u + 1) : qx_M G qc_T 1 YX8_takePast [.ref 15] σ (fun r s => r = some (.int (nI 1)) ∧ ql kUn σ s ∧ zR s 21 (s_n S 1) (q_slt S u) ∧ qx_mi s 15 7 = nI u) := by
  have hpe := hI.1.pe
  have hu : u < 20 := by have := hI.1.U.1.2; omega
  obtain ⟨pf, p1, p2, p3⟩ := hI.2.1.2.2.1
  have e7 : qx_mi σ 15 7 = nI (u + 1) := hI.2.1.2.2.2.2.2.2.1.trans (hI.1.U.1.1.trans (by rw [eu]))
  obtain ⟨j, ej⟩ : ∃ j, j = (pf + u) % 20 := ⟨_, rfl⟩
  have hj : j < 20 := by rw [ej]; exact Nat.mod_lt _ (by decide)
  have sh := hI.2.2.1.2.2.2.2.2.2.2.1 j hj
  have z := p3 u (by omega)
  rw [← ej] at z
  refine qx_M_in rfl (Nat.le_of_ble_eq_true rfl) ?_
  refine qy_wp_ok (c := CX8_takePast) (cuts := []) vX8_takePast wX8_takePast 2000 0 _ _ _ ?_
  refine And.intro rfl (Exists.intro 7 (Exists.intro (nI (u + 1)) (And.intro rfl (And.intro e7 ?_))))
  refine And.intro (fun h4 => ?_) (fun h4 => ?_)
  · skip
    have h4 := nI_neT (a := u + 1) (b := 0) (by omega) (by decide) h4
    refine And.intro rfl (Exists.intro 7 (Exists.intro (nI (u + 1)) (And.intro rfl (And.intro e7 ?_))))
    refine Exists.intro (nI 1) (And.intro rfl ?_)
    refine Exists.intro (nI u) (And.intro (nI_sub (by omega)) ?_)
    obtain ⟨σ1, eσ1⟩ : ∃ zs, zs = (qx_wi σ 15 7 (nI u)) := ⟨_, rfl⟩
    have fσ1 := qn_wif eσ1
    refine And.intro rfl (Exists.intro 7 (Exists.intro σ1 (And.intro rfl (And.intro eσ1.symm ?_))))
    refine And.intro rfl (Exists.intro 21 (And.intro rfl ?_))
    refine And.intro rfl (Exists.intro 26 (And.intro rfl ?_))
    refine And.intro rfl (Exists.intro 6 (Exists.intro (nI pf) (And.intro rfl (And.intro ((qn_ne eσ1 (Or.inr (by decide))).trans (p2)) ?_))))
    refine And.intro rfl (Exists.intro 7 (Exists.intro (nI u) (And.intro rfl (And.intro (qn_eq eσ1) ?_))))
    refine Exists.intro (nI (pf + u)) (And.intro (nI_add _ _) ?_)
    refine Exists.intro (nI 20) (And.intro rfl ?_)
    refine And.intro (by decide) (Exists.intro (nI j) (And.intro ((nI_rem (by omega) (by omega)).trans (congrArg nI ej.symm)) ?_))
    refine Exists.intro (j) (Exists.intro (some (31 + 5 * j)) (Exists.intro 6 (And.intro rfl (And.intro ⟨⟨20, rfl, by omega, by decide⟩, by decide, by decide⟩ (And.intro ((fσ1.r _ _).trans ((show qx_mr σ 26 j = some (31 + 5 * j) from sh.1))) ?_)))))
    refine And.intro rfl (Exists.intro _ (And.intro (by decide) (qx_M_mono (c_copyS ⟨rfl, rfl, rfl, rfl, rfl⟩ (sh.2.fr fσ1) (by omega)) ?_)))
    rintro _ σ2 ⟨rfl, fσ2, gσ2⟩
    refine Exists.intro (nI 1) (And.intro rfl ?_)
    refine And.intro (Or.inr rfl) ?_
    exact ⟨rfl, (cv1 fσ1 (List.mem_cons_self ..)).tr (cv5 fσ2 (fun q hq => List.mem_cons_of_mem _ hq)), (z.fb (fun y k h1 h2 => qn_ne eσ1 (Or.inl (by omega)))).cp hpe gσ2, (fσ2.i _ _ (kS5_ne (by omega))).trans (qn_eq eσ1)⟩
  · skip
    have h4 := nI_eqT (a := u + 1) (b := 0) (by omega) (by decide) h4
    exact absurd h4 (by omega)
theorem c_undo_no {G : qx_G} {σ : qx_S} {S : qS} {rf : Option qR} {e : Nat} (hI : cI σ S rf e) (e9 : s_n S 9 = 0) : qx_M G qc_T 2 YX11_undo [.ref 3] σ (qr (-1) σ) := by
  have e7 : qx_mi σ 15 7 = nI 0 := hI.2.1.2.2.2.2.2.2.1.trans (hI.1.U.1.1.trans (by rw [e9]))
  have key : qx_M G qc_T 1 YX8_takePast [.ref 15] σ (qr (nI 0) σ) := by
    refine qx_M_in rfl (Nat.le_of_ble_eq_true rfl) ?_
    refine qy_wp_ok (c := CX8_takePast) (cuts := []) vX8_takePast wX8_takePast 2000 0 _ _ _ ?_
    refine And.intro rfl (Exists.intro 7 (Exists.intro (nI 0) (And.intro rfl (And.intro e7 ?_))))
    refine And.intro (fun h4 => ?_) (fun h4 => ?_)
    · skip
      exact absurd (by decide) h4
    · skip
      refine Exists.intro (nI 0) (And.intro rfl ?_)
      refine And.intro (Or.inl rfl) ?_
      exact ⟨rfl, rfl⟩
  refine qx_M_in rfl (Nat.le_of_ble_eq_true rfl) ?_
  refine qy_wp_ok (c := CX11_undo) (cuts := []) vX11_undo wX11_undo 2000 0 _ _ _ ?_
  refine And.intro rfl (Exists.intro 15 (And.intro rfl ?_))
  refine And.intro rfl (Exists.intro _ (And.intro (by decide) (qx_M_mono (key) ?_)))
  rintro _ _ ⟨rfl, rfl⟩
  refine And.intro (fun h7 => ?_) (fun h7 => ?_)
  · skip
    exact absurd (by decide) h7
  · skip
    refine Exists.intro ((-1)) (And.intro (by decide) ?_)
    exact ⟨rfl, rfl⟩
theorem c_undo_ok {G : qx_G} {σ : qx_S} {S : qS} {rf : Option qR} {e u : Nat} (hI : cI σ S rf e) (he : e + 1 ≤ 1000) (eu : s_n S 9 = u + 1) : qx_M G qc_T 2 YX11_undo [.ref 3] σ (fun r s => r = some (.int (nI u)) ∧ ql ((156, some 8) :: kUn) σ s ∧ cI s (q_un S u) rf (e + 1)) := by
  have hpe := hI.1.pe
  have c6 := hI.1.c6
  have hu : u < 20 := by have := hI.1.U.1.2; omega
  have g' := hI.1.un eu
  have o : ∀ i, i ≠ 3 → i ≠ 6 → i ≠ 9 → ¬ (10 ≤ i ∧ i < 60 ∧ ((i - 10) % 5 = 0 ∨ (i - 10) % 5 = 4)) → ¬ (154 ≤ i ∧ i < 254) → q_un S u i = S i := fun i a b c d f => q_un_o a b c d f
  have n1 : s_n (q_un S u) 1 = s_n S 1 := s_n_cg (o 1 (by omega) (by omega) (by omega) (by omega) (by omega))
  have n9 : s_n (q_un S u) 9 = u := (congrArg Int32.toNatClampNeg q_un_9).trans (nI_clamp (by omega))
  have fin : ∀ s1 s, ql kUn σ s1 → zR s1 21 (s_n S 1) (q_slt S u) → qx_mi s1 15 7 = nI u → ql [(156, some 8)] s1 s → s = qx_wi s1 156 8 (nI (e + 1)) → ql ((156, some 8) :: kUn) σ s ∧ cI s (q_un S u) rf (e + 1) := by
    intro s1 s f z1 q7 f2 es
    have m : ∀ y k, ¬ (y = 15 ∧ k = 7) → y < 21 ∨ 25 < y → qx_mi s1 y k = qx_mi σ y k := fun y k h1 h2 => f.i _ _ (kUn_ne h1 h2)
    obtain ⟨pf, p1, p2, p3⟩ := hI.2.1.2.2.1
    refine ⟨(qf.mono f (fun x k hx => (Bool.or_eq_false_iff.mp hx).2)).tr (cv1 f2 (List.mem_cons_self ..)), hI.up f rfl es g' (cSt.mk (hI.2.1.1.tr hI.1.1.1 (fun k hk y => m _ _ (by omega) (by omega)) (fun i hi => o i (by omega) (by omega) (by omega) (by omega) (by omega))) (z1.tr hpe n1 (fun _ _ _ _ => rfl) (fun i hi => q_un_nw hi)) ⟨pf, p1, (m _ _ (by omega) (by omega)).trans p2, fun i hi => ?_⟩ (hI.2.1.2.2.2.1.tr (o _ (by omega) (by omega) (by omega) (by omega) (by omega)) (fun z j _ _ => m _ _ (by omega) (by omega)) (fun j hj => o _ (by omega) (by omega) (by omega) (by omega) (by omega))) (cTo.tr hI.2.1.2.2.2.2.1 hI.1.2.2.2.1 (fun y k _ _ => m _ _ (by omega) (by omega)) (fun i hi => o i (by omega) (by omega) (by omega) (by omega) (by omega))) (fun p hp => ?_) (q7.trans q_un_9.symm) ((m _ _ (by omega) (by omega)).trans (hI.2.1.2.2.2.2.2.2.2.1.trans (o 5 (by omega) (by omega) (by omega) (by omega) (by omega)).symm)) ((m _ _ (by omega) (by omega)).trans (hI.2.1.2.2.2.2.2.2.2.2.1.trans (o 7 (by omega) (by omega) (by omega) (by omega) (by omega)).symm)) ((m _ _ (by omega) (by omega)).trans (hI.2.1.2.2.2.2.2.2.2.2.2.trans (o 8 (by omega) (by omega) (by omega) (by omega) (by omega)).symm))) he⟩
    · rw [n9] at hi
      have := Nat.mod_lt (pf + i) (show 0 < 20 by decide)
      exact (p3 i (by omega)).tr hpe n1 (fun y k h1 h2 => m _ _ (by omega) (by omega)) (fun k hk => o _ (by omega) (by omega) (by omega) (by omega) (by omega))
    · rw [n1] at hp
      rw [o _ (by omega) (by omega) (by omega) (by omega) (by omega)]
      exact (m _ _ (by omega) (by omega)).trans (hI.2.1.2.2.2.2.2.1 p hp)
  refine qx_M_in rfl (Nat.le_of_ble_eq_true rfl) ?_
  refine qy_wp_ok (c := CX11_undo) (cuts := []) vX11_undo wX11_undo 2000 0 _ _ _ ?_
  refine And.intro rfl (Exists.intro 15 (And.intro rfl ?_))
  refine And.intro rfl (Exists.intro _ (And.intro (by decide) (qx_M_mono (c_takePast hI eu) ?_)))
  rintro _ σ1 ⟨rfl, fσ1, zσ1, qσ1⟩
  refine And.intro (fun h7 => ?_) (fun h7 => ?_)
  · skip
    refine And.intro rfl (Exists.intro _ (And.intro (by decide) (qx_M_mono (c_stirS (hI.sti fσ1 rfl).1 (hI.sti fσ1 rfl).2) ?_)))
    rintro _ σ2 ⟨rfl, fσ2, gσ2⟩
    refine And.intro rfl (Exists.intro 15 (And.intro rfl ?_))
    refine And.intro rfl (Exists.intro 7 (Exists.intro (nI u) (And.intro rfl (And.intro ((fσ2.i _ _ rfl).trans (qσ1)) ?_))))
    exact ⟨rfl, fin _ _ fσ1 zσ1 qσ1 fσ2 gσ2⟩
  · skip
    exact absurd h7 (by decide)

