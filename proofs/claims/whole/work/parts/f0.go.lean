/-! THE CLASS: go -/
abbrev kP (j : Nat) : List (Nat × Option Nat) := (15, some 6) :: (15, some 7) :: kS5 (31 + 5 * j)
theorem kP_ne {j x k : Nat} (h : ¬ (x = 15 ∧ (k = 6 ∨ k = 7))) (h2 : x < 31 + 5 * j ∨ 31 + 5 * j + 4 < x) : pL (kP j) x k = false := pL_ne (by
  intro q hq
  simp only [List.mem_cons, List.not_mem_nil, or_false] at hq
  rcases hq with z | z | z | z | z | z | z
  · rw [z]
    by_cases w : x = 15
    · exact Or.inr ⟨6, rfl, by omega⟩
    · exact Or.inl (fun v => w v.symm)
  · rw [z]
    by_cases w : x = 15
    · exact Or.inr ⟨7, rfl, by omega⟩
    · exact Or.inl (fun v => w v.symm)
  all_goals rw [z]; exact Or.inl (by show _ ≠ x; omega))
theorem cv5 {a : Nat} {m : List (Nat × Option Nat)} {σ s : qx_S} (f : ql (kS5 a) σ s) (h : ∀ q, q ∈ kS5 a → q ∈ m) : ql m σ s := qf.cv f (fun q hq => by
  have k := h q hq
  simp only [List.mem_cons, List.not_mem_nil, or_false] at hq
  rcases hq with y | y | y | y | y <;> rw [y] at k ⊢ <;> exact k)
theorem cv1 {a k : Nat} {m : List (Nat × Option Nat)} {σ s : qx_S} (f : ql [(a, some k)] σ s) (h : (a, some k) ∈ m) : ql m σ s := qf.mono f (fun x j hm => by
  cases hp : pL [(a, some k)] x j with
  | false => rfl
  | true =>
    exfalso
    obtain ⟨q, hq, h1⟩ := List.any_eq_true.mp hp
    have h2 : pL m x j = true := List.any_eq_true.mpr ⟨q, by rw [List.mem_singleton.mp hq]; exact h, h1⟩
    rw [hm] at h2
    cases h2)
theorem c_keepPast {G : qx_G} {σ : qx_S} {S : qS} {rf : Option qR} {e u : Nat} (hI : cI σ S rf e) (eu : s_n S 9 = u) : qx_M G qc_T 1 YX8_keepPast [.ref 15] σ (fun r s => r = none ∧ ∃ j, j < 20 ∧ ql (kP j) σ s ∧ cPa s 15 (q_kp2 S u) ∧ qx_mi s 15 7 = q_kp2 S u 9) := by
  have hpe := hI.1.pe
  have hu : u ≤ 20 := by rw [← eu]; exact hI.1.U.1.2
  obtain ⟨pf, p1, p2, p3⟩ := hI.2.1.2.2.1
  rw [eu] at p3
  have e7 : qx_mi σ 15 7 = nI u := hI.2.1.2.2.2.2.2.2.1.trans (hI.1.U.1.1.trans (by rw [eu]))
  obtain ⟨j, ej⟩ : ∃ j, j = (pf + u) % 20 := ⟨_, rfl⟩
  have hj : j < 20 := by rw [ej]; exact Nat.mod_lt _ (by decide)
  have sh := hI.2.2.1.2.2.2.2.2.2.2.1 j hj
  have n1 := s_n_cg (q_kp2_lo (S := S) (u := u) (i := 1) (by omega) (by omega))
  have fin : ∀ σ1 s, ql (kS5 (31 + 5 * j)) σ σ1 → cpS σ σ1 (31 + 5 * j) 21 → (u < 20 ∧ s = qx_wi σ1 15 7 (nI (u + 1))) ∨ (u = 20 ∧ s = qx_wi σ1 15 6 (nI ((pf + 1) % 20))) → ∃ j, j < 20 ∧ ql (kP j) σ s ∧ cPa s 15 (q_kp2 S u) ∧ qx_mi s 15 7 = q_kp2 S u 9 := by
    intro σ1 s f1 hc hs
    have z1 : zR σ1 (31 + 5 * j) (s_n S 1) (q_nw S) := hI.2.1.2.1.cp hpe hc
    have m1 : ∀ y k, y < 31 + 5 * j ∨ 31 + 5 * j + 4 < y → qx_mi σ1 y k = qx_mi σ y k := fun y k hy => f1.i _ _ (kS5_ne hy)
    rcases hs with ⟨hu2, es⟩ | ⟨hu2, es⟩
    · have m2 : ∀ y k, y ≠ 15 → qx_mi s y k = qx_mi σ1 y k := fun y k hy => qn_ne es (Or.inl hy)
      refine ⟨j, hj, (cv5 f1 (fun q hq => List.mem_cons_of_mem _ (List.mem_cons_of_mem _ hq))).tr (cv1 (qn_wif es) (List.mem_cons_of_mem _ (List.mem_cons_self ..))), ⟨pf, p1, (qn_ne es (Or.inr (by decide))).trans ((m1 _ _ (by omega)).trans p2), fun i hi => ?_⟩, ?_⟩
      · rw [show s_n (q_kp2 S u) 9 = u + 1 by unfold s_n; rw [q_kp2_9, if_neg (by omega)]; exact nI_clamp (by omega)] at hi
        by_cases w : i = u
        · rw [w, ← ej]
          exact z1.tr hpe n1 (fun y k h1 h2 => m2 _ _ (by omega)) (fun k hk => q_kp2_n hu2 hk)
        · have hi2 : i < u := by omega
          have := Nat.mod_lt (pf + i) (show 0 < 20 by decide)
          exact (p3 i hi2).tr hpe n1 (fun y k h1 h2 => (m2 _ _ (by omega)).trans (m1 _ _ (by omega))) (fun k hk => q_kp2_s hu2 hi2 hk)
      · rw [q_kp2_9, if_neg (by omega)]
        exact qn_eq es
    · have m2 : ∀ y k, y ≠ 15 → qx_mi s y k = qx_mi σ1 y k := fun y k hy => qn_ne es (Or.inl hy)
      subst hu2
      refine ⟨j, hj, (cv5 f1 (fun q hq => List.mem_cons_of_mem _ (List.mem_cons_of_mem _ hq))).tr (cv1 (qn_wif es) (List.mem_cons_self ..)), ⟨(pf + 1) % 20, Nat.mod_lt _ (by decide), qn_eq es, fun i hi => ?_⟩, ?_⟩
      · rw [show s_n (q_kp2 S 20) 9 = 20 by unfold s_n; rw [q_kp2_9, if_pos rfl]; exact nI_clamp (by omega)] at hi
        by_cases w : i = 19
        · rw [w, show ((pf + 1) % 20 + 19) % 20 = j by omega]
          exact z1.tr hpe n1 (fun y k h1 h2 => m2 _ _ (by omega)) (fun k hk => q_kp2_n20 hk)
        · have hi2 : i + 1 < 20 := by omega
          have := Nat.mod_lt (pf + (i + 1)) (show 0 < 20 by decide)
          rw [show ((pf + 1) % 20 + i) % 20 = (pf + (i + 1)) % 20 by omega]
          exact (p3 (i + 1) hi2).tr hpe n1 (fun y k h1 h2 => (m2 _ _ (by omega)).trans (m1 _ _ (by omega))) (fun k hk => q_kp2_s20 (by omega) hk)
      · rw [q_kp2_9, if_pos rfl]
        exact (qn_ne es (Or.inr (by decide))).trans ((m1 _ _ (by omega)).trans e7)
  refine qx_M_in rfl (Nat.le_of_ble_eq_true rfl) ?_
  refine qy_wp_ok (c := CX8_keepPast) (cuts := []) vX8_keepPast wX8_keepPast 2000 0 _ _ _ ?_
  refine And.intro rfl (Exists.intro 26 (And.intro rfl ?_))
  refine And.intro rfl (Exists.intro 6 (Exists.intro (nI pf) (And.intro rfl (And.intro p2 ?_))))
  refine And.intro rfl (Exists.intro 7 (Exists.intro (nI u) (And.intro rfl (And.intro e7 ?_))))
  refine Exists.intro (nI (pf + u)) (And.intro (nI_add _ _) ?_)
  refine Exists.intro (nI 20) (And.intro rfl ?_)
  refine And.intro (by decide) (Exists.intro (nI j) (And.intro ((nI_rem (by omega) (by omega)).trans (congrArg nI ej.symm)) ?_))
  refine Exists.intro (j) (Exists.intro (some (31 + 5 * j)) (Exists.intro 6 (And.intro rfl (And.intro ⟨⟨20, rfl, by omega, by decide⟩, by decide, by decide⟩ (And.intro (show qx_mr σ 26 j = some (31 + 5 * j) from sh.1) ?_)))))
  refine And.intro rfl (Exists.intro 21 (And.intro rfl ?_))
  refine And.intro ((congrArg Prod.fst ((show qx_sh qc_T σ (31 + 5 * j) = _ from sh.2.1))).trans rfl) (Exists.intro _ (And.intro (by decide) (qx_M_mono (c_copyS sh.2 ⟨rfl, rfl, rfl, rfl, rfl⟩ (by omega)) ?_)))
  rintro _ σ1 ⟨rfl, fσ1, gσ1⟩
  refine And.intro rfl (Exists.intro 7 (Exists.intro (nI u) (And.intro rfl (And.intro ((fσ1.i _ _ (kS5_ne (by omega))).trans e7) ?_))))
  refine Exists.intro (nI 20) (And.intro rfl ?_)
  refine And.intro (fun h30 => ?_) (fun h30 => ?_)
  · skip
    have h30 := nI_leT (a := 20) (b := u) (by decide) (by omega) h30
    refine And.intro rfl (Exists.intro 6 (Exists.intro (nI pf) (And.intro rfl (And.intro ((fσ1.i _ _ (kS5_ne (by omega))).trans p2) ?_))))
    refine Exists.intro (nI 1) (And.intro rfl ?_)
    refine Exists.intro (nI (pf + 1)) (And.intro (nI_add _ _) ?_)
    refine Exists.intro (nI 20) (And.intro rfl ?_)
    refine And.intro (by decide) (Exists.intro (nI ((pf + 1) % 20)) (And.intro (nI_rem (by omega) (by omega)) ?_))
    obtain ⟨σ2, eσ2⟩ : ∃ zs, zs = (qx_wi σ1 15 6 (nI ((pf + 1) % 20))) := ⟨_, rfl⟩
    have fσ2 := qn_wif eσ2
    refine And.intro rfl (Exists.intro 6 (Exists.intro σ2 (And.intro rfl (And.intro eσ2.symm ?_))))
    exact ⟨rfl, fin _ _ fσ1 gσ1 (by first | exact Or.inr ⟨Nat.le_antisymm hu h30, eσ2⟩ | exact Or.inl ⟨h30, eσ2⟩)⟩
  · skip
    have h30 := nI_leF (a := 20) (b := u) (by decide) (by omega) h30
    refine And.intro rfl (Exists.intro 7 (Exists.intro (nI u) (And.intro rfl (And.intro ((fσ1.i _ _ (kS5_ne (by omega))).trans e7) ?_))))
    refine Exists.intro (nI 1) (And.intro rfl ?_)
    refine Exists.intro (nI (u + 1)) (And.intro (nI_add _ _) ?_)
    obtain ⟨σ2, eσ2⟩ : ∃ zs, zs = (qx_wi σ1 15 7 (nI (u + 1))) := ⟨_, rfl⟩
    have fσ2 := qn_wif eσ2
    refine And.intro rfl (Exists.intro 7 (Exists.intro σ2 (And.intro rfl (And.intro eσ2.symm ?_))))
    exact ⟨rfl, fin _ _ fσ1 gσ1 (by first | exact Or.inr ⟨Nat.le_antisymm hu h30, eσ2⟩ | exact Or.inl ⟨h30, eσ2⟩)⟩

