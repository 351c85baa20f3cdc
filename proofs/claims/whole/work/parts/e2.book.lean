/-! THE CLASS: may, the book, places -/
theorem cI.ring {σ : qx_S} {S : qS} {rf : Option qR} {e : Nat} (hI : cI σ S rf e) : rgC σ 27 (q_cm S) (s_n S 4) := ⟨⟨rfl, rfl⟩, hI.cl.1, fun j hj => (hI.cl.2 j hj).trans (hI.1.2.2.1.2.2 j hj).1⟩
theorem cI.atC {σ : qx_S} {S : qS} {rf : Option qR} {e : Nat} (hI : cI σ S rf e) : atC σ 22 (s_at S) (s_n S 1) := ⟨rfl, fun p hp => ⟨hI.at hp, hI.at8 hp⟩⟩
theorem c_may_no {G : qx_G} {σ : qx_S} {S : qS} {rf : Option qR} {e : Nat} (hI : cI σ S rf e) (h2 : s_n S 4 < 2) : qx_M G qc_T 5 YX11_may [.ref 3] σ (qr (-1) σ) := by
  refine qx_M_in rfl (Nat.le_of_ble_eq_true rfl) ?_
  refine qy_wp_ok (c := CX11_may) (cuts := []) vX11_may wX11_may 2000 0 _ _ _ ?_
  refine And.intro rfl (Exists.intro 15 (And.intro rfl ?_))
  refine And.intro rfl (Exists.intro 27 (And.intro rfl ?_))
  refine And.intro rfl (Exists.intro 1 (Exists.intro (nI (s_n S 4)) (And.intro rfl (And.intro hI.cl.1 ?_))))
  refine Exists.intro (nI 2) (And.intro rfl ?_)
  refine And.intro (fun h11 => ?_) (fun h11 => ?_)
  · skip
    have h11 := nI_leT (a := 2) (b := s_n S 4) (by decide) (by omega) h11
    exact absurd h11 (by omega)
  · skip
    have h11 := nI_leF (a := 2) (b := s_n S 4) (by decide) (by omega) h11
    refine Exists.intro ((-1)) (And.intro (by decide) ?_)
    exact ⟨rfl, rfl⟩
theorem c_may_ok {G : qx_G} {σ : qx_S} {S : qS} {rf : Option qR} {e : Nat} (hI : cI σ S rf e) (h2 : 2 ≤ s_n S 4) : qx_M G qc_T 5 YX11_may [.ref 3] σ (fun r s => r = some (.int (nI (q_lb S rf none (q_cm S) (s_n S 4)))) ∧ ql kLw σ s ∧ cI s S rf e) := by
  have c6 := hI.1.2.2.1.2.1
  have key := c_brokenByRing (G := G) hI.W hI.K cH_rf c6 (fun k hk => (hI.1.2.2.1.2.2 k hk).2) (Or.inl (by decide)) (Or.inl (by decide)) (Or.inl (by decide)) hI.ring hI.atC
  rw [q_lbg_at] at key
  refine qx_M_in rfl (Nat.le_of_ble_eq_true rfl) ?_
  refine qy_wp_ok (c := CX11_may) (cuts := []) vX11_may wX11_may 2000 0 _ _ _ ?_
  refine And.intro rfl (Exists.intro 15 (And.intro rfl ?_))
  refine And.intro rfl (Exists.intro 27 (And.intro rfl ?_))
  refine And.intro rfl (Exists.intro 1 (Exists.intro (nI (s_n S 4)) (And.intro rfl (And.intro hI.cl.1 ?_))))
  refine Exists.intro (nI 2) (And.intro rfl ?_)
  refine And.intro (fun h11 => ?_) (fun h11 => ?_)
  · skip
    have h11 := nI_leT (a := 2) (b := s_n S 4) (by decide) (by omega) h11
    refine And.intro rfl (Exists.intro 156 (And.intro rfl ?_))
    refine And.intro rfl (Exists.intro 15 (And.intro rfl ?_))
    refine And.intro rfl (Exists.intro 27 (And.intro rfl ?_))
    refine And.intro rfl (Exists.intro 15 (And.intro rfl ?_))
    refine And.intro rfl (Exists.intro 21 (And.intro rfl ?_))
    refine And.intro rfl (Exists.intro 22 (And.intro rfl ?_))
    refine And.intro rfl (Exists.intro _ (And.intro (by decide) (qx_M_mono (key) ?_)))
    rintro _ σ1 ⟨rfl, fσ1, kσ1⟩
    exact ⟨rfl, fσ1, hI.lw fσ1 kσ1⟩
  · skip
    have h11 := nI_leF (a := 2) (b := s_n S 4) (by decide) (by omega) h11
    exact absurd h11 (by omega)
theorem c_book_no {G : qx_G} {σ : qx_S} {S : qS} {rf : Option qR} {e : Nat} (hI : cI σ S rf e) (hb : s_n S 4 < 2 ∨ s_n S 5 = 12) : qx_M G qc_T 1 YX11_book [.ref 3] σ (qr (-1) σ) := by
  have c6 := hI.1.2.2.1.2.1
  have b12 := hI.1.b12
  refine qx_M_in rfl (Nat.le_of_ble_eq_true rfl) ?_
  refine qy_wp_ok (c := CX11_book) (cuts := []) vX11_book wX11_book 2000 0 _ _ _ ?_
  refine And.intro rfl (Exists.intro 15 (And.intro rfl ?_))
  refine And.intro rfl (Exists.intro 27 (And.intro rfl ?_))
  refine And.intro rfl (Exists.intro 1 (Exists.intro (nI (s_n S 4)) (And.intro rfl (And.intro hI.cl.1 ?_))))
  refine Exists.intro (nI 2) (And.intro rfl ?_)
  refine And.intro (fun h11 => ?_) (fun h11 => ?_)
  · skip
    have h11 := nI_ltT (a := s_n S 4) (b := 2) (by omega) (by decide) h11
    refine Exists.intro ((-1)) (And.intro (by decide) ?_)
    exact ⟨rfl, rfl⟩
  · skip
    have h11 := nI_ltF (a := s_n S 4) (b := 2) (by omega) (by decide) h11
    refine And.intro rfl (Exists.intro 15 (And.intro rfl ?_))
    refine And.intro rfl (Exists.intro 8 (Exists.intro (nI (s_n S 5)) (And.intro rfl (And.intro (hI.2.1.2.2.2.2.2.2.2.1.trans hI.1.2.2.2.1.1) ?_))))
    refine Exists.intro (nI 12) (And.intro rfl ?_)
    refine And.intro (fun h23 => ?_) (fun h23 => ?_)
    · skip
      have h23 := nI_ltT (a := s_n S 5) (b := 12) (by omega) (by decide) h23
      exact absurd h23 (by omega)
    · skip
      have h23 := nI_ltF (a := s_n S 5) (b := 12) (by omega) (by decide) h23
      refine Exists.intro ((-1)) (And.intro (by decide) ?_)
      exact ⟨rfl, rfl⟩
theorem q_bo_m {S : qS} {n c j : Nat} (h : j < c) : q_bo S n c (254 + 7 * n + 1 + j) = S (148 + j) := by
  unfold q_bo
  rw [if_neg (by omega), if_pos (by omega)]
  exact congrArg S (by omega)
theorem q_bo_n {S : qS} {n c : Nat} : q_bo S n c (254 + 7 * n) = S 4 := if_pos rfl
theorem q_bo_o {S : qS} {n c i : Nat} (h : i < 254 + 7 * n ∨ 254 + 7 * n + 1 + c ≤ i) : q_bo S n c i = S i := by
  unfold q_bo
  rw [if_neg (by omega), if_neg (by omega)]
theorem c_book_ok {G : qx_G} {σ : qx_S} {S : qS} {rf : Option qR} {e : Nat} (hI : cI σ S rf e) (h2 : 2 ≤ s_n S 4) (hn : s_n S 5 < 12) : qx_M G qc_T 1 YX11_book [.ref 3] σ (fun r s => r = some (.int (nI (s_n S 5))) ∧ ql [(27, some 1), (15, some 8), (131 + 2 * s_n S 5, none), (131 + 2 * s_n S 5 + 1, none)] σ s ∧ cI s (va_up (va_up (q_bo S (s_n S 5) (s_n S 4)) 4 (nI 0)) 5 (nI (s_n S 5 + 1))) rf e) := by
  have c6 := hI.1.2.2.1.2.1
  obtain ⟨n, en⟩ : ∃ n, n = s_n S 5 := ⟨_, rfl⟩
  obtain ⟨c, ec⟩ : ∃ c, c = s_n S 4 := ⟨_, rfl⟩
  obtain ⟨S', eS⟩ : ∃ S', S' = va_up (va_up (q_bo S n c) 4 (nI 0)) 5 (nI (n + 1)) := ⟨_, rfl⟩
  rw [← en, ← ec, ← eS]
  rw [← ec] at c6 h2
  rw [← en] at hn
  have o : ∀ i, ¬ i = 4 → ¬ i = 5 → S' i = q_bo S n c i := fun i h4 h5 => by rw [eS]; exact (va_up_ne _ _ h5).trans (va_up_ne _ _ h4)
  have ne : ∀ i, ¬ i = 4 → ¬ i = 5 → (i < 254 + 7 * n ∨ 254 + 7 * n + 1 + c ≤ i) → S' i = S i := fun i h4 h5 h6 => (o i h4 h5).trans (q_bo_o h6)
  have x4 : S' 4 = nI 0 := by rw [eS, va_up_ne _ _ (by decide), va_up_self]
  have x5 : S' 5 = nI (n + 1) := by rw [eS, va_up_self]
  have n5 : s_n S' 5 = n + 1 := by
    unfold s_n
    rw [x5]
    exact nI_clamp (by omega)
  have n4 : s_n S' 4 = 0 := by
    unfold s_n
    rw [x4]
    rfl
  have x6 : S' (254 + 7 * n) = nI c := (o _ (by omega) (by omega)).trans (q_bo_n.trans (by rw [ec]; exact hI.1.2.2.1.1))
  have n6 : s_n S' (254 + 7 * n) = c := by
    unfold s_n
    rw [x6]
    exact nI_clamp (by omega)
  have x7 : ∀ j, j < c → S' (254 + 7 * n + 1 + j) = S (148 + j) := fun j hj => (o _ (by omega) (by omega)).trans (q_bo_m hj)
  have sz : ∀ i, i < n → s_n S (254 + 7 * i) ≤ 6 := fun i hi => (hI.1.2.2.2.1.2.2 i (by omega)).2.2.1
  have g' : gT S' := by
    refine hI.1.ot ⟨by rw [n4]; exact x4, by rw [n4]; omega, fun k hk => by rw [n4] at hk; omega⟩ ⟨by rw [n5]; exact x5, by rw [n5]; omega, ?_⟩ (fun i hi => ne _ (by omega) (by omega) (by omega))
    rw [n5, s_n_cg (ne 1 (by omega) (by omega) (by omega))]
    intro b hb
    by_cases z : b = n
    · rw [z, n6, x6]
      refine ⟨rfl, by omega, by omega, fun k hk => ?_⟩
      rw [x7 k hk, show s_n S' (254 + 7 * n + 1 + k) = s_n S (148 + k) from congrArg Int32.toNatClampNeg (x7 k hk)]
      exact hI.1.2.2.1.2.2 k (by omega)
    · have hb2 : b < n := by omega
      have s6 := sz b hb2
      obtain ⟨y1, y2, y3, y4⟩ := hI.1.2.2.2.1.2.2 b (by omega)
      rw [ne (254 + 7 * b) (by omega) (by omega) (by omega), s_n_cg (ne (254 + 7 * b) (by omega) (by omega) (by omega))]
      refine ⟨y1, y2, y3, fun k hk => ?_⟩
      rw [ne _ (by omega) (by omega) (by omega), s_n_cg (ne (254 + 7 * b + 1 + k) (by omega) (by omega) (by omega))]
      exact y4 k hk
  have hsh := hI.2.2.1.2.2.2.2.2.2.2.2 n hn
  have c1 : qx_mi σ 27 1 = nI c := by rw [ec]; exact hI.cl.1
  have c2 : ∀ j, j < c → qx_mi σ 28 j = S (148 + j) := by rw [ec]; exact hI.cl.2
  have b1 : qx_mi σ 15 8 = nI n := by rw [en]; exact hI.2.1.2.2.2.2.2.2.2.1.trans hI.1.2.2.2.1.1
  have fin : ∀ σ1 σ2 s, ql [(131 + 2 * n, none), (131 + 2 * n + 1, none)] σ σ1 → cpG σ σ1 (131 + 2 * n) 27 → σ2 = qx_wi σ1 27 1 (nI 0) → s = qx_wi σ2 15 8 (nI (n + 1)) → ql [(27, some 1), (15, some 8), (131 + 2 * n, none), (131 + 2 * n + 1, none)] σ s ∧ cI s S' rf e := by
    intro σ1 σ2 s f1 hc e2 e3
    have f : ql [(27, some 1), (15, some 8), (131 + 2 * n, none), (131 + 2 * n + 1, none)] σ s := by
      refine (f1.mono (fun x j hx => ?_)).tr (((qn_wif e2).mono (fun x j hx => ?_)).tr ((qn_wif e3).mono (fun x j hx => ?_)))
      · exact (Bool.or_eq_false_iff.mp (Bool.or_eq_false_iff.mp hx).2).2
      · exact Bool.or_eq_false_iff.mpr ⟨(Bool.or_eq_false_iff.mp hx).1, rfl⟩
      · exact Bool.or_eq_false_iff.mpr ⟨(Bool.or_eq_false_iff.mp (Bool.or_eq_false_iff.mp hx).2).1, rfl⟩
    have m : ∀ y j, y ≠ 131 + 2 * n → y ≠ 131 + 2 * n + 1 → ¬ (y = 27 ∧ j = 1) → ¬ (y = 15 ∧ j = 8) → qx_mi s y j = qx_mi σ y j := fun y j h1 h2 h3 h4 => (qn_ne e3 (by omega)).trans ((qn_ne e2 (by omega)).trans (f1.i _ _ (pL_ne (by simp; omega))))
    have mm : ∀ j, qx_mi s (131 + 2 * n) j = qx_mi σ1 (131 + 2 * n) j := fun j => (qn_ne e3 (by omega)).trans (qn_ne e2 (by omega))
    have mm1 : ∀ j, qx_mi s (131 + 2 * n + 1) j = qx_mi σ1 (131 + 2 * n + 1) j := fun j => (qn_ne e3 (by omega)).trans (qn_ne e2 (by omega))
    have k : kY [(27, some 1), (15, some 8), (131 + 2 * n, none), (131 + 2 * n + 1, none)] = true := by
      refine List.all_eq_true.mpr (fun q hq => ?_)
      simp only [List.mem_cons, List.not_mem_nil, or_false] at hq
      rcases hq with z | z | z | z
      · rw [z]; rfl
      · rw [z]; rfl
      · rw [z]
        have h1 : Nat.blt (131 + 2 * n) 191 = true := Nat.ble_eq_true_of_le (by omega)
        have h2 : ∀ y, (y = 156 ∨ y = 157 ∨ y = 3 ∨ y = 15) → Nat.beq (131 + 2 * n) y = false := fun y hy => Bool.eq_false_iff.mpr (fun w => by have := Nat.eq_of_beq_eq_true w; omega)
        show (Nat.blt (131 + 2 * n) 191 && !(Nat.beq (131 + 2 * n) 156) && !(Nat.beq (131 + 2 * n) 157) && (!(Nat.beq (131 + 2 * n) 3) || false) && (!(Nat.beq (131 + 2 * n) 15) || false)) = true
        rw [h1, h2 156 (by omega), h2 157 (by omega), h2 3 (by omega), h2 15 (by omega)]
        rfl
      · rw [z]
        have h1 : Nat.blt (131 + 2 * n + 1) 191 = true := Nat.ble_eq_true_of_le (by omega)
        have h2 : ∀ y, (y = 156 ∨ y = 157 ∨ y = 3 ∨ y = 15) → Nat.beq (131 + 2 * n + 1) y = false := fun y hy => Bool.eq_false_iff.mpr (fun w => by have := Nat.eq_of_beq_eq_true w; omega)
        show (Nat.blt (131 + 2 * n + 1) 191 && !(Nat.beq (131 + 2 * n + 1) 156) && !(Nat.beq (131 + 2 * n + 1) 157) && (!(Nat.beq (131 + 2 * n + 1) 3) || false) && (!(Nat.beq (131 + 2 * n + 1) 15) || false)) = true
        rw [h1, h2 156 (by omega), h2 157 (by omega), h2 3 (by omega), h2 15 (by omega)]
        rfl
    refine ⟨f, hI.ax f k g' (hI.2.1.ot hI.1 ⟨?_, fun j hj => ?_⟩ ?_ (fun p hp => ?_) ?_ ?_ ?_ (fun y j hy => m _ _ (by omega) (by omega) (by omega) (by omega)) (fun i hi => ne _ (by omega) (by omega) (by omega))) (fun i hi => ne _ (by omega) (by omega) (by omega))⟩
    · rw [x4]
      exact (qn_ne e3 (Or.inl (by decide))).trans (qn_eq e2)
    · rw [x4] at hj
      exact absurd hj (Nat.not_lt_zero j)
    · intro i hi
      rw [n5] at hi
      by_cases z : i = n
      · rw [z, x6]
        refine ⟨(mm 1).trans (hc.1.trans c1), fun j hj => ?_⟩
        have hj : j < c := by rw [nI_clamp (by omega)] at hj; exact hj
        exact (mm1 j).trans ((hc.2 j (by omega)).trans ((c2 j hj).trans (x7 j hj).symm))
      · have hi2 : i < n := by omega
        have s6 := sz i hi2
        have w := hI.2.1.2.2.2.2.1 i (by omega)
        refine w.tr (ne _ (by omega) (by omega) (by omega)) (fun y j h1 h2 => m _ _ (by omega) (by omega) (by omega) (by omega)) (fun j hj => ?_)
        have hj : j < s_n S (254 + 7 * i) := hj
        exact ne _ (by omega) (by omega) (by omega)
    · rw [ne _ (by omega) (by omega) (by have := hI.1.pe; omega)]
      exact (m _ _ (by omega) (by omega) (by omega) (by omega)).trans (hI.2.1.2.2.2.2.2.1 p hp)
    · rw [x5]
      exact qn_eq e3
    · rw [ne _ (by omega) (by omega) (by omega)]
      exact (m _ _ (by omega) (by omega) (by omega) (by omega)).trans hI.2.1.2.2.2.2.2.2.2.2.1
    · rw [ne _ (by omega) (by omega) (by omega)]
      exact (m _ _ (by omega) (by omega) (by omega) (by omega)).trans hI.2.1.2.2.2.2.2.2.2.2.2
  refine qx_M_in rfl (Nat.le_of_ble_eq_true rfl) ?_
  refine qy_wp_ok (c := CX11_book) (cuts := []) vX11_book wX11_book 2000 0 _ _ _ ?_
  refine And.intro rfl (Exists.intro 15 (And.intro rfl ?_))
  refine And.intro rfl (Exists.intro 27 (And.intro rfl ?_))
  refine And.intro rfl (Exists.intro 1 (Exists.intro (nI c) (And.intro rfl (And.intro c1 ?_))))
  refine Exists.intro (nI 2) (And.intro rfl ?_)
  refine And.intro (fun h11 => ?_) (fun h11 => ?_)
  · skip
    have h11 := nI_ltT (a := c) (b := 2) (by omega) (by decide) h11
    exact absurd h11 (by omega)
  · skip
    have h11 := nI_ltF (a := c) (b := 2) (by omega) (by decide) h11
    refine And.intro rfl (Exists.intro 15 (And.intro rfl ?_))
    refine And.intro rfl (Exists.intro 8 (Exists.intro (nI n) (And.intro rfl (And.intro b1 ?_))))
    refine Exists.intro (nI 12) (And.intro rfl ?_)
    refine And.intro (fun h23 => ?_) (fun h23 => ?_)
    · skip
      have h23 := nI_ltT (a := n) (b := 12) (by omega) (by decide) h23
      refine And.intro rfl (Exists.intro 15 (And.intro rfl ?_))
      refine And.intro rfl (Exists.intro 29 (And.intro rfl ?_))
      refine And.intro rfl (Exists.intro 15 (And.intro rfl ?_))
      refine And.intro rfl (Exists.intro 8 (Exists.intro (nI n) (And.intro rfl (And.intro b1 ?_))))
      refine Exists.intro (n) (Exists.intro (some (131 + 2 * n)) (Exists.intro 4 (And.intro rfl (And.intro ⟨⟨12, rfl, by omega, by decide⟩, by decide, by decide⟩ (And.intro (show qx_mr σ 29 n = some (131 + 2 * n) from hsh.1) ?_)))))
      refine And.intro rfl (Exists.intro 15 (And.intro rfl ?_))
      refine And.intro rfl (Exists.intro 27 (And.intro rfl ?_))
      refine And.intro ((congrArg Prod.fst ((show qx_sh qc_T σ (131 + 2 * n) = _ from hsh.2.1))).trans rfl) (Exists.intro _ (And.intro (by decide) (qx_M_mono (c_copyG hsh.2 ⟨rfl, rfl⟩ (by omega)) ?_)))
      rintro _ σ1 ⟨rfl, fσ1, gσ1⟩
      refine And.intro rfl (Exists.intro 15 (And.intro rfl ?_))
      refine And.intro rfl (Exists.intro 27 (And.intro rfl ?_))
      refine Exists.intro (nI 0) (And.intro rfl ?_)
      obtain ⟨σ2, eσ2⟩ : ∃ zs, zs = (qx_wi σ1 27 1 (nI 0)) := ⟨_, rfl⟩
      have fσ2 := qn_wif eσ2
      refine And.intro rfl (Exists.intro 1 (Exists.intro σ2 (And.intro rfl (And.intro eσ2.symm ?_))))
      refine And.intro rfl (Exists.intro 15 (And.intro rfl ?_))
      refine And.intro rfl (Exists.intro 8 (Exists.intro (nI n) (And.intro rfl (And.intro ((fσ2.i _ _ rfl).trans (((fσ1.i _ _ (pL_ne (by simp; omega))).trans b1))) ?_))))
      refine Exists.intro (nI 1) (And.intro rfl ?_)
      refine Exists.intro (nI (n + 1)) (And.intro (nI_add _ _) ?_)
      obtain ⟨σ3, eσ3⟩ : ∃ zs, zs = (qx_wi σ2 15 8 (nI (n + 1))) := ⟨_, rfl⟩
      have fσ3 := qn_wif eσ3
      refine And.intro rfl (Exists.intro 8 (Exists.intro σ3 (And.intro rfl (And.intro eσ3.symm ?_))))
      refine And.intro rfl (Exists.intro 15 (And.intro rfl ?_))
      refine And.intro rfl (Exists.intro 8 (Exists.intro (nI (n + 1)) (And.intro rfl (And.intro (qn_eq eσ3) ?_))))
      refine Exists.intro (nI 1) (And.intro rfl ?_)
      refine Exists.intro (nI n) (And.intro ((nI_sub (by omega)).trans (congrArg nI (by omega))) ?_)
      exact ⟨rfl, fin _ _ _ fσ1 gσ1 eσ2 eσ3⟩
    · skip
      have h23 := nI_ltF (a := n) (b := 12) (by omega) (by decide) h23
      exact absurd h23 (by omega)

