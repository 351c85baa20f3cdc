/-! THE CLASS: a country's numbers -/
theorem l_fill {G : qx_G} {σ0 : qx_S} {x N : Nat} {v : Int32} (hs : qx_sh qc_T σ0 x = (0, N)) (hN : N ≤ 5000) : ∀ (m i : Nat) (σ : qx_S), i + m = N → ql [(x, none)] σ0 σ → (∀ j, j < i → qx_mi σ x j = v) →
    qx_K G qc_T 0 RJ7 YJ7_fill_53178 5 [.ref x, .int v, .int (nI i), .int (nI N)] [] σ (fun r s => r = none ∧ ql [(x, none)] σ0 s ∧ ∀ j, j < N → qx_mi s x j = v) := by
  intro m
  induction m with
  | zero =>
    intro i σ hi hf hj
    obtain rfl : i = N := by omega
    refine qy_wp_ok (c := CJ7_fill_53178) (cuts := [5]) vJ7_fill_53178 wJ7_fill_53178 2000 5 _ _ _ ?_
    refine And.intro (fun h7 => ?_) (fun h7 => ?_)
    · skip
      have h7 := nI_leT (a := i) (b := i) (by omega) (by omega) h7
      exact ⟨rfl, hf, hj⟩
    · skip
      have h7 := nI_leF (a := i) (b := i) (by omega) (by omega) h7
      exact absurd h7 (by omega)
  | succ m ih =>
    intro i σ hi hf hj
    have hs1 := (hf.s x).trans hs
    refine qy_wp_ok (c := CJ7_fill_53178) (cuts := [5]) vJ7_fill_53178 wJ7_fill_53178 2000 5 _ _ _ ?_
    refine And.intro (fun h7 => ?_) (fun h7 => ?_)
    · skip
      have h7 := nI_leT (a := N) (b := i) (by omega) (by omega) h7
      exact absurd h7 (by omega)
    · skip
      have h7 := nI_leF (a := N) (b := i) (by omega) (by omega) h7
      obtain ⟨σ1, eσ1⟩ : ∃ zs, zs = (qx_wi σ x i v) := ⟨_, rfl⟩
      have fσ1 := qn_wi eσ1
      refine Exists.intro (i) (Exists.intro σ1 (And.intro rfl (And.intro ⟨N, hs1, by omega, by omega⟩ (And.intro eσ1.symm ?_))))
      refine Exists.intro (nI (i + 1)) (And.intro (nI_add _ _) ?_)
      refine ih (i + 1) _ (by omega) (hf.tr fσ1) (fun j hjj => ?_)
      by_cases z : j = i
      · rw [z]; exact qn_eq eσ1
      · exact (qn_ne eσ1 (Or.inr z)).trans (hj j (by omega))
theorem c_fill {G : qx_G} {σ : qx_S} {x N : Nat} {v : Int32} (hs : qx_sh qc_T σ x = (0, N)) (hN : N ≤ 5000) : qx_M G qc_T 0 YJ7_fill_53178 [.ref x, .int v] σ (fun r s => r = none ∧ ql [(x, none)] σ s ∧ ∀ j, j < N → qx_mi s x j = v) := by
  refine qx_M_in rfl (Nat.le_of_ble_eq_true rfl) ?_
  refine qy_wp_ok (c := CJ7_fill_53178) (cuts := [5]) vJ7_fill_53178 wJ7_fill_53178 2000 0 _ _ _ ?_
  refine Exists.intro (nI 0) (And.intro rfl ?_)
  refine Exists.intro (0, N) (Exists.intro (nI N) (And.intro hs (And.intro (show (0 : Nat) ≤ 7 by decide) (And.intro rfl ?_))))
  exact l_fill hs hN N 0 σ (by omega) qf.rf (fun j hj => absurd hj (by omega))
/-- a number is asked for -/
abbrev kN : List (Nat × Option Nat) := [(9, some 8), (4, some 6), (4, some 7)]
theorem q_nf1_k {T : q_T} {p : Nat} (hb : ∀ k, k < T.1 → T.2 k < 256) (lo hi : Int32) : q_nf1 T p lo hi = if q_kd T p = 256 then (if lo ≤ nI (q_nu T p) ∧ nI (q_nu T p) ≤ hi then none else some (1 + 8 * p + 1)) else if q_kd T p = 257 then some (1 + 8 * p + 1) else some (1 + 8 * p + 0) := by
  unfold q_nf1
  cases hD : isD T p with
  | true =>
    rw [if_pos rfl, q_kd_D hD]
    by_cases z : q_de T p - p ≤ 5
    · rw [if_pos z, if_pos rfl]
      by_cases y : lo ≤ nI (q_nu T p) ∧ nI (q_nu T p) ≤ hi
      · rw [if_pos ⟨z, y⟩, if_pos y]
      · rw [if_neg (fun w => y w.2), if_neg y]
    · rw [if_neg z, if_neg (show ¬ (q_de T p - p ≤ 5 ∧ lo ≤ nI (q_nu T p) ∧ nI (q_nu T p) ≤ hi) from fun w => z w.1), if_neg (show ¬ (257 : Nat) = 256 by decide), if_pos rfl]
  | false =>
    obtain ⟨n6, n7⟩ := q_kd_nD hb hD
    rw [if_neg (by decide), if_neg n6, if_neg n7]
theorem c_readNumber {G : qx_G} {σ : qx_S} {T : q_T} {p : Nat} (h : cT σ T p) (lo hi : Int32) : qx_M G qc_T 1 YX1_readNumber [.ref 9, .ref 4, .int lo, .int hi] σ (fun r s' => ql kN σ s' ∧ (match q_nf1 T p lo hi with
    | some f => r = some (.int (bI false)) ∧ qx_mi s' 4 7 = nI f
    | none => r = some (.int (bI true)) ∧ cT s' T (q_nx T p) ∧ qx_mi s' 9 8 = nI (q_nu T p))) := by
  have hb := h.le.2.2
  have hkl := q_kd_le hb p
  rw [q_nf1_k hb]
  by_cases k6 : q_kd T p = 256
  · have mk := c_kind_n (G := G) h (by omega)
    rw [k6] at mk
    have mn := c_number (G := G) h
    rw [show q_tn T p = q_nu T p from if_pos (Or.inl k6)] at mn
    rw [if_pos k6]
    by_cases y : lo ≤ nI (q_nu T p) ∧ nI (q_nu T p) ≤ hi
    · rw [if_pos y]
      refine qx_M_in rfl (Nat.le_of_ble_eq_true rfl) ?_
      refine qy_wp_ok (c := CX1_readNumber) (cuts := [60]) vX1_readNumber wX1_readNumber 2000 0 _ _ _ ?_
      refine And.intro rfl (Exists.intro _ (And.intro (by decide) (qx_M_mono (mk) ?_)))
      rintro _ _ ⟨rfl, rfl⟩
      refine Exists.intro (nI 256) (And.intro rfl ?_)
      refine And.intro (fun h11 => ?_) (fun h11 => ?_)
      · skip
        refine And.intro rfl (Exists.intro _ (And.intro (by decide) (qx_M_mono (mn) ?_)))
        rintro _ _ ⟨rfl, rfl⟩
        obtain ⟨σ1, eσ1⟩ : ∃ zs, zs = (qx_wi σ 9 8 (nI (q_nu T p))) := ⟨_, rfl⟩
        have fσ1 := qn_wif eσ1
        refine And.intro rfl (Exists.intro 8 (Exists.intro σ1 (And.intro rfl (And.intro eσ1.symm ?_))))
        refine Exists.intro (nI 257) (And.intro rfl ?_)
        refine And.intro (fun h41 => ?_) (fun h41 => ?_)
        · skip
          exact absurd h41 (by decide)
        · skip
          refine And.intro rfl (Exists.intro 8 (Exists.intro (nI (q_nu T p)) (And.intro rfl (And.intro (qn_eq eσ1) ?_))))
          refine And.intro (fun h49 => ?_) (fun h49 => ?_)
          · skip
            refine qx_K_le (ls := [.retAddr 0, .ref 4, .retAddr 0, .retAddr 0, .retAddr 0]) ⟨Or.inl rfl, Or.inr rfl, Or.inl rfl, Or.inl rfl, Or.inl rfl, trivial⟩ ?_
            first | exact absurd y.1 (Int32.not_le.mpr h49) | exact absurd y.2 h57
          · skip
            refine And.intro rfl (Exists.intro 8 (Exists.intro (nI (q_nu T p)) (And.intro rfl (And.intro (qn_eq eσ1) ?_))))
            refine And.intro (fun h57 => ?_) (fun h57 => ?_)
            · skip
              refine And.intro rfl (Exists.intro _ (And.intro (by decide) (qx_M_mono (c_pass (h.fr fσ1 (by simp)) (by omega)) ?_)))
              rintro _ σ2 ⟨rfl, fσ2, aσ2⟩
              refine Exists.intro (nI 1) (And.intro rfl ?_)
              refine And.intro (Or.inr rfl) ?_
              exact ⟨(fσ1.mn (by decide)).tr (fσ2.mn (by decide)), rfl, aσ2, (fσ2.i _ _ rfl).trans (qn_eq eσ1)⟩
            · skip
              refine qx_K_le (ls := [.retAddr 0, .ref 4, .retAddr 0, .retAddr 0, .retAddr 0]) ⟨Or.inl rfl, Or.inr rfl, Or.inl rfl, Or.inl rfl, Or.inl rfl, trivial⟩ ?_
              first | exact absurd y.1 (Int32.not_le.mpr h49) | exact absurd y.2 h57
      · skip
        exact absurd (by decide) h11
    · rw [if_neg y]
      refine qx_M_in rfl (Nat.le_of_ble_eq_true rfl) ?_
      refine qy_wp_ok (c := CX1_readNumber) (cuts := [66]) vX1_readNumber wX1_readNumber 2000 0 _ _ _ ?_
      refine And.intro rfl (Exists.intro _ (And.intro (by decide) (qx_M_mono (mk) ?_)))
      rintro _ _ ⟨rfl, rfl⟩
      refine Exists.intro (nI 256) (And.intro rfl ?_)
      refine And.intro (fun h11 => ?_) (fun h11 => ?_)
      · skip
        refine And.intro rfl (Exists.intro _ (And.intro (by decide) (qx_M_mono (mn) ?_)))
        rintro _ _ ⟨rfl, rfl⟩
        obtain ⟨σ1, eσ1⟩ : ∃ zs, zs = (qx_wi σ 9 8 (nI (q_nu T p))) := ⟨_, rfl⟩
        have fσ1 := qn_wif eσ1
        refine And.intro rfl (Exists.intro 8 (Exists.intro σ1 (And.intro rfl (And.intro eσ1.symm ?_))))
        refine Exists.intro (nI 257) (And.intro rfl ?_)
        refine And.intro (fun h41 => ?_) (fun h41 => ?_)
        · skip
          exact absurd h41 (by decide)
        · skip
          refine And.intro rfl (Exists.intro 8 (Exists.intro (nI (q_nu T p)) (And.intro rfl (And.intro (qn_eq eσ1) ?_))))
          refine And.intro (fun h49 => ?_) (fun h49 => ?_)
          · skip
            refine Exists.intro (nI 1) (And.intro rfl ?_)
            refine And.intro rfl (Exists.intro _ (And.intro (by decide) (qx_M_mono (c_fail (h.fr fσ1 (by simp))) ?_)))
            rintro _ σ2 ⟨rfl, fσ2, gσ2⟩
            refine And.intro (bI_01 _) ?_
            exact ⟨(fσ1.mn (by decide)).tr (fσ2.mn (by decide)), rfl, gσ2⟩
          · skip
            refine And.intro rfl (Exists.intro 8 (Exists.intro (nI (q_nu T p)) (And.intro rfl (And.intro (qn_eq eσ1) ?_))))
            refine And.intro (fun h57 => ?_) (fun h57 => ?_)
            · skip
              refine qx_K_le (ls := [.retAddr 0, .ref 4, .retAddr 0, .retAddr 0, .retAddr 0]) ⟨Or.inl rfl, Or.inr rfl, Or.inl rfl, Or.inl rfl, Or.inl rfl, trivial⟩ ?_
              exact absurd ⟨Int32.not_lt.mp h49, h57⟩ y
            · skip
              refine Exists.intro (nI 1) (And.intro rfl ?_)
              refine And.intro rfl (Exists.intro _ (And.intro (by decide) (qx_M_mono (c_fail (h.fr fσ1 (by simp))) ?_)))
              rintro _ σ2 ⟨rfl, fσ2, gσ2⟩
              refine And.intro (bI_01 _) ?_
              exact ⟨(fσ1.mn (by decide)).tr (fσ2.mn (by decide)), rfl, gσ2⟩
      · skip
        exact absurd (by decide) h11
  · rw [if_neg k6]
    by_cases k7 : q_kd T p = 257
    · have mk := c_kind_n (G := G) h (by omega)
      rw [k7] at mk
      rw [if_pos k7]
      refine qx_M_in rfl (Nat.le_of_ble_eq_true rfl) ?_
      refine qy_wp_ok (c := CX1_readNumber) (cuts := []) vX1_readNumber wX1_readNumber 2000 0 _ _ _ ?_
      refine And.intro rfl (Exists.intro _ (And.intro (by decide) (qx_M_mono (mk) ?_)))
      rintro _ _ ⟨rfl, rfl⟩
      refine Exists.intro (nI 256) (And.intro rfl ?_)
      refine And.intro (fun h11 => ?_) (fun h11 => ?_)
      · skip
        exact absurd h11 (by decide)
      · skip
        refine Exists.intro (nI 257) (And.intro rfl ?_)
        refine And.intro (fun h19 => ?_) (fun h19 => ?_)
        · skip
          refine And.intro rfl (Exists.intro _ (And.intro (by decide) (qx_M_mono (c_number h) ?_)))
          rintro _ _ ⟨rfl, rfl⟩
          obtain ⟨σ1, eσ1⟩ : ∃ zs, zs = (qx_wi σ 9 8 (nI (q_tn T p))) := ⟨_, rfl⟩
          have fσ1 := qn_wif eσ1
          refine And.intro rfl (Exists.intro 8 (Exists.intro σ1 (And.intro rfl (And.intro eσ1.symm ?_))))
          refine Exists.intro (nI 257) (And.intro rfl ?_)
          refine And.intro (fun h41 => ?_) (fun h41 => ?_)
          · skip
            refine Exists.intro (nI 1) (And.intro rfl ?_)
            refine And.intro rfl (Exists.intro _ (And.intro (by decide) (qx_M_mono (c_fail (h.fr fσ1 (by simp))) ?_)))
            rintro _ σ2 ⟨rfl, fσ2, gσ2⟩
            refine And.intro (bI_01 _) ?_
            exact ⟨(fσ1.mn (by decide)).tr (fσ2.mn (by decide)), rfl, gσ2⟩
          · skip
            exact absurd (by decide) h41
        · skip
          exact absurd (by decide) h19
    · rw [if_neg k7]
      have n1 := kI_ne hkl (show 256 < 999 by decide) k6
      have n2 := kI_ne hkl (show 257 < 999 by decide) k7
      refine qx_M_in rfl (Nat.le_of_ble_eq_true rfl) ?_
      refine qy_wp_ok (c := CX1_readNumber) (cuts := [28]) vX1_readNumber wX1_readNumber 2000 0 _ _ _ ?_
      refine And.intro rfl (Exists.intro _ (And.intro (by decide) (qx_M_mono (c_kind h) ?_)))
      rintro _ _ ⟨rfl, rfl⟩
      refine Exists.intro (nI 256) (And.intro rfl ?_)
      refine And.intro (fun h11 => ?_) (fun h11 => ?_)
      · skip
        first | exact absurd h11 n1 | exact absurd h19 n2
      · skip
        refine Exists.intro (nI 257) (And.intro rfl ?_)
        refine And.intro (fun h19 => ?_) (fun h19 => ?_)
        · skip
          first | exact absurd h11 n1 | exact absurd h19 n2
        · skip
          refine Exists.intro (nI 0) (And.intro rfl ?_)
          refine And.intro rfl (Exists.intro _ (And.intro (by decide) (qx_M_mono (c_fail h) ?_)))
          rintro _ σ1 ⟨rfl, fσ1, gσ1⟩
          refine And.intro (bI_01 _) ?_
          exact ⟨fσ1.mn (by decide), rfl, gσ1⟩
theorem q_ca_cg {D D' : qS} {q : Int32} : ∀ n, (∀ c, c < n → D' (140 + c) = D (140 + c)) → q_ca D' q n = q_ca D q n
  | 0, _ => rfl
  | n + 1, h => by
    show q_ca D' q n + _ = q_ca D q n + _
    rw [q_ca_cg n (fun c hc => h c (by omega)), h n (by omega)]
/-- a country at b (its rows behind it) is told by D -/
def dR (σ : qx_S) (b : Nat) (D : qS) : Prop := qx_mi σ b 4 = D 0 ∧ qx_mi σ b 5 = D 1 ∧ qx_mi σ b 6 = D 2 ∧ (∀ p, p < s_n D 1 → qx_mi σ (b + 1) p = D (10 + 5 * p + 1) ∧ qx_mi σ (b + 2) p = D (10 + 5 * p + 2)) ∧ (∀ p, p < s_n D 1 → ∀ q, q < 8 → qx_mi σ (b + 3) (8 * p + q) = D (60 + 8 * p + q)) ∧ (∀ k, 8 * s_n D 1 ≤ k → k < 80 → qx_mi σ (b + 3) k = nI 0) ∧ (∀ q, q < 8 → qx_mi σ (b + 4) q = nI (q_ca D (nI q) (s_n D 2))) ∧ ∃ bn, qx_mi σ b 7 = nI bn ∧ bn < 2 ^ s_n D 1 ∧ ∀ p, p < s_n D 1 → (bn.testBit p = true ↔ D (10 + 5 * p + 3) = nI 1)
/-- what a clause answers -/
abbrev kD : List (Nat × Option Nat) := [(9, none), (10, none), (11, none), (12, none), (13, none), (4, some 6), (4, some 7)]
def rQ (σ s' : qx_S) (T : q_T) (x : Except Nat (Nat × qS)) (r : Option Value) : Prop := ql kD σ s' ∧ (match x with
  | .error f => r = some (.int (bI false)) ∧ qx_mi s' 4 7 = nI f
  | .ok y => r = some (.int (bI true)) ∧ cT s' T y.1 ∧ dR s' 9 y.2)
theorem dR.fr {σ s' : qx_S} {D : qS} {l : List (Nat × Option Nat)} (h : dR σ 9 D) (f : ql l σ s') (hk : pLs l kN = true) : dR s' 9 D := by
  have f := f.mn hk
  obtain ⟨a1, a2, a3, a4, a5, a6, a7, bn, a8, a9, a10⟩ := h
  exact ⟨(f.i _ _ rfl).trans a1, (f.i _ _ rfl).trans a2, (f.i _ _ rfl).trans a3, fun p hp => ⟨(f.i 10 _ rfl).trans (a4 p hp).1, (f.i 11 _ rfl).trans (a4 p hp).2⟩, fun p hp q hq => (f.i 12 _ rfl).trans (a5 p hp q hq), fun k h1 h2 => (f.i 12 _ rfl).trans (a6 k h1 h2), fun q hq => (f.i 13 _ rfl).trans (a7 q hq), bn, (f.i _ _ rfl).trans a8, a9, a10⟩
theorem c_places {G : qx_G} {σ : qx_S} {T : q_T} {p : Nat} {D : qS} (h : cT σ T p) (hd : dR σ 9 D) : qx_M G qc_T 2 YX1_readPlaces [.ref 9, .ref 4] σ (fun r s' => rQ σ s' T (q_cell T p (nI 2) (nI 8) 0 D) r) := by
  have mn := c_readNumber (G := G) h (nI 2) (nI 8)
  unfold q_cell
  cases e : q_nf1 T p (nI 2) (nI 8) with
  | some f =>
    rw [e] at mn
    refine qx_M_in rfl (Nat.le_of_ble_eq_true rfl) ?_
    refine qy_wp_ok (c := CX1_readPlaces) (cuts := []) vX1_readPlaces wX1_readPlaces 2000 0 _ _ _ ?_
    refine Exists.intro (nI 2) (And.intro rfl ?_)
    refine Exists.intro (nI 8) (And.intro rfl ?_)
    refine And.intro rfl (Exists.intro _ (And.intro (by decide) (qx_M_mono (mn) ?_)))
    rintro _ σ1 ⟨fσ1, rfl, gσ1⟩
    refine And.intro (fun h8 => ?_) (fun h8 => ?_)
    · skip
      have h8 := bI_t h8
      exact absurd (h8.symm.trans (rfl)) (by decide)
    · skip
      have h8 := bI_f h8
      refine Exists.intro (nI 0) (And.intro rfl ?_)
      refine And.intro (Or.inl rfl) ?_
      exact ⟨fσ1.mn (by decide), rfl, gσ1⟩
  | none =>
    rw [e] at mn
    have n1 : s_n (va_up D 0 (nI (q_nu T p))) 1 = s_n D 1 := sn_ne (by decide)
    have n2 : s_n (va_up D 0 (nI (q_nu T p))) 2 = s_n D 2 := sn_ne (by decide)
    refine qx_M_in rfl (Nat.le_of_ble_eq_true rfl) ?_
    refine qy_wp_ok (c := CX1_readPlaces) (cuts := []) vX1_readPlaces wX1_readPlaces 2000 0 _ _ _ ?_
    refine Exists.intro (nI 2) (And.intro rfl ?_)
    refine Exists.intro (nI 8) (And.intro rfl ?_)
    refine And.intro rfl (Exists.intro _ (And.intro (by decide) (qx_M_mono (mn) ?_)))
    rintro _ σ1 ⟨fσ1, rfl, aσ1, gσ1⟩
    refine And.intro (fun h8 => ?_) (fun h8 => ?_)
    · skip
      have h8 := bI_t h8
      refine And.intro rfl (Exists.intro 8 (Exists.intro (nI (q_nu T p)) (And.intro rfl (And.intro gσ1 ?_))))
      obtain ⟨σ2, eσ2⟩ : ∃ zs, zs = (qx_wi σ1 9 4 (nI (q_nu T p))) := ⟨_, rfl⟩
      have fσ2 := qn_wif eσ2
      refine And.intro rfl (Exists.intro 4 (Exists.intro σ2 (And.intro rfl (And.intro eσ2.symm ?_))))
      refine Exists.intro (nI 1) (And.intro rfl ?_)
      refine And.intro (Or.inr rfl) ?_
      obtain ⟨a1, a2, a3, a4, a5, a6, a7, bn, a8, a9, a10⟩ := hd.fr fσ1 (by decide)
      refine ⟨(fσ1.mn (by decide)).tr (fσ2.mn (by decide)), rfl, aσ1.fr fσ2 (by simp), ?_⟩
      unfold dR
      dsimp only
      rw [n1, n2]
      refine ⟨(qn_eq eσ2).trans (va_up_self _ _ _).symm, (qn_ne eσ2 (Or.inr (by decide))).trans (a2.trans (va_up_ne _ _ (by decide)).symm), (qn_ne eσ2 (Or.inr (by decide))).trans (a3.trans (va_up_ne _ _ (by decide)).symm), fun p hp => ⟨(fσ2.i 10 _ rfl).trans ((a4 p hp).1.trans (va_up_ne _ _ (by omega)).symm), (fσ2.i 11 _ rfl).trans ((a4 p hp).2.trans (va_up_ne _ _ (by omega)).symm)⟩, fun p hp q hq => (fσ2.i 12 _ rfl).trans ((a5 p hp q hq).trans (va_up_ne _ _ (by omega)).symm), fun k h1 h2 => (fσ2.i 12 _ rfl).trans (a6 k h1 h2), fun q hq => (fσ2.i 13 _ rfl).trans ((a7 q hq).trans (congrArg nI (q_ca_cg _ (fun c _ => va_up_ne _ _ (by omega))).symm)), bn, (qn_ne eσ2 (Or.inr (by decide))).trans a8, a9, fun p hp => ?_⟩
      rw [va_up_ne _ _ (by omega)]
      exact a10 p hp
    · skip
      have h8 := bI_f h8
      exact absurd (h8.symm.trans (rfl)) (by decide)
theorem c_wish {G : qx_G} {σ : qx_S} {T : q_T} {p : Nat} {D : qS} (h : cT σ T p) (hd : dR σ 9 D) (g : gD D) : qx_M G qc_T 2 YX1_readWish [.ref 9, .ref 4] σ (fun r s' => rQ σ s' T (match q_nf1 T p (nI 0) (D 1 - nI 1) with
    | some f => .error f
    | none => match q_nf1 T (q_nx T p) (nI 0) (D 0 - nI 1) with
      | some f => .error f
      | none => q_cell T (q_nx T (q_nx T p)) (nI 1) (nI 99) (60 + 8 * q_nu T p + q_nu T (q_nx T p)) D) r) := by
  have b0 := g.1.2
  have b1 := g.2.1.2
  have mn := c_readNumber (G := G) h (nI 0) (D 1 - nI 1)
  cases e : q_nf1 T p (nI 0) (D 1 - nI 1) with
  | some f =>
    rw [e] at mn
    refine qx_M_in rfl (Nat.le_of_ble_eq_true rfl) ?_
    refine qy_wp_ok (c := CX1_readWish) (cuts := []) vX1_readWish wX1_readWish 2000 0 _ _ _ ?_
    refine Exists.intro (nI 0) (And.intro rfl ?_)
    refine And.intro rfl (Exists.intro 5 (Exists.intro (D 1) (And.intro rfl (And.intro hd.2.1 ?_))))
    refine Exists.intro (nI 1) (And.intro rfl ?_)
    refine Exists.intro ((D 1) - (nI 1)) (And.intro rfl ?_)
    refine And.intro rfl (Exists.intro _ (And.intro (by decide) (qx_M_mono (mn) ?_)))
    rintro _ σ1 ⟨fσ1, rfl, gσ1⟩
    refine And.intro (fun h12 => ?_) (fun h12 => ?_)
    · skip
      have h12 := bI_t h12
      exact absurd (h12.symm.trans (rfl)) (by decide)
    · skip
      have h12 := bI_f h12
      refine Exists.intro (nI 0) (And.intro rfl ?_)
      refine And.intro (Or.inl rfl) ?_
      exact ⟨fσ1.mn (by decide), rfl, gσ1⟩
  | none =>
    rw [e] at mn
    have v1 : q_nu T p < s_n D 1 := q_nf1_lt (by omega) (g.2.1.1 ▸ e)
    have mn2 : ∀ σ1, cT σ1 T (q_nx T p) → _ := fun σ1 z => c_readNumber (G := G) z (nI 0) (D 0 - nI 1)
    dsimp only
    cases e' : q_nf1 T (q_nx T p) (nI 0) (D 0 - nI 1) with
    | some f =>
      rw [e'] at mn2
      refine qx_M_in rfl (Nat.le_of_ble_eq_true rfl) ?_
      refine qy_wp_ok (c := CX1_readWish) (cuts := []) vX1_readWish wX1_readWish 2000 0 _ _ _ ?_
      refine Exists.intro (nI 0) (And.intro rfl ?_)
      refine And.intro rfl (Exists.intro 5 (Exists.intro (D 1) (And.intro rfl (And.intro hd.2.1 ?_))))
      refine Exists.intro (nI 1) (And.intro rfl ?_)
      refine Exists.intro ((D 1) - (nI 1)) (And.intro rfl ?_)
      refine And.intro rfl (Exists.intro _ (And.intro (by decide) (qx_M_mono (mn) ?_)))
      rintro _ σ1 ⟨fσ1, rfl, aσ1, gσ1⟩
      refine And.intro (fun h12 => ?_) (fun h12 => ?_)
      · skip
        have h12 := bI_t h12
        refine And.intro rfl (Exists.intro 8 (Exists.intro (nI (q_nu T p)) (And.intro rfl (And.intro gσ1 ?_))))
        refine Exists.intro (nI 0) (And.intro rfl ?_)
        refine And.intro rfl (Exists.intro 4 (Exists.intro (D 0) (And.intro rfl (And.intro ((fσ1.i _ _ rfl).trans (hd.1)) ?_))))
        refine Exists.intro (nI 1) (And.intro rfl ?_)
        refine Exists.intro ((D 0) - (nI 1)) (And.intro rfl ?_)
        refine And.intro rfl (Exists.intro _ (And.intro (by decide) (qx_M_mono (mn2 _ aσ1) ?_)))
        rintro _ σ2 ⟨fσ2, rfl, gσ2⟩
        refine And.intro (fun h34 => ?_) (fun h34 => ?_)
        · skip
          have h34 := bI_t h34
          exact absurd (h34.symm.trans (rfl)) (by decide)
        · skip
          have h34 := bI_f h34
          refine Exists.intro (nI 0) (And.intro rfl ?_)
          refine And.intro (Or.inl rfl) ?_
          exact ⟨(fσ1.mn (by decide)).tr (fσ2.mn (by decide)), rfl, gσ2⟩
      · skip
        have h12 := bI_f h12
        exact absurd (h12.symm.trans (rfl)) (by decide)
    | none =>
      rw [e'] at mn2
      have v2 : q_nu T (q_nx T p) < s_n D 0 := q_nf1_lt (by omega) (g.1.1 ▸ e')
      have mn3 : ∀ σ1, cT σ1 T (q_nx T (q_nx T p)) → _ := fun σ1 z => c_readNumber (G := G) z (nI 1) (nI 99)
      dsimp only
      unfold q_cell
      cases e3 : q_nf1 T (q_nx T (q_nx T p)) (nI 1) (nI 99) with
      | some f =>
        rw [e3] at mn3
        refine qx_M_in rfl (Nat.le_of_ble_eq_true rfl) ?_
        refine qy_wp_ok (c := CX1_readWish) (cuts := []) vX1_readWish wX1_readWish 2000 0 _ _ _ ?_
        refine Exists.intro (nI 0) (And.intro rfl ?_)
        refine And.intro rfl (Exists.intro 5 (Exists.intro (D 1) (And.intro rfl (And.intro hd.2.1 ?_))))
        refine Exists.intro (nI 1) (And.intro rfl ?_)
        refine Exists.intro ((D 1) - (nI 1)) (And.intro rfl ?_)
        refine And.intro rfl (Exists.intro _ (And.intro (by decide) (qx_M_mono (mn) ?_)))
        rintro _ σ1 ⟨fσ1, rfl, aσ1, gσ1⟩
        refine And.intro (fun h12 => ?_) (fun h12 => ?_)
        · skip
          have h12 := bI_t h12
          refine And.intro rfl (Exists.intro 8 (Exists.intro (nI (q_nu T p)) (And.intro rfl (And.intro gσ1 ?_))))
          refine Exists.intro (nI 0) (And.intro rfl ?_)
          refine And.intro rfl (Exists.intro 4 (Exists.intro (D 0) (And.intro rfl (And.intro ((fσ1.i _ _ rfl).trans (hd.1)) ?_))))
          refine Exists.intro (nI 1) (And.intro rfl ?_)
          refine Exists.intro ((D 0) - (nI 1)) (And.intro rfl ?_)
          refine And.intro rfl (Exists.intro _ (And.intro (by decide) (qx_M_mono (mn2 _ aσ1) ?_)))
          rintro _ σ2 ⟨fσ2, rfl, aσ2, gσ2⟩
          refine And.intro (fun h34 => ?_) (fun h34 => ?_)
          · skip
            have h34 := bI_t h34
            refine And.intro rfl (Exists.intro 8 (Exists.intro (nI (q_nu T (q_nx T p))) (And.intro rfl (And.intro gσ2 ?_))))
            refine Exists.intro (nI 1) (And.intro rfl ?_)
            refine Exists.intro (nI 99) (And.intro rfl ?_)
            refine And.intro rfl (Exists.intro _ (And.intro (by decide) (qx_M_mono (mn3 _ aσ2) ?_)))
            rintro _ σ3 ⟨fσ3, rfl, gσ3⟩
            refine And.intro (fun h52 => ?_) (fun h52 => ?_)
            · skip
              have h52 := bI_t h52
              exact absurd (h52.symm.trans (rfl)) (by decide)
            · skip
              have h52 := bI_f h52
              refine Exists.intro (nI 0) (And.intro rfl ?_)
              refine And.intro (Or.inl rfl) ?_
              exact ⟨(fσ1.mn (by decide)).tr ((fσ2.mn (by decide)).tr (fσ3.mn (by decide))), rfl, gσ3⟩
          · skip
            have h34 := bI_f h34
            exact absurd (h34.symm.trans (rfl)) (by decide)
        · skip
          have h12 := bI_f h12
          exact absurd (h12.symm.trans (rfl)) (by decide)
      | none =>
        rw [e3] at mn3
        have ek : 3 ≤ 60 + 8 * q_nu T p + q_nu T (q_nx T p) := by omega
        have n1 : s_n (va_up D (60 + 8 * q_nu T p + q_nu T (q_nx T p)) (nI (q_nu T (q_nx T (q_nx T p))))) 1 = s_n D 1 := sn_ne (by omega)
        have n2 : s_n (va_up D (60 + 8 * q_nu T p + q_nu T (q_nx T p)) (nI (q_nu T (q_nx T (q_nx T p))))) 2 = s_n D 2 := sn_ne (by omega)
        have b2 := g.2.2.2
        refine qx_M_in rfl (Nat.le_of_ble_eq_true rfl) ?_
        refine qy_wp_ok (c := CX1_readWish) (cuts := []) vX1_readWish wX1_readWish 2000 0 _ _ _ ?_
        refine Exists.intro (nI 0) (And.intro rfl ?_)
        refine And.intro rfl (Exists.intro 5 (Exists.intro (D 1) (And.intro rfl (And.intro hd.2.1 ?_))))
        refine Exists.intro (nI 1) (And.intro rfl ?_)
        refine Exists.intro ((D 1) - (nI 1)) (And.intro rfl ?_)
        refine And.intro rfl (Exists.intro _ (And.intro (by decide) (qx_M_mono (mn) ?_)))
        rintro _ σ1 ⟨fσ1, rfl, aσ1, gσ1⟩
        refine And.intro (fun h12 => ?_) (fun h12 => ?_)
        · skip
          have h12 := bI_t h12
          refine And.intro rfl (Exists.intro 8 (Exists.intro (nI (q_nu T p)) (And.intro rfl (And.intro gσ1 ?_))))
          refine Exists.intro (nI 0) (And.intro rfl ?_)
          refine And.intro rfl (Exists.intro 4 (Exists.intro (D 0) (And.intro rfl (And.intro ((fσ1.i _ _ rfl).trans (hd.1)) ?_))))
          refine Exists.intro (nI 1) (And.intro rfl ?_)
          refine Exists.intro ((D 0) - (nI 1)) (And.intro rfl ?_)
          refine And.intro rfl (Exists.intro _ (And.intro (by decide) (qx_M_mono (mn2 _ aσ1) ?_)))
          rintro _ σ2 ⟨fσ2, rfl, aσ2, gσ2⟩
          refine And.intro (fun h34 => ?_) (fun h34 => ?_)
          · skip
            have h34 := bI_t h34
            refine And.intro rfl (Exists.intro 8 (Exists.intro (nI (q_nu T (q_nx T p))) (And.intro rfl (And.intro gσ2 ?_))))
            refine Exists.intro (nI 1) (And.intro rfl ?_)
            refine Exists.intro (nI 99) (And.intro rfl ?_)
            refine And.intro rfl (Exists.intro _ (And.intro (by decide) (qx_M_mono (mn3 _ aσ2) ?_)))
            rintro _ σ3 ⟨fσ3, rfl, aσ3, gσ3⟩
            refine And.intro (fun h52 => ?_) (fun h52 => ?_)
            · skip
              have h52 := bI_t h52
              refine And.intro rfl (Exists.intro 12 (And.intro rfl ?_))
              refine Exists.intro (nI 8) (And.intro rfl ?_)
              refine Exists.intro (nI ((q_nu T p) * 8)) (And.intro (pk_mul _ _) ?_)
              refine Exists.intro (nI (8 * q_nu T p + q_nu T (q_nx T p))) (And.intro ((nI_add _ _).trans (congrArg nI (by omega))) ?_)
              refine And.intro rfl (Exists.intro 8 (Exists.intro (nI (q_nu T (q_nx T (q_nx T p)))) (And.intro rfl (And.intro gσ3 ?_))))
              obtain ⟨σ4, eσ4⟩ : ∃ zs, zs = (qx_wi σ3 12 (8 * q_nu T p + q_nu T (q_nx T p)) (nI (q_nu T (q_nx T (q_nx T p))))) := ⟨_, rfl⟩
              have fσ4 := qn_wi eσ4
              refine Exists.intro (8 * q_nu T p + q_nu T (q_nx T p)) (Exists.intro σ4 (And.intro rfl (And.intro ⟨80, rfl, by omega, by decide⟩ (And.intro eσ4.symm ?_))))
              refine Exists.intro (nI 1) (And.intro rfl ?_)
              refine And.intro (Or.inr rfl) ?_
              obtain ⟨a1, a2, a3, a4, a5, a6, a7, bn, a8, a9, a10⟩ := ((hd.fr fσ1 (by decide)).fr fσ2 (by decide)).fr fσ3 (by decide)
              refine ⟨(fσ1.mn (by decide)).tr ((fσ2.mn (by decide)).tr ((fσ3.mn (by decide)).tr (fσ4.mn (by decide)))), rfl, aσ3.fr fσ4 (by simp), ?_⟩
              unfold dR
              dsimp only
              rw [n1, n2]
              refine ⟨(fσ4.i _ _ rfl).trans (a1.trans (va_up_ne _ _ (by omega)).symm), (fσ4.i _ _ rfl).trans (a2.trans (va_up_ne _ _ (by omega)).symm), (fσ4.i _ _ rfl).trans (a3.trans (va_up_ne _ _ (by omega)).symm), fun p hp => ⟨(fσ4.i 10 _ rfl).trans ((a4 p hp).1.trans (va_up_ne _ _ (by omega)).symm), (fσ4.i 11 _ rfl).trans ((a4 p hp).2.trans (va_up_ne _ _ (by omega)).symm)⟩, fun p1 hp1 q1 hq1 => ?_, fun k h1 h2 => (qn_ne eσ4 (Or.inr (by omega))).trans (a6 k h1 h2), fun q hq => (fσ4.i 13 _ rfl).trans ((a7 q hq).trans (congrArg nI (q_ca_cg _ (fun c _ => va_up_ne _ _ (by omega))).symm)), bn, (fσ4.i _ _ rfl).trans a8, a9, fun p hp => ?_⟩
              · by_cases z : 8 * p1 + q1 = 8 * q_nu T p + q_nu T (q_nx T p)
                · rw [show 60 + 8 * p1 + q1 = 60 + 8 * q_nu T p + q_nu T (q_nx T p) by omega, va_up_self]
                  show qx_mi _ 12 (8 * p1 + q1) = _
                  rw [z]
                  exact qn_eq eσ4
                · rw [va_up_ne _ _ (by omega)]
                  exact (qn_ne eσ4 (Or.inr z)).trans (a5 p1 hp1 q1 hq1)
              · rw [va_up_ne _ _ (by omega)]
                exact a10 p hp
            · skip
              have h52 := bI_f h52
              exact absurd (h52.symm.trans (rfl)) (by decide)
          · skip
            have h34 := bI_f h34
            exact absurd (h34.symm.trans (rfl)) (by decide)
        · skip
          have h12 := bI_f h12
          exact absurd (h12.symm.trans (rfl)) (by decide)
theorem c_benchC {G : qx_G} {σ : qx_S} {T : q_T} {p : Nat} {D : qS} (h : cT σ T p) (hd : dR σ 9 D) (g : gD D) : qx_M G qc_T 2 YX1_readBench [.ref 9, .ref 4] σ (fun r s' => rQ σ s' T (match q_nf1 T p (nI 0) (D 1 - nI 1) with
    | some f => .error f
    | none => .ok (q_nx T p, va_up D (10 + 5 * q_nu T p + 3) (nI 1))) r) := by
  have b1 := g.2.1.2
  have b2 := g.2.2.2
  have mn := c_readNumber (G := G) h (nI 0) (D 1 - nI 1)
  cases e : q_nf1 T p (nI 0) (D 1 - nI 1) with
  | some f =>
    rw [e] at mn
    refine qx_M_in rfl (Nat.le_of_ble_eq_true rfl) ?_
    refine qy_wp_ok (c := CX1_readBench) (cuts := []) vX1_readBench wX1_readBench 2000 0 _ _ _ ?_
    refine Exists.intro (nI 0) (And.intro rfl ?_)
    refine And.intro rfl (Exists.intro 5 (Exists.intro (D 1) (And.intro rfl (And.intro hd.2.1 ?_))))
    refine Exists.intro (nI 1) (And.intro rfl ?_)
    refine Exists.intro ((D 1) - (nI 1)) (And.intro rfl ?_)
    refine And.intro rfl (Exists.intro _ (And.intro (by decide) (qx_M_mono (mn) ?_)))
    rintro _ σ1 ⟨fσ1, rfl, gσ1⟩
    refine And.intro (fun h12 => ?_) (fun h12 => ?_)
    · skip
      have h12 := bI_t h12
      exact absurd (h12.symm.trans (rfl)) (by decide)
    · skip
      have h12 := bI_f h12
      refine Exists.intro (nI 0) (And.intro rfl ?_)
      refine And.intro (Or.inl rfl) ?_
      exact ⟨fσ1.mn (by decide), rfl, gσ1⟩
  | none =>
    rw [e] at mn
    have v1 : q_nu T p < s_n D 1 := q_nf1_lt (by omega) (g.2.1.1 ▸ e)
    obtain ⟨a1, a2, a3, a4, a5, a6, a7, bn, a8, a9, a10⟩ := hd
    have n1 : s_n (va_up D (10 + 5 * q_nu T p + 3) (nI 1)) 1 = s_n D 1 := sn_ne (by omega)
    have n2 : s_n (va_up D (10 + 5 * q_nu T p + 3) (nI 1)) 2 = s_n D 2 := sn_ne (by omega)
    have hbn : bn ||| 2 ^ q_nu T p < 2 ^ s_n D 1 := Nat.or_lt_two_pow a9 (Nat.pow_lt_pow_right (by decide) v1)
    refine qx_M_in rfl (Nat.le_of_ble_eq_true rfl) ?_
    refine qy_wp_ok (c := CX1_readBench) (cuts := []) vX1_readBench wX1_readBench 2000 0 _ _ _ ?_
    refine Exists.intro (nI 0) (And.intro rfl ?_)
    refine And.intro rfl (Exists.intro 5 (Exists.intro (D 1) (And.intro rfl (And.intro a2 ?_))))
    refine Exists.intro (nI 1) (And.intro rfl ?_)
    refine Exists.intro ((D 1) - (nI 1)) (And.intro rfl ?_)
    refine And.intro rfl (Exists.intro _ (And.intro (by decide) (qx_M_mono (mn) ?_)))
    rintro _ σ1 ⟨fσ1, rfl, cσ1, gσ1⟩
    refine And.intro (fun h12 => ?_) (fun h12 => ?_)
    · skip
      have h12 := bI_t h12
      refine And.intro rfl (Exists.intro 7 (Exists.intro (nI bn) (And.intro rfl (And.intro ((fσ1.i _ _ rfl).trans a8) ?_))))
      refine Exists.intro (nI 1) (And.intro rfl ?_)
      refine And.intro rfl (Exists.intro 8 (Exists.intro (nI (q_nu T p)) (And.intro rfl (And.intro gσ1 ?_))))
      refine Exists.intro (nI (2 ^ (q_nu T p))) (And.intro (nI_sh1 (by omega)) ?_)
      refine Exists.intro (nI (bn ||| (2 ^ (q_nu T p)))) (And.intro (nI_or _ _) ?_)
      obtain ⟨σ2, eσ2⟩ : ∃ zs, zs = (qx_wi σ1 9 7 (nI (bn ||| (2 ^ (q_nu T p))))) := ⟨_, rfl⟩
      have fσ2 := qn_wif eσ2
      refine And.intro rfl (Exists.intro 7 (Exists.intro σ2 (And.intro rfl (And.intro eσ2.symm ?_))))
      refine Exists.intro (nI 1) (And.intro rfl ?_)
      refine And.intro (Or.inr rfl) ?_
      refine ⟨(fσ1.mn (by decide)).tr (fσ2.mn (by decide)), rfl, cσ1.fr fσ2 (by simp), ?_⟩
      unfold dR
      dsimp only
      rw [n1, n2]
      refine ⟨(fσ2.i _ _ rfl).trans ((fσ1.i _ _ rfl).trans (a1.trans (va_up_ne _ _ (by omega)).symm)), (fσ2.i _ _ rfl).trans ((fσ1.i _ _ rfl).trans (a2.trans (va_up_ne _ _ (by omega)).symm)), (fσ2.i _ _ rfl).trans ((fσ1.i _ _ rfl).trans (a3.trans (va_up_ne _ _ (by omega)).symm)), fun p hp => ⟨(fσ2.i 10 _ rfl).trans ((fσ1.i 10 _ rfl).trans ((a4 p hp).1.trans (va_up_ne _ _ (by omega)).symm)), (fσ2.i 11 _ rfl).trans ((fσ1.i 11 _ rfl).trans ((a4 p hp).2.trans (va_up_ne _ _ (by omega)).symm))⟩, fun p hp q hq => (fσ2.i 12 _ rfl).trans ((fσ1.i 12 _ rfl).trans ((a5 p hp q hq).trans (va_up_ne _ _ (by omega)).symm)), fun k h1 h2 => (fσ2.i 12 _ rfl).trans ((fσ1.i 12 _ rfl).trans (a6 k h1 h2)), fun q hq => (fσ2.i 13 _ rfl).trans ((fσ1.i 13 _ rfl).trans ((a7 q hq).trans (congrArg nI (q_ca_cg _ (fun c _ => va_up_ne _ _ (by omega))).symm))), bn ||| 2 ^ q_nu T p, qn_eq eσ2, hbn, fun p1 hp1 => ?_⟩
      rw [Nat.testBit_or, Nat.testBit_two_pow]
      by_cases z : p1 = q_nu T p
      · rw [z, va_up_self]
        simp
      · rw [va_up_ne _ _ (by omega), show decide (q_nu T p = p1) = false from decide_eq_false (fun w => z w.symm), Bool.or_false]
        exact a10 p1 hp1
    · skip
      have h12 := bI_f h12
      exact absurd (h12.symm.trans (rfl)) (by decide)

