/-! TEXTS: a country that is read is sound -/
theorem sn_ne {D : qS} {k i : Nat} {x : Int32} (h : i ≠ k) : s_n (va_up D k x) i = s_n D i := by
  unfold s_n
  rw [va_up_ne _ _ h]
theorem sn_eq {D : qS} {k n : Nat} (h : n < 2147483648) : s_n (va_up D k (nI n)) k = n := by
  unfold s_n
  rw [va_up_self]
  exact nI_clamp h
/-- one person's cells -/
def gPe (D : qS) (pl p : Nat) : Prop := (∃ v, v < pl ∧ D (10 + 5 * p) = nI v ∧ D (10 + 5 * p + 2) = nI v) ∧ (∃ w, 1 ≤ w ∧ w ≤ 99 ∧ D (10 + 5 * p + 1) = nI w) ∧ (D (10 + 5 * p + 3) = nI 0 ∨ D (10 + 5 * p + 3) = nI 1) ∧ D (10 + 5 * p + 4) = nI 0 ∧ ∀ q, q < 8 → ∃ v, v ≤ 99 ∧ D (60 + 8 * p + q) = nI v
def gC (D : qS) : Prop := gD D ∧ (∀ p, p < s_n D 1 → gPe D (s_n D 0) p) ∧ (∀ c, c < s_n D 2 → ∃ v, v < s_n D 0 ∧ D (140 + c) = nI v) ∧ (s_n D 0 = 0 → s_n D 1 = 0 ∧ s_n D 2 = 0) ∧ (s_n D 0 ≠ 0 → 2 ≤ s_n D 0)
theorem gPe.ne {D : qS} {pl p k : Nat} {x : Int32} (h : gPe D pl p) (h1 : k < 10 + 5 * p ∨ 10 + 5 * p + 4 < k) (h2 : k < 60 + 8 * p ∨ 60 + 8 * p + 7 < k) : gPe (va_up D k x) pl p := by
  obtain ⟨⟨v, a1, a2, a3⟩, ⟨w, b1, b2, b3⟩, c, d, e⟩ := h
  refine ⟨⟨v, a1, by rw [va_up_ne _ _ (by omega)]; exact a2, by rw [va_up_ne _ _ (by omega)]; exact a3⟩, ⟨w, b1, b2, by rw [va_up_ne _ _ (by omega)]; exact b3⟩, by rw [va_up_ne _ _ (by omega)]; exact c, by rw [va_up_ne _ _ (by omega)]; exact d, fun q hq => ?_⟩
  obtain ⟨u, u1, u2⟩ := e q hq
  exact ⟨u, u1, by rw [va_up_ne _ _ (by omega)]; exact u2⟩
/-- where reading stands then -/
def q_on (T : q_T) (p p' : Nat) : Prop := p < p' ∧ p' ≤ T.1 ∧ q_sk T p' = p'
theorem q_on.tr {T : q_T} {a b c : Nat} (h : q_on T a b) (k : q_on T b c) : q_on T a c := ⟨Nat.lt_trans h.1 k.1, k.2⟩
theorem q_on.nx {T : q_T} {p : Nat} (h : p < T.1) : q_on T p (q_nx T p) := ⟨(q_nx_gt h).1, (q_nx_gt h).2, q_nx_sk (Nat.le_of_lt h)⟩
theorem q_c12_g {T : q_T} {p : Nat} {D : qS} {y : Nat × qS} (hp : p < T.1) (g : gC D) (h : q_c12 T p D = .ok y) : gC y.2 ∧ q_on T p y.1 ∧ 0 < s_n y.2 0 := by
  unfold q_c12 at h
  split at h
  · cases h
  · next z =>
    obtain ⟨e, ey⟩ := q_cell_ok h
    have b := q_nf1_b e
    have hv := q_nu_lt T (q_nx T p)
    have v1 := (nI_leI (by decide) (by omega)).mp b.1
    have v2 := (nI_leI (by omega) (by decide)).mp b.2.1
    obtain ⟨⟨g0, g1, g2⟩, gp, gc, gz, -⟩ := g
    obtain ⟨z1, z2⟩ := gz (by omega)
    rw [ey]
    dsimp only
    have n0 : s_n (va_up D 0 (nI (q_nu T (q_nx T p)))) 0 = q_nu T (q_nx T p) := sn_eq (by omega)
    have n1 : s_n (va_up D 0 (nI (q_nu T (q_nx T p)))) 1 = s_n D 1 := sn_ne (by decide)
    have n2 : s_n (va_up D 0 (nI (q_nu T (q_nx T p)))) 2 = s_n D 2 := sn_ne (by decide)
    refine ⟨⟨⟨⟨?_, ?_⟩, ⟨?_, ?_⟩, ⟨?_, ?_⟩⟩, ?_, ?_, ?_, ?_⟩, (q_on.nx hp).tr (q_on.nx b.2.2), ?_⟩
    · show va_up D 0 _ 0 = nI (s_n (va_up D 0 _) 0); rw [n0, va_up_self]
    · show s_n (va_up D 0 _) 0 ≤ 8; rw [n0]; exact v2
    · show va_up D 0 _ 1 = nI (s_n (va_up D 0 _) 1); rw [n1, va_up_ne _ _ (by decide)]; exact g1.1
    · show s_n (va_up D 0 _) 1 ≤ 10; rw [n1]; exact g1.2
    · show va_up D 0 _ 2 = nI (s_n (va_up D 0 _) 2); rw [n2, va_up_ne _ _ (by decide)]; exact g2.1
    · show s_n (va_up D 0 _) 2 ≤ 8; rw [n2]; exact g2.2
    · intro q hq
      have hq : q < s_n (va_up D 0 (nI (q_nu T (q_nx T p)))) 1 := hq
      omega
    · intro c hc
      have hc : c < s_n (va_up D 0 (nI (q_nu T (q_nx T p)))) 2 := hc
      omega
    · intro y0
      have y0 : s_n (va_up D 0 (nI (q_nu T (q_nx T p)))) 0 = 0 := y0
      omega
    · intro _
      show 2 ≤ s_n (va_up D 0 (nI (q_nu T (q_nx T p)))) 0
      omega
    · show 0 < s_n (va_up D 0 (nI (q_nu T (q_nx T p)))) 0
      omega
/-- a change that leaves the counts -/
theorem gD.ne {D : qS} {k : Nat} {x : Int32} (g : gD D) (hk : 3 ≤ k) : gD (va_up D k x) := by
  obtain ⟨g0, g1, g2⟩ := g
  rw [gD, sn_ne (by omega), sn_ne (by omega), sn_ne (by omega), va_up_ne _ _ (by omega), va_up_ne _ _ (by omega), va_up_ne _ _ (by omega)]
  exact ⟨g0, g1, g2⟩
theorem gC.k0 {D D' : qS} (g : gC D) (e0 : s_n D' 0 = s_n D 0) (e1 : s_n D' 1 = s_n D 1) (e2 : s_n D' 2 = s_n D 2) (gd : gD D') (hp : ∀ p, p < s_n D 1 → gPe D' (s_n D 0) p) (hc : ∀ c, c < s_n D 2 → D' (140 + c) = D (140 + c)) : gC D' := by
  obtain ⟨-, -, g3, g4, g5⟩ := g
  refine ⟨gd, ?_, ?_, ?_, ?_⟩
  · rw [e0, e1]; exact hp
  · rw [e0, e2]
    intro c hc2
    rw [hc c hc2]
    exact g3 c hc2
  · rw [e0, e1, e2]; exact g4
  · rw [e0]; exact g5
theorem q_c05_g {T : q_T} {p : Nat} {D : qS} {y : Nat × qS} (hp : p < T.1) (g : gC D) (h : q_c05 T p D = .ok y) : gC y.2 ∧ q_on T p y.1 ∧ s_n y.2 0 = s_n D 0 := by
  unfold q_c05 at h
  have g1 := g.1
  cases e : q_nf1 T (q_nx T p) (nI 0) (D 1 - nI 1) with
  | some f => rw [e] at h; cases h
  | none =>
    rw [e] at h
    dsimp only at h
    cases e' : q_nf1 T (q_nx T (q_nx T p)) (nI 0) (D 0 - nI 1) with
    | some f => rw [e'] at h; cases h
    | none =>
      rw [e'] at h
      obtain ⟨e3, ey⟩ := q_cell_ok h
      have b1 := g1.2.1.2
      have b0 := g1.1.2
      have v1 : q_nu T (q_nx T p) < s_n D 1 := q_nf1_lt (by omega) (g1.2.1.1 ▸ e)
      have v2 : q_nu T (q_nx T (q_nx T p)) < s_n D 0 := q_nf1_lt (by omega) (g1.1.1 ▸ e')
      have c1 := q_nf1_b e
      have c2 := q_nf1_b e'
      have c3 := q_nf1_b e3
      have hv := q_nu_lt T (q_nx T (q_nx T (q_nx T p)))
      have v3 := (nI_leI (by omega) (by decide)).mp c3.2.1
      rw [ey]
      dsimp only
      have ek : 3 ≤ 60 + 8 * q_nu T (q_nx T p) + q_nu T (q_nx T (q_nx T p)) := by omega
      refine ⟨g.k0 (sn_ne (by omega)) (sn_ne (by omega)) (sn_ne (by omega)) (g1.ne ek) (fun q hq => ?_) (fun c hc => va_up_ne _ _ (by omega)), (((q_on.nx hp).tr (q_on.nx c1.2.2)).tr (q_on.nx c2.2.2)).tr (q_on.nx c3.2.2), sn_ne (by omega)⟩
      have gq := g.2.1 q hq
      by_cases z : q = q_nu T (q_nx T p)
      · obtain ⟨⟨v, a1, a2, a3⟩, ⟨w, d1, d2, d3⟩, f1, f2, f3⟩ := gq
        refine ⟨⟨v, a1, by rw [va_up_ne _ _ (by omega)]; exact a2, by rw [va_up_ne _ _ (by omega)]; exact a3⟩, ⟨w, d1, d2, by rw [va_up_ne _ _ (by omega)]; exact d3⟩, by rw [va_up_ne _ _ (by omega)]; exact f1, by rw [va_up_ne _ _ (by omega)]; exact f2, fun r hr => ?_⟩
        by_cases z2 : r = q_nu T (q_nx T (q_nx T p))
        · refine ⟨q_nu T (q_nx T (q_nx T (q_nx T p))), v3, ?_⟩
          rw [z, z2]
          exact va_up_self _ _ _
        · obtain ⟨u, u1, u2⟩ := f3 r hr
          exact ⟨u, u1, by rw [va_up_ne _ _ (by omega)]; exact u2⟩
      · exact gq.ne (by omega) (by omega)
theorem q_c13_g {T : q_T} {p : Nat} {D : qS} {y : Nat × qS} (hp : p < T.1) (g : gC D) (h : q_c13 T p D = .ok y) : gC y.2 ∧ q_on T p y.1 ∧ s_n y.2 0 = s_n D 0 := by
  unfold q_c13 at h
  have g1 := g.1
  cases e : q_nf1 T (q_nx T p) (nI 0) (D 1 - nI 1) with
  | some f => rw [e] at h; cases h
  | none =>
    rw [e] at h
    have ey := (Except.ok.inj h).symm
    have b1 := g1.2.1.2
    have v1 : q_nu T (q_nx T p) < s_n D 1 := q_nf1_lt (by omega) (g1.2.1.1 ▸ e)
    have c1 := q_nf1_b e
    rw [ey]
    dsimp only
    refine ⟨g.k0 (sn_ne (by omega)) (sn_ne (by omega)) (sn_ne (by omega)) (g1.ne (by omega)) (fun q hq => ?_) (fun c hc => va_up_ne _ _ (by omega)), (q_on.nx hp).tr (q_on.nx c1.2.2), sn_ne (by omega)⟩
    have gq := g.2.1 q hq
    by_cases z : q = q_nu T (q_nx T p)
    · obtain ⟨⟨v, a1, a2, a3⟩, ⟨w, d1, d2, d3⟩, f1, f2, f3⟩ := gq
      refine ⟨⟨v, a1, by rw [va_up_ne _ _ (by omega)]; exact a2, by rw [va_up_ne _ _ (by omega)]; exact a3⟩, ⟨w, d1, d2, by rw [va_up_ne _ _ (by omega)]; exact d3⟩, Or.inr (by rw [z]; exact va_up_self _ _ _), by rw [va_up_ne _ _ (by omega)]; exact f2, fun r hr => ?_⟩
      obtain ⟨u, u1, u2⟩ := f3 r hr
      exact ⟨u, u1, by rw [va_up_ne _ _ (by omega)]; exact u2⟩
    · exact gq.ne (by omega) (by omega)
theorem q_c14_g {T : q_T} {p : Nat} {D : qS} {y : Nat × qS} (hp : p < T.1) (g : gC D) (h : q_c14 T p D = .ok y) : gC y.2 ∧ q_on T p y.1 ∧ s_n y.2 0 = s_n D 0 := by
  unfold q_c14 at h
  have g1 := g.1
  split at h
  · cases h
  · next z =>
    cases e : q_cell T (q_nx T p) (nI 0) (D 0 - nI 1) (140 + s_n D 2) D with
    | error f => rw [e] at h; cases h
    | ok w =>
      rw [e] at h
      obtain ⟨e3, ew⟩ := q_cell_ok e
      have ey := (Except.ok.inj h).symm
      have b0 := g1.1.2
      have b1 := g1.2.1.2
      have b2 := g1.2.2.2
      have v1 : q_nu T (q_nx T p) < s_n D 0 := q_nf1_lt (by omega) (g1.1.1 ▸ e3)
      have c1 := q_nf1_b e3
      rw [ey, ew]
      have k0 : s_n (va_up (va_up D (140 + s_n D 2) (nI (q_nu T (q_nx T p)))) 2 (nI (s_n D 2 + 1))) 0 = s_n D 0 := (sn_ne (by decide)).trans (sn_ne (by omega))
      have k1 : s_n (va_up (va_up D (140 + s_n D 2) (nI (q_nu T (q_nx T p)))) 2 (nI (s_n D 2 + 1))) 1 = s_n D 1 := (sn_ne (by decide)).trans (sn_ne (by omega))
      have k2 : s_n (va_up (va_up D (140 + s_n D 2) (nI (q_nu T (q_nx T p)))) 2 (nI (s_n D 2 + 1))) 2 = s_n D 2 + 1 := sn_eq (by omega)
      refine ⟨⟨⟨⟨?_, ?_⟩, ⟨?_, ?_⟩, ⟨?_, ?_⟩⟩, ?_, ?_, ?_, ?_⟩, (q_on.nx hp).tr (q_on.nx c1.2.2), k0⟩
      · dsimp only; rw [k0, va_up_ne _ _ (by decide), va_up_ne _ _ (by omega)]; exact g1.1.1
      · dsimp only; rw [k0]; exact b0
      · dsimp only; rw [k1, va_up_ne _ _ (by decide), va_up_ne _ _ (by omega)]; exact g1.2.1.1
      · dsimp only; rw [k1]; exact b1
      · dsimp only; rw [k2, va_up_self]
      · dsimp only; rw [k2]; omega
      · dsimp only
        rw [k0, k1]
        intro q hq
        exact ((g.2.1 q hq).ne (by omega) (by omega)).ne (by omega) (by omega)
      · dsimp only
        rw [k0, k2]
        intro c hc
        by_cases y : c = s_n D 2
        · refine ⟨q_nu T (q_nx T p), v1, ?_⟩
          rw [y, va_up_ne _ _ (by omega), va_up_self]
        · obtain ⟨u, u1, u2⟩ := g.2.2.1 c (by omega)
          exact ⟨u, u1, by rw [va_up_ne _ _ (by omega), va_up_ne _ _ (by omega)]; exact u2⟩
      · dsimp only
        rw [k0, k1, k2]
        intro y0
        omega
      · dsimp only
        rw [k0]
        exact g.2.2.2.2
theorem q_wz_ne (D : qS) (pe : Nat) : ∀ n i, i < 60 + 8 * pe ∨ 60 + 8 * pe + n ≤ i → q_wz D pe n i = D i
  | 0, _, _ => rfl
  | n + 1, i, h => by
    show va_up (q_wz D pe n) (60 + 8 * pe + n) (nI 0) i = D i
    rw [va_up_ne _ _ (by omega)]
    exact q_wz_ne D pe n i (by omega)
theorem q_wz_eq (D : qS) (pe : Nat) : ∀ n q, q < n → q_wz D pe n (60 + 8 * pe + q) = nI 0
  | 0, _, h => by omega
  | n + 1, q, h => by
    show va_up (q_wz D pe n) (60 + 8 * pe + n) (nI 0) (60 + 8 * pe + q) = nI 0
    by_cases z : q = n
    · rw [z]; exact va_up_self _ _ _
    · rw [va_up_ne _ _ (by omega)]
      exact q_wz_eq D pe n q (by omega)
theorem q_c00_g {T : q_T} {p : Nat} {D : qS} {y : Nat × qS} (hp : p < T.1) (g : gC D) (h : q_c00 T p D = .ok y) : gC y.2 ∧ q_on T p y.1 ∧ s_n y.2 0 = s_n D 0 := by
  unfold q_c00 at h
  have g1 := g.1
  split at h
  · cases h
  · next z =>
    cases e : q_cell T (q_nx T p) (nI 0) (D 0 - nI 1) (10 + 5 * s_n D 1) D with
    | error f => rw [e] at h; cases h
    | ok w =>
      rw [e] at h
      dsimp only at h
      cases e2 : q_cell T w.1 (nI 1) (nI 99) (10 + 5 * s_n D 1 + 1) w.2 with
      | error f => rw [e2] at h; cases h
      | ok u =>
        rw [e2] at h
        obtain ⟨e3, ew⟩ := q_cell_ok e
        obtain ⟨e4, eu⟩ := q_cell_ok e2
        have ey := (Except.ok.inj h).symm
        have b0 := g1.1.2
        have b1 := g1.2.1.2
        have b2 := g1.2.2.2
        have v1 : q_nu T (q_nx T p) < s_n D 0 := q_nf1_lt (by omega) (g1.1.1 ▸ e3)
        have c1 := q_nf1_b e3
        have c2 := q_nf1_b e4
        have hv := q_nu_lt T w.1
        have v3 := (nI_leI (by omega) (by decide)).mp c2.2.1
        have v4 := (nI_leI (by decide) (by omega)).mp c2.1
        have w1 : w.1 = q_nx T (q_nx T p) := congrArg Prod.fst ew
        have w2 : w.2 = va_up D (10 + 5 * s_n D 1) (nI (q_nu T (q_nx T p))) := congrArg Prod.snd ew
        have u1 : u.1 = q_nx T w.1 := congrArg Prod.fst eu
        have u2 : u.2 = va_up w.2 (10 + 5 * s_n D 1 + 1) (nI (q_nu T w.1)) := congrArg Prod.snd eu
        have hD : ∀ i, i ≠ 1 → (i < 10 + 5 * s_n D 1 ∨ 10 + 5 * s_n D 1 + 4 < i) → (i < 60 + 8 * s_n D 1 ∨ 60 + 8 * s_n D 1 + 8 ≤ i) → y.2 i = D i := by
          intro i i1 i2 i3
          rw [ey]
          show va_up _ 1 _ i = _
          rw [va_up_ne _ _ i1, q_wz_ne _ _ _ _ i3, va_up_ne _ _ (by omega), va_up_ne _ _ (by omega), va_up_ne _ _ (by omega), u2, va_up_ne _ _ (by omega), w2, va_up_ne _ _ (by omega)]
        have hk : ∀ j, j < 5 → y.2 (10 + 5 * s_n D 1 + j) = (va_up (va_up (va_up u.2 (10 + 5 * s_n D 1 + 2) (u.2 (10 + 5 * s_n D 1))) (10 + 5 * s_n D 1 + 3) (nI 0)) (10 + 5 * s_n D 1 + 4) (nI 0)) (10 + 5 * s_n D 1 + j) := by
          intro j hj
          rw [ey]
          show va_up _ 1 _ (10 + 5 * s_n D 1 + j) = _
          rw [va_up_ne _ _ (by omega), q_wz_ne _ _ _ _ (by omega)]
        have ua : u.2 (10 + 5 * s_n D 1) = nI (q_nu T (q_nx T p)) := by
          rw [u2, va_up_ne _ _ (by omega), w2, va_up_self]
        have ub : u.2 (10 + 5 * s_n D 1 + 1) = nI (q_nu T w.1) := by rw [u2, va_up_self]
        have y1 : y.2 1 = nI (s_n D 1 + 1) := by
          rw [ey]
          show q_np u.2 (s_n D 1) 1 = _
          unfold q_np
          exact va_up_self _ _ _
        have k0 : s_n y.2 0 = s_n D 0 := by unfold s_n; rw [hD 0 (by omega) (by omega) (by omega)]
        have k1 : s_n y.2 1 = s_n D 1 + 1 := by show (y.2 1).toNatClampNeg = s_n D 1 + 1; rw [y1]; exact nI_clamp (by omega)
        have k2 : s_n y.2 2 = s_n D 2 := by unfold s_n; rw [hD 2 (by omega) (by omega) (by omega)]
        have pos : q_on T p y.1 := by
          rw [ey]
          show q_on T p u.1
          rw [u1, w1]
          rw [w1] at c2
          exact ((q_on.nx hp).tr (q_on.nx c1.2.2)).tr (q_on.nx c2.2.2)
        refine ⟨⟨⟨⟨?_, ?_⟩, ⟨?_, ?_⟩, ⟨?_, ?_⟩⟩, ?_, ?_, ?_, ?_⟩, pos, k0⟩
        · rw [k0, hD 0 (by omega) (by omega) (by omega)]; exact g1.1.1
        · rw [k0]; exact b0
        · rw [k1]; exact y1
        · rw [k1]; omega
        · rw [k2, hD 2 (by omega) (by omega) (by omega)]; exact g1.2.2.1
        · rw [k2]; exact b2
        · rw [k0, k1]
          intro q hq
          by_cases zq : q = s_n D 1
          · rw [zq]
            refine ⟨⟨q_nu T (q_nx T p), v1, ?_, ?_⟩, ⟨q_nu T w.1, v4, v3, ?_⟩, Or.inl ?_, ?_, fun r hr => ⟨0, by omega, ?_⟩⟩
            · have := hk 0 (by omega)
              rw [Nat.add_zero] at this
              rw [this, va_up_ne _ _ (by omega), va_up_ne _ _ (by omega), va_up_ne _ _ (by omega), ua]
            · rw [hk 2 (by omega), va_up_ne _ _ (by omega), va_up_ne _ _ (by omega), va_up_self, ua]
            · rw [hk 1 (by omega), va_up_ne _ _ (by omega), va_up_ne _ _ (by omega), va_up_ne _ _ (by omega), ub]
            · rw [hk 3 (by omega), va_up_ne _ _ (by omega), va_up_self]
            · rw [hk 4 (by omega), va_up_self]
            · rw [ey]
              show va_up _ 1 _ (60 + 8 * s_n D 1 + r) = _
              rw [va_up_ne _ _ (by omega)]
              exact q_wz_eq _ _ 8 r hr
          · obtain ⟨⟨v, a1, a2, a3⟩, ⟨x, d1, d2, d3⟩, f1, f2, f3⟩ := g.2.1 q (by omega)
            refine ⟨⟨v, a1, by rw [hD _ (by omega) (by omega) (by omega)]; exact a2, by rw [hD _ (by omega) (by omega) (by omega)]; exact a3⟩, ⟨x, d1, d2, by rw [hD _ (by omega) (by omega) (by omega)]; exact d3⟩, by rw [hD _ (by omega) (by omega) (by omega)]; exact f1, by rw [hD _ (by omega) (by omega) (by omega)]; exact f2, fun r hr => ?_⟩
            obtain ⟨t, t1, t2⟩ := f3 r hr
            exact ⟨t, t1, by rw [hD _ (by omega) (by omega) (by omega)]; exact t2⟩
        · rw [k0, k2]
          intro c hc
          obtain ⟨t, t1, t2⟩ := g.2.2.1 c hc
          exact ⟨t, t1, by rw [hD _ (by omega) (by omega) (by omega)]; exact t2⟩
        · rw [k0, k1, k2]
          intro y0
          omega
        · rw [k0]
          exact g.2.2.2.2
theorem q_k1_g {T : q_T} {p ln : Nat} {D : qS} {y : Nat × qS} (g : gC D) (h : q_k1 T p D ln = .ok y) : gC y.2 ∧ q_on T p y.1 ∧ 0 < s_n y.2 0 ∧ ln ≠ 48 := by
  unfold q_k1 at h
  split at h
  · cases h
  · next hc =>
    split at h
    · cases h
    · next hl =>
      have hk : q_kd T p ≠ 999 := by
        intro z
        rw [z] at hc
        exact hc (by decide)
      have hp := q_kd_lt hk
      unfold q_ln at h
      split at h
      · obtain ⟨a, b, c⟩ := q_c12_g hp g h
        exact ⟨a, b, c, hl⟩
      · split at h
        · cases h
        · next z =>
          have fin : gC y.2 ∧ q_on T p y.1 ∧ s_n y.2 0 = s_n D 0 := by
            split at h
            · exact q_c00_g hp g h
            · split at h
              · exact q_c05_g hp g h
              · split at h
                · exact q_c13_g hp g h
                · exact q_c14_g hp g h
          exact ⟨fin.1, fin.2.1, by rw [fin.2.2]; omega, hl⟩
theorem q_cell_er {T : q_T} {p k f : Nat} {lo hi : Int32} {D : qS} (hp : p ≤ T.1) (h : q_cell T p lo hi k D = .error f) : eB T f := by
  unfold q_cell at h
  cases e : q_nf1 T p lo hi with
  | none => rw [e] at h; cases h
  | some z => rw [e] at h; rw [← Except.error.inj h]; exact q_nf1_er hp e
theorem q_k1_er {T : q_T} {p ln f : Nat} {D : qS} (hp : p ≤ T.1) (h : q_k1 T p D ln = .error f) : eB T f := by
  unfold q_k1 at h
  split at h
  · rw [← Except.error.inj h]; exact eB.mk hp (by decide)
  · next hc =>
    have hk : q_kd T p ≠ 999 := by
      intro z
      rw [z] at hc
      exact hc (by decide)
    have hlt := q_kd_lt hk
    have n1 := (q_nx_gt hlt).2
    split at h
    · rw [← Except.error.inj h]; exact eB.mk hp (by decide)
    · unfold q_ln at h
      split at h
      · unfold q_c12 at h
        split at h
        · rw [← Except.error.inj h]; exact eB.mk hp (by decide)
        · exact q_cell_er n1 h
      · split at h
        · rw [← Except.error.inj h]; exact eB.mk hp (by decide)
        · split at h
          · unfold q_c00 at h
            split at h
            · rw [← Except.error.inj h]; exact eB.mk hp (by decide)
            · split at h
              · next f1 e1 => rw [← Except.error.inj h]; exact q_cell_er n1 e1
              · next w e1 =>
                obtain ⟨e3, ew⟩ := q_cell_ok e1
                have w1 : w.1 ≤ T.1 := by rw [ew]; exact (q_nx_gt (q_nf1_b e3).2.2).2
                split at h
                · next f1 e2 => rw [← Except.error.inj h]; exact q_cell_er w1 e2
                · cases h
          · split at h
            · unfold q_c05 at h
              split at h
              · next f1 e1 => rw [← Except.error.inj h]; exact q_nf1_er n1 e1
              · next e1 =>
                have n2 := (q_nx_gt (q_nf1_b e1).2.2).2
                split at h
                · next f1 e2 => rw [← Except.error.inj h]; exact q_nf1_er n2 e2
                · next e2 => exact q_cell_er (q_nx_gt (q_nf1_b e2).2.2).2 h
            · split at h
              · unfold q_c13 at h
                split at h
                · next f1 e1 => rw [← Except.error.inj h]; exact q_nf1_er n1 e1
                · cases h
              · unfold q_c14 at h
                split at h
                · rw [← Except.error.inj h]; exact eB.mk hp (by decide)
                · split at h
                  · next f1 e1 => rw [← Except.error.inj h]; exact q_cell_er n1 e1
                  · cases h
