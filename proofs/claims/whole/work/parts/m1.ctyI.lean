/-! THE CLASS: a new country, with the invariant -/
theorem q_coc_g {T : q_T} : ∀ (m p ln : Nat) (D E : qS), gC D → q_coc T m p D ln = .ok E → gC E ∧ 0 < s_n E 0
  | 0, p, ln, D, E, _, h => by cases h
  | m + 1, p, ln, D, E, g, h => by
    cases h1 : q_k1 T p D ln with
    | error f => rw [q_coc_er h1] at h; cases h
    | ok y =>
      obtain ⟨g1, -, g3, -⟩ := q_k1_g g h1
      rw [q_coc_ok h1] at h
      unfold q_crr at h
      split at h
      · exact q_coc_g m _ _ _ _ g1 h
      · split at h
        · cases h
          exact ⟨g1, g3⟩
        · cases h
theorem q_cty_gC {T : q_T} {D E : qS} (h : q_cty T D = .ok E) : gC E ∧ 0 < s_n E 0 := q_coc_g _ _ _ _ _ (q_z3_g D) h
/-- the cells of the state that begins -/
theorem q_nc2_ld (S E : qS) : eLd E (q_nc2 S E) := by
  intro i hi
  unfold q_nc2 q_fr3
  rw [va_up_ne _ _ (by omega), va_up_ne _ _ (by omega), va_up_ne _ _ (by omega)]
  rw [if_neg (by omega)]
  by_cases z : i < 3
  · rw [if_neg (by omega), if_pos (by omega)]
  · rw [if_pos (by omega)]
theorem q_nc2_10 (S E : qS) {i : Nat} (h1 : 10 ≤ i) (h2 : i < 148) : q_nc2 S E i = E i := by
  unfold q_nc2 q_fr3
  rw [va_up_ne _ _ (by omega), va_up_ne _ _ (by omega), va_up_ne _ _ (by omega), if_neg (by omega), if_pos (by omega)]
theorem q_nc2_0 (S E : qS) {i : Nat} (h : i = 4 ∨ i = 5 ∨ i = 6 ∨ i = 9 ∨ (148 ≤ i ∧ i < 338) ∨ (348 ≤ i ∧ i < 2788)) : q_nc2 S E i = nI 0 := by
  unfold q_nc2 q_fr3
  rw [va_up_ne _ _ (by omega), va_up_ne _ _ (by omega), va_up_ne _ _ (by omega), if_neg (by omega), if_neg (by omega), if_neg (by omega), if_pos (by omega)]
theorem q_nc2_F (S E : qS) {i : Nat} (h1 : 338 ≤ i) (h2 : i < 348) : q_nc2 S E i = -1 := by
  unfold q_nc2 q_fr3
  rw [va_up_ne _ _ (by omega), va_up_ne _ _ (by omega), va_up_ne _ _ (by omega), if_pos (by omega)]
theorem q_nc2_3 (S E : qS) : q_nc2 S E 3 = nI 1 := by
  unfold q_nc2
  rw [va_up_ne _ _ (by omega), va_up_ne _ _ (by omega), va_up_self]
theorem q_nc2_7 (S E : qS) : q_nc2 S E 7 = S 7 := by
  unfold q_nc2
  rw [va_up_ne _ _ (by omega), va_up_self]
theorem q_nc2_8 (S E : qS) : q_nc2 S E 8 = S 8 := va_up_self _ _ _
theorem nI00 : nI 0 = (0 : Int32) := rfl
theorem q_nc2_s {S E : qS} {i : Nat} (h : q_nc2 S E i = E i) : s_n (q_nc2 S E) i = s_n E i := s_n_cg h
theorem q_nc2_g {S E : qS} (g : gC E) : gT (q_nc2 S E) := by
  have ld := q_nc2_ld S E
  obtain ⟨⟨g0, g1, g2⟩, gp, gc, -, -⟩ := g
  have n0 : s_n (q_nc2 S E) 0 = s_n E 0 := s_n_cg (ld 0 (by omega))
  have n1 : s_n (q_nc2 S E) 1 = s_n E 1 := s_n_cg (ld 1 (by omega))
  have n2 : s_n (q_nc2 S E) 2 = s_n E 2 := s_n_cg (ld 2 (by omega))
  have e10 : ∀ i, 10 ≤ i → i < 148 → q_nc2 S E i = E i := fun i h1 h2 => q_nc2_10 S E h1 h2
  have z : ∀ {i : Nat}, i = 4 ∨ i = 5 ∨ i = 6 ∨ i = 9 ∨ (148 ≤ i ∧ i < 338) ∨ (348 ≤ i ∧ i < 2788) → q_nc2 S E i = nI 0 := fun h => q_nc2_0 S E h
  have zn : ∀ {i : Nat}, i = 4 ∨ i = 5 ∨ i = 6 ∨ i = 9 ∨ (148 ≤ i ∧ i < 338) ∨ (348 ≤ i ∧ i < 2788) → s_n (q_nc2 S E) i = 0 := fun h => by unfold s_n; rw [z h]; rfl
  have gd : gD (q_nc2 S E) := ⟨⟨by rw [n0, ld 0 (by omega)]; exact g0.1, by rw [n0]; exact g0.2⟩, ⟨by rw [n1, ld 1 (by omega)]; exact g1.1, by rw [n1]; exact g1.2⟩, ⟨by rw [n2, ld 2 (by omega)]; exact g2.1, by rw [n2]; exact g2.2⟩⟩
  have gs : gS (q_nc2 S E) := ⟨gd.1, gd.2.1, fun p hp => by
    rw [n1] at hp
    have hpe := g1.2
    obtain ⟨⟨v, v1, v2, v3⟩, -⟩ := gp p hp
    have e := e10 (10 + 5 * p) (by omega) (by omega)
    have es : s_n (q_nc2 S E) (10 + 5 * p) = v := by unfold s_n; rw [e, v2]; exact nI_clamp (by have := g0.2; omega)
    rw [es, n0]
    exact ⟨e.trans v2, v1⟩⟩
  refine gT.mk ⟨gd, gs, fun p hp => ?_⟩ (fun p k hp hk _ => ?_) ⟨?_, ?_, fun k hk => ?_⟩ ⟨?_, ?_, fun b hb => ?_⟩ ⟨⟨?_, ?_⟩, fun u hu => ?_⟩
  · rw [n1] at hp
    have hpe := g1.2
    obtain ⟨-, -, b3, -, b5⟩ := gp p hp
    exact ⟨fun q hq => by rw [e10 _ (by omega) (by omega)]; exact b5 q hq, by rw [e10 _ (by omega) (by omega)]; exact b3⟩
  · rw [show 10 + 10 * p + k = 10 + (10 * p + k) by omega, q_nw_ow _ (by omega), z (by omega)]
    rfl
  · rw [zn (by omega)]; exact z (by omega)
  · rw [zn (by omega)]; omega
  · rw [zn (by omega)] at hk; omega
  · rw [zn (by omega)]; exact z (by omega)
  · rw [zn (by omega)]; omega
  · rw [zn (by omega)] at hb; omega
  · rw [zn (by omega)]; exact z (by omega)
  · rw [zn (by omega)]; omega
  · rw [zn (by omega)] at hu; omega
theorem q_sum_0 {f : Nat → Int32} : ∀ n, (∀ k, k < n → f k = 0) → q_sum f n = 0
  | 0, _ => rfl
  | n + 1, h => by
    show q_sum f n + f n = 0
    rw [q_sum_0 n (fun k hk => h k (by omega)), h n (by omega)]
    rfl
/-- the state of the class that begins -/
theorem nwC.st {σ s : qx_S} {S E : qS} (g : gC E) (h : nwC s E) (hc : cSt σ 15 S) (f : ql kE5 σ s) : cSt s 15 (q_nc2 S E) := by
  obtain ⟨h1, h2, ⟨h3, h4, h5, h6⟩, h7, h8, h9, h10⟩ := h
  have hpe := g.1.2.1.2
  have n1 : s_n (q_nc2 S E) 1 = s_n E 1 := s_n_cg (q_nc2_ld S E 1 (by omega))
  have z : ∀ {i : Nat}, i = 4 ∨ i = 5 ∨ i = 6 ∨ i = 9 ∨ (148 ≤ i ∧ i < 338) ∨ (348 ≤ i ∧ i < 2788) → q_nc2 S E i = nI 0 := fun h => q_nc2_0 S E h
  have zn : ∀ {i : Nat}, i = 4 ∨ i = 5 ∨ i = 6 ∨ i = 9 ∨ (148 ≤ i ∧ i < 338) ∨ (348 ≤ i ∧ i < 2788) → s_n (q_nc2 S E) i = 0 := fun h => by unfold s_n; rw [z h]; rfl
  obtain ⟨-, -, ⟨pf, p1, p2, -⟩, -, -, -, -, -, a9, a10⟩ := hc
  refine ⟨h1.tr g.1 (fun _ _ _ => rfl) (q_nc2_ld S E), ⟨h3.trans (q_nc2_3 S E).symm, h4.trans (z (i := 6) (by omega)).symm, fun p hp => ?_, fun k hk => ?_, fun p hp => ?_⟩, ⟨pf, p1, (f.i _ _ rfl).trans p2, fun i hi => ?_⟩, ⟨h7.trans (z (by omega)).symm, fun j hj => ?_⟩, fun i hi => ?_, fun p hp => ?_, h9.trans (z (by omega)).symm, h8.trans (z (by omega)).symm, ((f.i _ _ rfl).trans a9).trans (q_nc2_7 S E).symm, ((f.i _ _ rfl).trans a10).trans (q_nc2_8 S E).symm⟩
  · rw [n1] at hp
    obtain ⟨⟨v, v1, v2, v3⟩, -, -, d4, -⟩ := g.2.1 p hp
    refine ⟨?_, ?_⟩
    · rw [q_nw_at _ (by omega), q_nc2_10 S E (by omega) (by omega), v2]
      exact (h2 p hp).trans v3
    · rw [q_nw_mv _ (by omega), q_nc2_10 S E (by omega) (by omega), d4]
      exact (h5 p (by omega)).1
  · rw [q_nw_ow _ hk, z (by omega)]
    exact h6 k hk
  · rw [q_sum_0 10 (fun k hk => by rw [show 10 + 10 * p + k = 10 + (10 * p + k) by omega, q_nw_ow _ (by omega), z (by omega)]; rfl)]
    exact (h5 p hp).2
  · rw [zn (by omega)] at hi; omega
  · rw [z (by omega)] at hj
    exact absurd hj (by show ¬ j < 0; omega)
  · rw [zn (by omega)] at hi; omega
  · rw [n1] at hp
    rw [q_nc2_F S E (by omega) (by omega)]
    exact h10 p (by omega)
theorem c_countryI {G : qx_G} (hG : kStr G) {σ : qx_S} {S D E : qS} {rf : Option qR} {e : Nat} {T : q_T} (hI : cI σ S rf e) (he : e + 1 ≤ 1000) (hT : tC σ T) (eq : q_cty T D = .ok E) : qx_M G qc_T 12 YX11_country [.ref 3] σ (fun r s => r = some (.int (E 1)) ∧ (∃ s1 v, ql kE5 σ s1 ∧ s = qx_wi (qx_wr s1 156 7 v) 156 8 (nI (e + 1))) ∧ tC s (0, T.2) ∧ cI s (q_nc2 S E) rf (e + 1)) := by
  obtain ⟨g, g0⟩ := q_cty_gC eq
  have hin := hI.2.2.2.2.2.1
  refine qx_M_mono (c_country_ok hG hT g.1 eq hI.K.1 hin) (fun r s' h => ?_)
  obtain ⟨h1, s, f, ht, hw, es⟩ := h
  have hv : inF s (qx_mr σ 156 7) := hin.fr f rfl rfl
  have hr : cRv s (qx_mr σ 156 7) rf := by
    have hR := hI.2.2.2.2.1
    cases rf with
    | none => exact hR
    | some R =>
      obtain ⟨x, x1, x2, x3, x4, x5⟩ := hR
      exact ⟨x, x1, by rw [f.1]; exact x2, x3.fr f, x4.lo (fun z hz _ j => f.i _ _ (kLow_ne (l := kE5) rfl (by omega))), x5⟩
  refine ⟨h1, ⟨s, _, f, es⟩, ?_, ?_⟩
  · refine ⟨?_, ht.2.1, fun k hk => absurd hk (by show ¬ k < 0; omega)⟩
    rw [es]
    exact ht.1
  · exact cI.nw (q_nc2_g g) (hw.st g hI.2.1 f) (hI.2.2.1.fr f) ((f.r _ _).trans hI.2.2.2.1) (hI.K.fr f (fun _ => rfl) rfl rfl) (hI.T.fr f rfl) (by rw [f.1]; exact hI.2.2.2.2.2.2.2.2) hv hr es he

