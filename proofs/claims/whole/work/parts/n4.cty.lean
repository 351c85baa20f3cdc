/-! back, country -/
theorem po_eq {σ s : qx_S} (h1 : s.1 = σ.1) (h2 : s.2.1 = σ.2.1) (h3 : s.2.2.2.2.2 = σ.2.2.2.2.2) : po s = po σ ∧ pcl s = pcl σ := by
  unfold po pcl
  rw [qq_cg h3, qq_cg h3, qq_cg h3, qq_cg h3, qq_cg h3, qq_cg h3, h1, h2]
  exact ⟨rfl, rfl⟩
theorem z_back {G : qx_G} {n : Nat} {σ : qx_S} (h : zZ n σ) (hn : n ≤ 900) (x : Int32) : zO G YX11_back YX12_back [.int x] n σ := by
  obtain ⟨S, nr, Rs, T, J, e, ow, k⟩ := h.k
  have he := k.2.2.2.2.1
  cases hx : q_in64 x.toInt64 (lN 0) (lN 3) with
  | false => exact zPair0 h (by decide) (by decide) (c_back_no hx) (m_back_no hx)
  | true =>
    obtain ⟨t, -, ht, rfl⟩ := q_in_t (by decide) (by decide) hx
    have ht : t < 4 := by omega
    cases hJ : J t with
    | none => exact zPair0 h (by decide) (by decide) (c_back_no2 ht ((k.1.2.2.2.2.2.2.1 t ht).1 hJ)) (m_back_no2 ht ((k.2.1.2.2.2.2.2 t ht).1 hJ))
    | some I =>
      obtain ⟨gI, b, b1, b2, b3, b4, b5⟩ := (k.1.2.2.2.2.2.2.1 t ht).2 I hJ
      have gx := k.2.2.2.1 t I ht hJ
      refine k.up (S' := I) (T' := T) (v := I 6) (dr := 1) gx (by decide) (by decide) (qx_M_mono (c_back_ok k.I (by omega) k.1.2.2.2.1.1 ht b1 b3 b2.1 b4 gI gx.2.2.2.2.2.2.2) (fun r s z => ?_)) (fun s hM hX => ?_)
      · obtain ⟨z1, ⟨s1, v, f, z2⟩, z3⟩ := z
        have f0 : qk (fun x j => kT9 15 x j || pL [(156, some 8)] x j) (fun a j => decide (a = 156 ∧ j = 7)) σ s1 := (qf.k f).mono (fun a j w => (Bool.or_eq_false_iff.mp w).1) (fun _ _ _ => rfl)
        have f1 : qk (fun x j => kT9 15 x j || pL [(156, some 8)] x j) (fun a j => decide (a = 156 ∧ j = 7)) σ s := qk.wi (qk.wr f0 rfl rfl) z2 rfl
        obtain ⟨p1, p2⟩ := po_f z2
        obtain ⟨p3, p4⟩ := po_eq f.1 f.2.1 f.2.2.2.1
        have no : ∀ x j, (x < 15 ∨ 156 < x) → (kT9 15 x j || pL [(156, some 8)] x j) = false := fun x j h => by
          rw [kT9_no (by omega), show pL [(156, some 8)] x j = false from pL_ne (by simp; omega)]
          rfl
        exact ⟨z1, ⟨_, _, f1, ⟨no _ _ (by omega), fun x j h _ => no x j (by omega)⟩, ⟨no _ _ (by omega), fun _ => no _ _ (by omega), fun x j h => no x j (by omega), fun x j h => no x j (by omega)⟩, kR_f⟩, by omega, by omega, k.1.2.2.2.2.2.1.k k.I.2.2.2.2.2.2.2.2 f1 (no _ _ (by omega)) (fun _ => no _ _ (by omega)), z3⟩
      · obtain ⟨m1, m2⟩ := (hM.2.2.2.2.2 t ht).2 I hJ
        refine qx_M_mono (m_back_ok hM.1 ht m1 m2) (fun r s' z => ⟨z.1, hM.w z.2.1 (z.2.2.trans ?_)⟩)
        funext j
        by_cases w : j < 2788
        · exact if_pos w
        · exact (if_neg w).trans ((k.2.2.1.2.1.2.2 j (by omega)).trans (gx.2.1.2.2 j (by omega)).symm)
theorem zPairX {G : qx_G} {n dc dr e e' : Nat} {σ : qx_S} {Yc Yr : qx_Y} {a : List Value} {v : Int32} {S S' : qS} {nr nr' : Nat} {Rs Rs' : Nat → qR} {T T' : q_T} {J J' : Nat → Option qS} (X : qx_S → Prop) (hb : e' ≤ e + 1) (he : e ≤ n + 1) (hg : gX S' nr') (hj : ∀ k I, k < 4 → J' k = some I → gX I nr') (hp : po σ ≤ 64000 + 3200 * n) (hq : pcl σ ≤ 260 + 140 * n) (h1 : dc < 40) (h2 : dr < 40)
    (hc : qx_M G qc_T dc Yc (.ref 3 :: a) σ (fun r s => r = some (.int v) ∧ (∃ ow', zC s S' nr' Rs' T' J' e' ow') ∧ (zM s S nr Rs T J ∧ X s) ∧ po s ≤ po σ + 3200 ∧ pcl s ≤ pcl σ + 140))
    (hr : ∀ s, zM s S nr Rs T J → X s → qx_M G qc_T dr Yr (.ref 197 :: a) s (fun r s' => r = some (.int v) ∧ (∃ l, ql l s s' ∧ kRf l = true) ∧ zM s' S' nr' Rs' T' J')) : zO G Yc Yr a n σ := by
  refine qx_M_d (qx_M_mono hc (fun r s h => ?_)) h1
  obtain ⟨h3, ⟨ow', h4⟩, ⟨h5, hx⟩, h6, h7⟩ := h
  refine ⟨v, h3, qx_M_d (qx_M_mono (hr s h5 hx) (fun r' s' k => ?_)) h2⟩
  obtain ⟨k1, ⟨l, k2, k3⟩, k4⟩ := k
  have k5 := qf.rm k2
  exact ⟨k1, S', nr', Rs', T', J', e', ow', h4.m k2 (fun a j z => kRf.no k3 z), k4, hg, hj, by omega, by omega, by omega⟩
/-- what the reference keeps besides its row and its tape -/
theorem zM.wt {l : List (Nat × Option Nat)} {σ s : qx_S} {S S' : qS} {nr : Nat} {Rs : Nat → qR} {T T' : q_T} {J : Nat → Option qS} (h : zM σ S nr Rs T J) (f : ql l σ s) (hl : ∀ x j, x = 199 ∨ x = 201 ∨ x = 202 ∨ x = 227 ∨ x = 228 ∨ (x = 197 ∧ (j = 2 ∨ j = 21)) → pL l x j = false) (h7 : qx_mi s 207 = S') (hT : tR s T') : zM s S' nr Rs T' J :=
  ⟨h7, (f.i _ _ (hl _ _ (by omega))).trans h.2.1, (f.i _ _ (hl _ _ (by omega))).trans h.2.2.1, fun t ht => (h.2.2.2.1 t ht).fr f (fun _ => hl _ _ (by omega)) (fun _ => hl _ _ (by omega)) (fun _ => hl _ _ (by omega)), hT, fun k hk => ⟨fun z => (f.i _ _ (hl _ _ (by omega))).trans ((h.2.2.2.2.2 k hk).1 z), fun I z => ⟨(f.i _ _ (hl _ _ (by omega))).trans ((h.2.2.2.2.2 k hk).2 I z).1, fun j hj => (f.i _ _ (hl _ _ (by omega))).trans (((h.2.2.2.2.2 k hk).2 I z).2 j hj)⟩⟩⟩
theorem zC.u {P R : Nat → Nat → Bool} {n : Nat} {σ s : qx_S} {S S' : qS} {nr : Nat} {Rs : Nat → qR} {T T' : q_T} {J : Nat → Option qS} {e : Nat} {ow : Nat → Nat} (k : zK n σ S nr Rs T J e ow) (f : qk P R σ s) (p : kP1 P σ.1) (hk : kWk P) (hR : kR0 R) (z5 : tC s T') (z6 : cI s S' (q_rf nr Rs (S' 7)) (e + 1)) : (∃ ow', zC s S' nr Rs T' J (e + 1) ow') ∧ zM s S nr Rs T J := by
  obtain ⟨⟨c1, c2, c3, c4, c5, c6, c7, c8⟩, hM, -⟩ := k
  have h9 := c1.1.2.2.2.2.2.2.2.2
  exact ⟨⟨ow, ⟨z6, (c1.2.1.k h9 f hk.1 hk.2.1).up, (c1.2.2.1.k h9 f hk.2.2.1).up, (c1.2.2.2.1.k (by omega) h9 f (fun j => hk.2.2.2 _ j (by omega)) (fun j => hk.2.2.2 _ j (by omega))).up, (c1.2.2.2.2.k (by omega) h9 f (fun j => hk.2.2.2 _ j (by omega)) (fun j => hk.2.2.2 _ j (by omega))).up⟩, (c2.k h9 f (fun _ _ => rfl) hR.1 (fun x j a b _ => p.2 x j a b)).up, (c3.k h9 f (fun _ _ => rfl) hR.2.1 (fun x j a b _ => p.2 x j a b)).up, c4.k h9 f (fun _ _ => rfl) p.1 (fun i _ => hR.2.2.2.1 i) (fun x j a b _ _ => p.2 x j a b), c5.k h9 f (fun _ _ => rfl) hR.2.2.1, z5, c7.k h9 f (fun _ _ => rfl) hR.2.2.2.2.1 hR.2.2.2.2.2 (fun x j a b _ => p.2 x j a b), c8⟩, hM.k h9 f (fun a j q1 q2 => p.2 a j (by omega) (by omega))⟩
theorem zC.kt {P R : Nat → Nat → Bool} {n : Nat} {σ s : qx_S} {S : qS} {nr : Nat} {Rs : Nat → qR} {T T' : q_T} {J : Nat → Option qS} {e : Nat} {ow : Nat → Nat} (k : zK n σ S nr Rs T J e ow) (f : qk P R σ s) (p : kP1 P σ.1) (hk : kWk P) (hR : kR0 R) (z5 : tC s T') (z6 : cI s S (q_rf nr Rs (S 7)) e) : (∃ ow', zC s S nr Rs T' J e ow') ∧ zM s S nr Rs T J := by
  obtain ⟨⟨c1, c2, c3, c4, c5, c6, c7, c8⟩, hM, -⟩ := k
  have h9 := c1.1.2.2.2.2.2.2.2.2
  exact ⟨⟨ow, c1.k f hk z6, c2.k h9 f (fun _ _ => rfl) hR.1 (fun x j a b _ => p.2 x j a b), c3.k h9 f (fun _ _ => rfl) hR.2.1 (fun x j a b _ => p.2 x j a b), c4.k h9 f (fun _ _ => rfl) p.1 (fun i _ => hR.2.2.2.1 i) (fun x j a b _ _ => p.2 x j a b), c5.k h9 f (fun _ _ => rfl) hR.2.2.1, z5, c7.k h9 f (fun _ _ => rfl) hR.2.2.2.2.1 hR.2.2.2.2.2 (fun x j a b _ => p.2 x j a b), c8⟩, hM.k h9 f (fun a j q1 q2 => p.2 a j (by omega) (by omega))⟩
theorem gX.nc {S E : qS} {nr : Nat} (h : gX S nr) (g : gC E) : gX (q_nc2 S E) nr := by
  have h10 := g.1.2.1.2
  have h8 := g.1.2.2.2
  have ld := q_nc2_ld S E
  have n0 : s_n (q_nc2 S E) 0 = s_n E 0 := s_n_cg (ld 0 (by omega))
  have n1 : s_n (q_nc2 S E) 1 = s_n E 1 := s_n_cg (ld 1 (by omega))
  have n2 : s_n (q_nc2 S E) 2 = s_n E 2 := s_n_cg (ld 2 (by omega))
  have n9 : s_n (q_nc2 S E) 9 = 0 := by
    unfold s_n
    rw [q_nc2_0 S E (by omega)]
    rfl
  refine ⟨fun a b ha hb h0 => ?_, ⟨fun u hu => by omega, fun p hp => ?_, fun j hj => ?_⟩, ⟨?_, by rw [n2]; exact h8, fun c hc => ?_⟩, fun p hp => ?_, fun p hp => ?_, ?_, ⟨1, by omega, q_nc2_3 S E⟩, ?_⟩
  · rw [n1] at ha hb
    rw [q_nc2_0 S E (by omega)] at h0
    exact absurd h0 (by decide)
  · rw [n1] at hp
    obtain ⟨-, ⟨w, w1, w2, w3⟩, -⟩ := g.2.1 p hp
    exact ⟨w, w2, (q_nc2_10 S E (by omega) (by omega)).trans w3⟩
  · refine Eq.trans ?_ (h.2.1.2.2 j hj)
    unfold q_nc2 q_fr3
    rw [va_up_ne _ _ (by omega), va_up_ne _ _ (by omega), va_up_ne _ _ (by omega), if_neg (by omega), if_neg (by omega), if_neg (by omega), if_neg (by omega)]
  · rw [n2, ld 2 (by omega)]
    exact g.1.2.2.1
  · rw [n2] at hc
    have z := q_nc2_10 S E (i := 140 + c) (by omega) (by omega)
    obtain ⟨v, v1, v2⟩ := g.2.2.1 c hc
    have h08 := g.1.1.2
    have zz : s_n E (140 + c) = v := by unfold s_n; rw [v2]; exact nI_clamp (by omega)
    rw [s_n_cg z, z, n0, zz]
    exact ⟨v2, v1⟩
  · rw [n1] at hp
    obtain ⟨⟨v, v1, v2, v3⟩, -⟩ := g.2.1 p hp
    have h08 := g.1.1.2
    have z := q_nc2_10 S E (i := 10 + 5 * p + 2) (by omega) (by omega)
    have zz : s_n E (10 + 5 * p + 2) = v := by unfold s_n; rw [v3]; exact nI_clamp (by omega)
    rw [s_n_cg z, z, n0, zz]
    exact ⟨v3, v1⟩
  · rw [n1] at hp
    exact Or.inl (q_nc2_F S E (by omega) (by omega))
  · rw [q_nc2_8]
    exact h.2.2.2.2.2.1
  · rw [q_nc2_7]
    exact h.2.2.2.2.2.2.2
theorem z_country {G : qx_G} (hG : kStr G) {n : Nat} {σ : qx_S} (h : zZ n σ) (hn : n ≤ 900) : zO G YX11_country YX12_country [] n σ := by
  obtain ⟨S, nr, Rs, T, J, e, ow, k⟩ := h.k
  have he := k.2.2.2.2.1
  have h9 := k.I.2.2.2.2.2.2.2.2
  have hT := k.1.2.2.2.2.2.1
  obtain ⟨D, hD⟩ : ∃ D, qx_mi σ 203 = D := ⟨_, rfl⟩
  have ref : ∀ {l : List (Nat × Option Nat)} {s s' : qx_S} {S'' : qS}, zM s S nr Rs T J → l = lCy → ql l s s' → tR s' (0, T.2) → qx_mi s' 207 = S'' → (∃ l, ql l s s' ∧ kRf l = true) ∧ zM s' S'' nr Rs (0, T.2) J := fun hM e f hT h7 => by
    subst e
    exact ⟨⟨lCy, f, rfl⟩, hM.wt f (fun x j hx => by
      rcases hx with z | z | z | z | z | ⟨z, z2⟩
      · rw [z]; rfl
      · rw [z]; rfl
      · rw [z]; rfl
      · rw [z]; rfl
      · rw [z]; rfl
      · rcases z2 with z2 | z2 <;> (rw [z, z2]; rfl)) h7 hT⟩
  cases hq : q_cty T D with
  | error f =>
    refine zPairX (v := -2 - nI f) (dr := 7) (S := S) (nr := nr) (Rs := Rs) (T := T) (J := J) (S' := S) (nr' := nr) (Rs' := Rs) (T' := (0, T.2)) (J' := J) (e' := e) (fun s => qx_mi s 203 = D) (by omega) he k.2.2.1 k.2.2.2.1 k.2.2.2.2.2.1 k.2.2.2.2.2.2 (by decide) (by decide) (qx_M_mono (c_country_no hG hT hq) (fun r s z => ?_)) (fun s hM hX => qx_M_mono (m_country hM.2.2.2.2.1 hM.1 hX) (fun r s' z => ?_))
    · have f := z.2.1
      have r := qf.rm f
      have no : ∀ x j, 14 ≤ x → pL kE4 x j = false := fun x j hx => pL_ne (by simp; omega)
      obtain ⟨y1, y2⟩ := zC.kt k (qf.k f) ⟨rfl, fun x j hx _ => no x j (by omega)⟩ ⟨rfl, fun _ => rfl, fun x j h => no x j (by omega), fun x j h => no x j (by omega)⟩ ⟨rfl, rfl, rfl, fun _ => rfl, fun _ => rfl, fun _ _ _ => rfl⟩ z.2.2 (k.I.fr f rfl rfl)
      exact ⟨z.1, y1, ⟨y2, (f.row _ (fun _ => rfl)).trans hD⟩, by omega, by omega⟩
    · rw [hq] at z
      obtain ⟨z1, z2, z3, z4⟩ := z
      exact ⟨z3, ref hM rfl z1 z2 z4⟩
  | ok E =>
    obtain ⟨gc, -⟩ := q_cty_gC hq
    have e7 : q_nc2 S E 7 = S 7 := q_nc2_7 S E
    have c1 := c_countryI hG k.I (by omega) hT hq
    rw [← e7] at c1
    refine zPairX (v := E 1) (dr := 7) (S := S) (nr := nr) (Rs := Rs) (T := T) (J := J) (S' := q_nc2 S E) (nr' := nr) (Rs' := Rs) (T' := (0, T.2)) (J' := J) (e' := e + 1) (fun s => qx_mi s 203 = D) (by omega) he (k.2.2.1.nc gc) k.2.2.2.1 k.2.2.2.2.2.1 k.2.2.2.2.2.2 (by decide) (by decide) (qx_M_mono c1 (fun r s z => ?_)) (fun s hM hX => qx_M_mono (m_country hM.2.2.2.2.1 hM.1 hX) (fun r s' z => ?_))
    · obtain ⟨z1, ⟨s1, v, f, z2⟩, z3, z4⟩ := z
      have f0 : qk (pL ((156, some 8) :: kE5)) (fun a j => decide (a = 156 ∧ j = 7)) σ s1 := (qf.k f).mono (fun a j w => (Bool.or_eq_false_iff.mp w).2) (fun _ _ _ => rfl)
      have f1 : qk (pL ((156, some 8) :: kE5)) (fun a j => decide (a = 156 ∧ j = 7)) σ s := qk.wi (qk.wr f0 rfl rfl) z2 rfl
      obtain ⟨p1, p2⟩ := po_f z2
      have r := qf.rm f
      have no : ∀ x j, 31 ≤ x → x ≠ 156 → pL ((156, some 8) :: kE5) x j = false := fun x j hx hy => pL_ne (by simp; omega)
      obtain ⟨y1, y2⟩ := zC.u k f1 ⟨rfl, fun x j hx _ => no x j (by omega) (by omega)⟩ ⟨rfl, fun _ => rfl, fun x j h => no x j (by omega) (by omega), fun x j h => no x j (by omega) (by omega)⟩ kR_f z3 z4
      exact ⟨z1, y1, ⟨y2, (funext fun j => f1.lo h9 (by omega) (no 203 j (by omega) (by omega)) : qx_mi s 203 = qx_mi σ 203).trans hD⟩, by omega, by omega⟩
    · rw [hq] at z
      obtain ⟨z1, z2, z3, z4⟩ := z
      exact ⟨z3, ref hM rfl z1 z2 z4⟩
