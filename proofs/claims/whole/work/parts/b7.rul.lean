/-! THE CLASS: a whole rule is read -/
def pC (a x j : Nat) : Bool := decide (a ≤ x ∧ x ≤ a + 5) || pL [(4, some 5), (4, some 6), (4, some 7), (6, none), (7, none), (8, none)] x j
abbrev fC (a : Nat) (σ σ' : qx_S) : Prop := qf (pC a) σ σ'
theorem fC.b {a : Nat} {σ σ' : qx_S} (f : fB a σ σ') : fC a σ σ' := by
  refine qf.mono f (fun x j hx => ?_)
  unfold pC at hx
  unfold pB
  rw [Bool.or_eq_false_iff] at hx ⊢
  have x1 := of_decide_eq_false hx.1
  exact ⟨decide_eq_false (by omega), pLs_ok (l := [(4, some 6), (4, some 7)]) (m := [(4, some 5), (4, some 6), (4, some 7), (6, none), (7, none), (8, none)]) (by decide) x j hx.2⟩
theorem fC.t {a : Nat} {σ σ' : qx_S} {l : List (Nat × Option Nat)} (f : ql l σ σ') (h : pLs l [(4, some 5), (4, some 6), (4, some 7), (6, none), (7, none), (8, none)] = true) : fC a σ σ' := by
  refine qf.mono f (fun x j hx => ?_)
  unfold pC at hx
  rw [Bool.or_eq_false_iff] at hx
  exact pLs_ok h x j hx.2
theorem fC.f {a k : Nat} {σ σ' : qx_S} (f : ql [(a, some k)] σ σ') : fC a σ σ' := by
  refine qf.mono f (fun x j hx => ?_)
  unfold pC at hx
  rw [Bool.or_eq_false_iff] at hx
  have x1 := of_decide_eq_false hx.1
  refine pL_ne (fun q hq => ?_)
  rw [List.mem_singleton] at hq
  rw [hq]
  left
  show a ≠ x
  omega
/-- a rule as the class keeps it -/
def uR (σ : qx_S) (a : Nat) (R : qR) : Prop := qx_mi σ a 6 = nI (q_nc R) ∧ qx_mi σ a 5 = nI (q_len R) ∧ (∀ i, i < q_len R → qx_mi σ (a + 1) i = nI (q_cd R i)) ∧ qx_mi σ a 8 = bI (q_gw (q_cd R) (q_len R)) ∧ ∀ c, c < q_nc R → uCl σ a c (R.2.2.2 c)
def rO (σ s' : qx_S) (a : Nat) (T : q_T) (nc : Nat) (x : Except Nat (q_P × Bool × Nat × Nat × Nat)) (r : Option Value) : Prop := fB a σ s' ∧ (∀ c, c < nc → ∀ k, 2 ≤ k → k ≤ 5 → qx_mi s' (a + k) c = qx_mi σ (a + k) c) ∧ (match x with
  | .error f => r = some (.int (bI false)) ∧ qx_mi s' 4 7 = nI f
  | .ok y => r = some (.int (bI true)) ∧ uP s' a T y.1 ∧ uCl s' a nc y.2)
theorem rK.o {σ s' : qx_S} {a nc : Nat} {T : q_T} {s : q_P} {bar : Bool} {r : Option Value} (hnc : nc < 12) (hk : q_kd T s.1 = (if bar = true then 315 else 316)) (h : rK σ s' a T nc s.2.1 bar (q_dA T bar (q_pas T s)) (q_dB T bar) r) : rO σ s' a T nc (q_oc T s nc) r := by
  obtain ⟨x, b, d⟩ := h
  refine ⟨x, b, ?_⟩
  have hb : decide (q_kd T s.1 = 315) = bar := by
    cases bar with
    | true => exact decide_eq_true hk
    | false =>
      have hk : q_kd T s.1 = 316 := hk
      exact decide_eq_false (by omega)
  have hk2 : ¬ (q_kd T s.1 ≠ 315 ∧ q_kd T s.1 ≠ 316) := by
    split at hk <;> omega
  have eo : q_oc T s nc = match q_dA T bar (q_pas T s) with
    | .error f => .error f
    | .ok s1 => match q_dB T bar s1 with
      | .error f => .error f
      | .ok s2 => .ok (s2, bar, s.2.1, s1.2.1, s2.2.1) := by
    unfold q_oc
    rw [if_neg hk2, if_neg (by omega), hb]
    rfl
  cases h1 : q_dA T bar (q_pas T s) with
  | error f =>
    rw [h1] at d eo
    rw [eo]
    exact d
  | ok s1 =>
    rw [h1] at d eo
    have d2 : (match q_dB T bar s1 with
      | .error f => r = some (.int (bI false)) ∧ qx_mi s' 4 7 = nI f
      | .ok s2 => r = some (.int (bI true)) ∧ uP s' a T s2 ∧ uCl s' a nc (bar, s.2.1, s1.2.1, s2.2.1)) := d
    have eo2 : q_oc T s nc = match q_dB T bar s1 with
      | .error f => .error f
      | .ok s2 => .ok (s2, bar, s.2.1, s1.2.1, s2.2.1) := eo
    cases h2 : q_dB T bar s1 with
    | error f =>
      rw [h2] at d2 eo2
      rw [eo2]
      exact d2
    | ok s2 =>
      rw [h2] at d2 eo2
      rw [eo2]
      exact d2
def rR (σ s' : qx_S) (a : Nat) (x : Except Nat qR) (r : Option Value) : Prop := fC a σ s' ∧ (match x with
  | .error f => r = some (.int (bI false)) ∧ qx_mi s' 4 7 = nI f
  | .ok R => r = some (.int (bI true)) ∧ uR s' a R)
theorem uCl.fr {σ s' : qx_S} {a c nc : Nat} {i : Bool × Nat × Nat × Nat} (h : uCl σ a c i) (f : ∀ c, c < nc → ∀ k, 2 ≤ k → k ≤ 5 → qx_mi s' (a + k) c = qx_mi σ (a + k) c) (hc : c < nc) : uCl s' a c i := ⟨(f c hc 2 (by decide) (by decide)).trans h.1, (f c hc 3 (by decide) (by decide)).trans h.2.1, (f c hc 4 (by decide) (by decide)).trans h.2.2.1, (f c hc 5 (by decide) (by decide)).trans h.2.2.2⟩
theorem lo46 {σ s' : qx_S} {a : Nat} (ha : 9 ≤ a) (f : ql [(4, some 6)] σ s') : ∀ c, ∀ k, qx_mi s' (a + k) c = qx_mi σ (a + k) c := fun c k => f.i _ _ (pL_ne (by simp; omega))
theorem l_rf {G : qx_G} {σ0 : qx_S} {a : Nat} {T : q_T} : ∀ (m : Nat) (s : q_P) (nc : Nat) (ci : q_ci) (σ : qx_S), m + nc = 13 → nc ≤ 12 → uP σ a T s → shR σ a → s.2.1 ≤ s.1 → qx_mi σ a 6 = nI nc → (∀ c, c < nc → uCl σ a c (ci c)) → fC a σ0 σ →
    qx_K G qc_T 36 RX5 YX5_readFrom 26 [.ref a, .ref 4, .int (nI nc), .retAddr 0] [] σ (fun r s' => rR σ0 s' a (q_ruc T m s nc ci) r) := by
  intro m
  induction m with
  | zero =>
    intro s nc ci σ hm hn
    omega
  | succ m ih =>
    intro s nc ci σ hm hn h hs hl h6 hcl hf
    have ha := hs.1
    obtain ⟨hle, h400, hb⟩ := h.1.le
    have hkl := q_kd_le hb s.1
    -- behind a clause
    have key8 : ∀ σ1 y, q_oc T s nc = .ok y → uP σ1 a T y.1 → shR σ1 a → qx_mi σ1 a 6 = nI (nc + 1) → (∀ c, c < nc + 1 → uCl σ1 a c (va_up ci nc y.2 c)) → fC a σ0 σ1 → nc < 12 → qx_K G qc_T 36 RX5 YX5_readFrom 108 [.ref a, .ref 4, .int (nI nc), .retAddr 0] [] σ1 (fun r s' => rR σ0 s' a (q_ruc T (m + 1) s nc ci) r) := by
      intro μ y ho h1 hs1 h61 hcl1 hf1 hn12
      obtain ⟨g0, g1, g2, g3, g4, -⟩ := q_oc_g ho
      rw [q_ruc_ok ho]
      unfold q_rr
      by_cases k9 : q_kd T y.1.1 = 59
      · rw [if_pos k9]
        have mk := c_kind_n (G := G) h1.1 (by omega)
        rw [k9] at mk
        have hp := q_nx_gt (q_kd_lt (T := T) (p := y.1.1) (by omega))
        have up : ∀ ρ, ql [(4, some 6)] μ ρ → cT ρ T (q_nx T y.1.1) → uP ρ a T (q_pas T y.1) ∧ shR ρ a ∧ qx_mi ρ a 6 = nI (nc + 1) ∧ (∀ c, c < nc + 1 → uCl ρ a c (va_up ci nc y.2 c)) ∧ fC a σ0 ρ := by
          intro ρ fρ cρ
          exact ⟨h1.to ha fρ cρ, hs1.fr fρ, (fρ.i _ _ (pL_ne (by simp; omega))).trans h61, fun c hc => (hcl1 c hc).fr (nc := nc + 1) (fun c' _ k _ _ => lo46 ha fρ c' k) hc, hf1.tr (fC.t fρ (by decide))⟩
        refine qy_wp_ok (c := CX5_readFrom) (cuts := [26]) vX5_readFrom wX5_readFrom 2000 108 _ _ _ ?_
        refine And.intro rfl (Exists.intro _ (And.intro (by decide) (qx_M_mono (mk) ?_)))
        rintro _ _ ⟨rfl, rfl⟩
        refine Exists.intro ((-1)) (And.intro (by decide) ?_)
        refine And.intro (fun h113 => ?_) (fun h113 => ?_)
        · skip
          refine Exists.intro (nI 59) (And.intro rfl ?_)
          refine And.intro rfl (Exists.intro _ (And.intro (by decide) (qx_M_mono (c_take_t h1.1 k9 (by decide)) ?_)))
          rintro _ ρ ⟨rfl, fρ, cρ⟩
          refine And.intro (fun h124 => ?_) (fun h124 => ?_)
          · skip
            have h124 := bI_t h124
            refine Exists.intro (nI (nc + 1)) (And.intro (nI_add _ _) ?_)
            obtain ⟨z1, z2, z3, z4, z5⟩ := up _ fρ cρ
            exact ih (q_pas T y.1) (nc + 1) _ _ (by omega) (by omega) z1 z2 (show y.1.2.1 ≤ q_nx T y.1.1 by omega) z3 z4 z5
          · skip
            have h124 := bI_f h124
            exact absurd (h124.symm.trans (rfl)) (by decide)
        · skip
          exact absurd h113 (by decide)
      · rw [if_neg k9]
        by_cases ke : q_kd T y.1.1 = 999
        · rw [if_pos ke]
          refine qy_wp_ok (c := CX5_readFrom) (cuts := []) vX5_readFrom wX5_readFrom 2000 108 _ _ _ ?_
          refine And.intro rfl (Exists.intro _ (And.intro (by decide) (qx_M_mono (c_kind_e h1.1 ke) ?_)))
          rintro _ _ ⟨rfl, rfl⟩
          refine Exists.intro ((-1)) (And.intro (by decide) ?_)
          refine And.intro (fun h113 => ?_) (fun h113 => ?_)
          · skip
            exact absurd (by decide) h113
          · skip
            refine Exists.intro (nI 1) (And.intro rfl ?_)
            refine And.intro (Or.inr rfl) ?_
            exact ⟨hf1, rfl, h61, h1.2.1, h1.2.2.2.2.1, h1.2.2.2.2.2, hcl1⟩
        · rw [if_neg ke]
          have mk := c_kind_n (G := G) h1.1 ke
          have hkl1 := q_kd_le hb y.1.1
          have hne : ¬ nI (q_kd T y.1.1) = (-1 : Int32) := fun z => by
            have h2 := congrArg Int32.toInt z
            rw [nI_toInt (by omega)] at h2
            exact absurd h2 (by rw [show (-1 : Int32).toInt = -1 from rfl]; omega)
          refine qy_wp_ok (c := CX5_readFrom) (cuts := []) vX5_readFrom wX5_readFrom 2000 108 _ _ _ ?_
          refine And.intro rfl (Exists.intro _ (And.intro (by decide) (qx_M_mono (mk) ?_)))
          rintro _ _ ⟨rfl, rfl⟩
          refine Exists.intro ((-1)) (And.intro (by decide) ?_)
          refine And.intro (fun h113 => ?_) (fun h113 => ?_)
          · skip
            refine Exists.intro (nI 59) (And.intro rfl ?_)
            refine And.intro rfl (Exists.intro _ (And.intro (by decide) (qx_M_mono (c_take_f h1.1 k9 (by decide)) ?_)))
            rintro _ _ ⟨rfl, rfl⟩
            refine And.intro (fun h124 => ?_) (fun h124 => ?_)
            · skip
              have h124 := bI_t h124
              exact absurd (h124.symm.trans (rfl)) (by decide)
            · skip
              have h124 := bI_f h124
              refine Exists.intro (nI 0) (And.intro rfl ?_)
              refine And.intro rfl (Exists.intro _ (And.intro (by decide) (qx_M_mono (c_fail h1.1) ?_)))
              rintro _ ρ ⟨rfl, fρ, gρ⟩
              refine And.intro (bI_01 _) ?_
              exact ⟨hf1.tr (fC.t fρ (by decide)), rfl, gρ⟩
          · skip
            exact absurd h113 hne
    have key : ∀ σ1 y, q_oc T s nc = .ok y → uP σ1 a T y.1 → shR σ1 a → qx_mi σ1 a 6 = nI nc → (∀ c, c < nc + 1 → uCl σ1 a c (va_up ci nc y.2 c)) → fC a σ0 σ1 → nc < 12 → qx_K G qc_T 36 RX5 YX5_readFrom 98 [.ref a, .ref 4, .int (nI nc), .retAddr 0] [] σ1 (fun r s' => rR σ0 s' a (q_ruc T (m + 1) s nc ci) r) := by
      intro μ y ho h1 hs1 h61 hcl1 hf1 hn12
      have up : ∀ τ, τ = qx_wi μ a 6 (nI (nc + 1)) → uP τ a T y.1 ∧ shR τ a ∧ qx_mi τ a 6 = nI (nc + 1) ∧ (∀ c, c < nc + 1 → uCl τ a c (va_up ci nc y.2 c)) ∧ fC a σ0 τ := by
        intro τ e
        have fw := qn_wif e
        obtain ⟨c0, c1, c2, c3, c4, c5⟩ := h1
        exact ⟨⟨c0.fr fw (by simp; omega), (qn_ne e (Or.inr (by decide))).trans c1, (qn_ne e (Or.inr (by decide))).trans c2, c3, fun i hi => (qn_ne e (Or.inl (by omega))).trans (c4 i hi), (qn_ne e (Or.inr (by decide))).trans c5⟩, hs1.fr fw, qn_eq e, fun c hc => (hcl1 c hc).fr (nc := nc + 1) (fun c' _ k h2 _ => qn_ne e (Or.inl (by omega))) hc, hf1.tr (fC.f fw)⟩
      refine qy_wp_ok (c := CX5_readFrom) (cuts := [108]) vX5_readFrom wX5_readFrom 2000 98 _ _ _ ?_
      refine And.intro (by rw [show qx_sh qc_T _ a = _ from hs1.2.1]; rfl) (Exists.intro 6 (Exists.intro (nI nc) (And.intro rfl (And.intro h61 ?_))))
      refine Exists.intro (nI 1) (And.intro rfl ?_)
      refine Exists.intro (nI (nc + 1)) (And.intro (nI_add _ _) ?_)
      obtain ⟨σ1, eσ1⟩ : ∃ zs, zs = (qx_wi μ a 6 (nI (nc + 1))) := ⟨_, rfl⟩
      have fσ1 := qn_wif eσ1
      refine And.intro (by rw [show qx_sh qc_T _ a = _ from hs1.2.1]; rfl) (Exists.intro 6 (Exists.intro σ1 (And.intro rfl (And.intro eσ1.symm ?_))))
      obtain ⟨z1, z2, z3, z4, z5⟩ := up _ eσ1
      exact key8 _ y ho z1 z2 z3 z4 z5 hn12
    have mid : ∀ (bar : Bool), q_kd T s.1 = (if bar = true then 315 else 316) → nc < 12 → ∀ σ1 s' r, ql [(4, some 6)] σ σ1 → rK σ1 s' a T nc s.2.1 bar (q_dA T bar (q_pas T s)) (q_dB T bar) r → ∃ b, r = some (.int (bI b)) ∧ (b = true → qx_K G qc_T 36 RX5 YX5_readFrom 98 [.ref a, .ref 4, .int (nI nc), .retAddr 0] [] s' (fun r s' => rR σ0 s' a (q_ruc T (m + 1) s nc ci) r)) ∧ (b = false → rR σ0 s' a (q_ruc T (m + 1) s nc ci) (some (.int (bI false)))) := by
      intro bar hk hn12 σ1 s' r f1 z
      have z := rK.o hn12 hk z
      obtain ⟨z1, z2, z3⟩ := z
      have hfc : fC a σ0 s' := hf.tr ((fC.t f1 (by decide)).tr (fC.b z1))
      cases ho : q_oc T s nc with
      | error f =>
        rw [ho] at z3
        refine ⟨false, z3.1, fun y => absurd y (by decide), fun _ => ?_⟩
        rw [q_ruc_er ho]
        exact ⟨hfc, rfl, z3.2⟩
      | ok y =>
        rw [ho] at z3
        refine ⟨true, z3.1, fun _ => ?_, fun w => absurd w (by decide)⟩
        refine key s' y ho z3.2.1 ((hs.fr f1).fr z1) ((z1.i _ _ ?_).trans ((f1.i _ _ (pL_ne (by simp; omega))).trans h6)) (fun c hc => ?_) hfc hn12
        · unfold pB
          rw [decide_eq_false (show ¬ (a ≤ a ∧ a ≤ a + 5 ∧ ¬ (a = a ∧ 6 = 6)) by omega), pL_ne (by simp; omega)]
          rfl
        · by_cases w : c = nc
          · rw [w, va_up_self]
            exact z3.2.2
          · rw [va_up_ne _ _ w]
            exact (hcl c (by omega)).fr (nc := nc) (fun c' h1 k h2 h3 => (z2 c' h1 k h2 h3).trans (lo46 ha f1 c' k)) (by omega)
    by_cases kb : q_kd T s.1 = 315
    · have mk := c_kind_n (G := G) h.1 (by omega)
      have hp := q_nx_gt (q_kd_lt (T := T) (p := s.1) (by omega))
      rw [kb] at mk
      by_cases n12 : nc = 12
      · have eo : q_oc T s nc = .error (1 + 8 * s.1 + 4) := by
          unfold q_oc
          rw [if_neg (by omega), if_pos n12]
        rw [q_ruc_er eo]
        refine qy_wp_ok (c := CX5_readFrom) (cuts := [72]) vX5_readFrom wX5_readFrom 2000 26 _ _ _ ?_
        refine Exists.intro (nI 12) (And.intro rfl ?_)
        refine And.intro (fun h29 => ?_) (fun h29 => ?_)
        · skip
          have h29 := nI_ltT (a := 12) (b := nc) (by decide) (by omega) h29
          exact absurd h29 (by omega)
        · skip
          have h29 := nI_ltF (a := 12) (b := nc) (by decide) (by omega) h29
          refine And.intro rfl (Exists.intro _ (And.intro (by decide) (qx_M_mono (mk) ?_)))
          rintro _ _ ⟨rfl, rfl⟩
          refine Exists.intro (nI 315) (And.intro rfl ?_)
          refine And.intro (fun h41 => ?_) (fun h41 => ?_)
          · skip
            refine And.intro (by rw [show qx_sh qc_T _ a = _ from hs.2.1]; rfl) (Exists.intro 6 (Exists.intro (nI nc) (And.intro rfl (And.intro h6 ?_))))
            refine Exists.intro (nI 12) (And.intro rfl ?_)
            refine And.intro (fun h63 => ?_) (fun h63 => ?_)
            · skip
              have h63 := nI_ltT (a := nc) (b := 12) (by omega) (by decide) h63
              exact absurd h63 (by omega)
            · skip
              have h63 := nI_ltF (a := nc) (b := 12) (by omega) (by decide) h63
              refine Exists.intro (nI 4) (And.intro rfl ?_)
              refine And.intro rfl (Exists.intro _ (And.intro (by decide) (qx_M_mono (c_fail h.1) ?_)))
              rintro _ ρ ⟨rfl, fρ, gρ⟩
              refine And.intro (bI_01 _) ?_
              exact ⟨hf.tr (fC.t fρ (by decide)), rfl, gρ⟩
          · skip
            exact absurd (by decide) h41
      · have mc : ∀ σ1, ql [(4, some 6)] σ σ1 → cT σ1 T (q_nx T s.1) → _ := fun σ1 f1 c1 => qx_M_mono (c_clause_bar (G := G) (h.to ha f1 c1) (hs.fr f1) (show s.2.1 ≤ q_nx T s.1 by omega) ((f1.i _ _ (pL_ne (by simp; omega))).trans h6) (show nc < 12 by omega)) (fun r s' z => mid true kb (by omega) σ1 s' r f1 z)
        refine qy_wp_ok (c := CX5_readFrom) (cuts := [98]) vX5_readFrom wX5_readFrom 2000 26 _ _ _ ?_
        refine Exists.intro (nI 12) (And.intro rfl ?_)
        refine And.intro (fun h29 => ?_) (fun h29 => ?_)
        · skip
          have h29 := nI_ltT (a := 12) (b := nc) (by decide) (by omega) h29
          exact absurd h29 (by omega)
        · skip
          have h29 := nI_ltF (a := 12) (b := nc) (by decide) (by omega) h29
          refine And.intro rfl (Exists.intro _ (And.intro (by decide) (qx_M_mono (mk) ?_)))
          rintro _ _ ⟨rfl, rfl⟩
          refine Exists.intro (nI 315) (And.intro rfl ?_)
          refine And.intro (fun h41 => ?_) (fun h41 => ?_)
          · skip
            refine And.intro (by rw [show qx_sh qc_T _ a = _ from hs.2.1]; rfl) (Exists.intro 6 (Exists.intro (nI nc) (And.intro rfl (And.intro h6 ?_))))
            refine Exists.intro (nI 12) (And.intro rfl ?_)
            refine And.intro (fun h63 => ?_) (fun h63 => ?_)
            · skip
              have h63 := nI_ltT (a := nc) (b := 12) (by omega) (by decide) h63
              refine And.intro rfl (Exists.intro _ (And.intro (by decide) (qx_M_mono (c_pass h.1 (by omega)) ?_)))
              rintro _ ρ ⟨rfl, fρ, cρ⟩
              refine Exists.intro (nI 315) (And.intro rfl ?_)
              refine And.intro (fun h82 => ?_) (fun h82 => ?_)
              · skip
                exact absurd (by decide) h82
              · skip
                refine Exists.intro (nI 1) (And.intro rfl ?_)
                refine And.intro ((congrArg Prod.fst ((hs.fr fρ).2.1)).trans rfl) (Exists.intro _ (And.intro (by decide) (qx_M_mono (mc _ fρ cρ) ?_)))
                rintro _ τ ⟨bb, rfl, fτ, gτ⟩
                refine And.intro (fun h93 => ?_) (fun h93 => ?_)
                · skip
                  have h93 := bI_t h93
                  refine qx_K_le (ls := [.ref a, .ref 4, .int (nI nc), .retAddr 0]) ⟨Or.inr rfl, Or.inr rfl, Or.inr rfl, Or.inl rfl, trivial⟩ ?_
                  exact fτ h93
                · skip
                  have h93 := bI_f h93
                  refine Exists.intro (nI 0) (And.intro rfl ?_)
                  refine And.intro (Or.inl rfl) ?_
                  exact gτ h93
            · skip
              have h63 := nI_ltF (a := nc) (b := 12) (by omega) (by decide) h63
              exact absurd h63 (by omega)
          · skip
            exact absurd (by decide) h41
    · by_cases kw : q_kd T s.1 = 316
      · have mk := c_kind_n (G := G) h.1 (by omega)
        have hp := q_nx_gt (q_kd_lt (T := T) (p := s.1) (by omega))
        rw [kw] at mk
        by_cases n12 : nc = 12
        · have eo : q_oc T s nc = .error (1 + 8 * s.1 + 4) := by
            unfold q_oc
            rw [if_neg (by omega), if_pos n12]
          rw [q_ruc_er eo]
          refine qy_wp_ok (c := CX5_readFrom) (cuts := [72]) vX5_readFrom wX5_readFrom 2000 26 _ _ _ ?_
          refine Exists.intro (nI 12) (And.intro rfl ?_)
          refine And.intro (fun h29 => ?_) (fun h29 => ?_)
          · skip
            have h29 := nI_ltT (a := 12) (b := nc) (by decide) (by omega) h29
            exact absurd h29 (by omega)
          · skip
            have h29 := nI_ltF (a := 12) (b := nc) (by decide) (by omega) h29
            refine And.intro rfl (Exists.intro _ (And.intro (by decide) (qx_M_mono (mk) ?_)))
            rintro _ _ ⟨rfl, rfl⟩
            refine Exists.intro (nI 315) (And.intro rfl ?_)
            refine And.intro (fun h41 => ?_) (fun h41 => ?_)
            · skip
              exact absurd h41 (by decide)
            · skip
              refine Exists.intro (nI 316) (And.intro rfl ?_)
              refine And.intro (fun h48 => ?_) (fun h48 => ?_)
              · skip
                refine And.intro (by rw [show qx_sh qc_T _ a = _ from hs.2.1]; rfl) (Exists.intro 6 (Exists.intro (nI nc) (And.intro rfl (And.intro h6 ?_))))
                refine Exists.intro (nI 12) (And.intro rfl ?_)
                refine And.intro (fun h63 => ?_) (fun h63 => ?_)
                · skip
                  have h63 := nI_ltT (a := nc) (b := 12) (by omega) (by decide) h63
                  exact absurd h63 (by omega)
                · skip
                  have h63 := nI_ltF (a := nc) (b := 12) (by omega) (by decide) h63
                  refine Exists.intro (nI 4) (And.intro rfl ?_)
                  refine And.intro rfl (Exists.intro _ (And.intro (by decide) (qx_M_mono (c_fail h.1) ?_)))
                  rintro _ ρ ⟨rfl, fρ, gρ⟩
                  refine And.intro (bI_01 _) ?_
                  exact ⟨hf.tr (fC.t fρ (by decide)), rfl, gρ⟩
              · skip
                exact absurd (by decide) h48
        · have mc : ∀ σ1, ql [(4, some 6)] σ σ1 → cT σ1 T (q_nx T s.1) → _ := fun σ1 f1 c1 => qx_M_mono (c_clause_want (G := G) (h.to ha f1 c1) (hs.fr f1) (show s.2.1 ≤ q_nx T s.1 by omega) ((f1.i _ _ (pL_ne (by simp; omega))).trans h6) (show nc < 12 by omega)) (fun r s' z => mid false kw (by omega) σ1 s' r f1 z)
          refine qy_wp_ok (c := CX5_readFrom) (cuts := [98]) vX5_readFrom wX5_readFrom 2000 26 _ _ _ ?_
          refine Exists.intro (nI 12) (And.intro rfl ?_)
          refine And.intro (fun h29 => ?_) (fun h29 => ?_)
          · skip
            have h29 := nI_ltT (a := 12) (b := nc) (by decide) (by omega) h29
            exact absurd h29 (by omega)
          · skip
            have h29 := nI_ltF (a := 12) (b := nc) (by decide) (by omega) h29
            refine And.intro rfl (Exists.intro _ (And.intro (by decide) (qx_M_mono (mk) ?_)))
            rintro _ _ ⟨rfl, rfl⟩
            refine Exists.intro (nI 315) (And.intro rfl ?_)
            refine And.intro (fun h41 => ?_) (fun h41 => ?_)
            · skip
              exact absurd h41 (by decide)
            · skip
              refine Exists.intro (nI 316) (And.intro rfl ?_)
              refine And.intro (fun h48 => ?_) (fun h48 => ?_)
              · skip
                refine And.intro (by rw [show qx_sh qc_T _ a = _ from hs.2.1]; rfl) (Exists.intro 6 (Exists.intro (nI nc) (And.intro rfl (And.intro h6 ?_))))
                refine Exists.intro (nI 12) (And.intro rfl ?_)
                refine And.intro (fun h63 => ?_) (fun h63 => ?_)
                · skip
                  have h63 := nI_ltT (a := nc) (b := 12) (by omega) (by decide) h63
                  refine And.intro rfl (Exists.intro _ (And.intro (by decide) (qx_M_mono (c_pass h.1 (by omega)) ?_)))
                  rintro _ ρ ⟨rfl, fρ, cρ⟩
                  refine Exists.intro (nI 315) (And.intro rfl ?_)
                  refine And.intro (fun h82 => ?_) (fun h82 => ?_)
                  · skip
                    refine Exists.intro (nI 0) (And.intro rfl ?_)
                    refine And.intro ((congrArg Prod.fst ((hs.fr fρ).2.1)).trans rfl) (Exists.intro _ (And.intro (by decide) (qx_M_mono (mc _ fρ cρ) ?_)))
                    rintro _ τ ⟨bb, rfl, fτ, gτ⟩
                    refine And.intro (fun h93 => ?_) (fun h93 => ?_)
                    · skip
                      have h93 := bI_t h93
                      refine qx_K_le (ls := [.ref a, .ref 4, .int (nI nc), .retAddr 0]) ⟨Or.inr rfl, Or.inr rfl, Or.inr rfl, Or.inl rfl, trivial⟩ ?_
                      exact fτ h93
                    · skip
                      have h93 := bI_f h93
                      refine Exists.intro (nI 0) (And.intro rfl ?_)
                      refine And.intro (Or.inl rfl) ?_
                      exact gτ h93
                  · skip
                    exact absurd h82 (by decide)
                · skip
                  have h63 := nI_ltF (a := nc) (b := 12) (by omega) (by decide) h63
                  exact absurd h63 (by omega)
              · skip
                exact absurd (by decide) h48
      · have eo : q_oc T s nc = .error (1 + 8 * s.1 + 0) := by
          unfold q_oc
          rw [if_pos ⟨kb, kw⟩]
        rw [q_ruc_er eo]
        have n1 := kI_ne hkl (show 315 < 999 by decide) kb
        have n2 := kI_ne hkl (show 316 < 999 by decide) kw
        refine qy_wp_ok (c := CX5_readFrom) (cuts := [57]) vX5_readFrom wX5_readFrom 2000 26 _ _ _ ?_
        refine Exists.intro (nI 12) (And.intro rfl ?_)
        refine And.intro (fun h29 => ?_) (fun h29 => ?_)
        · skip
          have h29 := nI_ltT (a := 12) (b := nc) (by decide) (by omega) h29
          exact absurd h29 (by omega)
        · skip
          have h29 := nI_ltF (a := 12) (b := nc) (by decide) (by omega) h29
          refine And.intro rfl (Exists.intro _ (And.intro (by decide) (qx_M_mono (c_kind h.1) ?_)))
          rintro _ _ ⟨rfl, rfl⟩
          refine Exists.intro (nI 315) (And.intro rfl ?_)
          refine And.intro (fun h41 => ?_) (fun h41 => ?_)
          · skip
            first | exact absurd h41 n1 | exact absurd h48 n2
          · skip
            refine Exists.intro (nI 316) (And.intro rfl ?_)
            refine And.intro (fun h48 => ?_) (fun h48 => ?_)
            · skip
              first | exact absurd h41 n1 | exact absurd h48 n2
            · skip
              refine Exists.intro (nI 0) (And.intro rfl ?_)
              refine And.intro rfl (Exists.intro _ (And.intro (by decide) (qx_M_mono (c_fail h.1) ?_)))
              rintro _ ρ ⟨rfl, fρ, gρ⟩
              refine And.intro (bI_01 _) ?_
              exact ⟨hf.tr (fC.t fρ (by decide)), rfl, gρ⟩

