/-! THE CLASS: nothing is ever struck -/
theorem c_isDebt {G : qx_G} {σ : qx_S} {p q : Nat} {v : Int32} (h : qx_mi σ 24 (p * 10 + q) = v) (hp : p < 10) (hq : q < 10) : qx_M G qc_T 0 YX7_isDebt [.ref 21, .int (nI p), .int (nI q)] σ (qr (bI (decide (0 < v))) σ) := by
  refine qx_M_in rfl (Nat.le_of_ble_eq_true rfl) ?_
  refine qy_wp_ok (c := CX7_isDebt) (cuts := []) vX7_isDebt wX7_isDebt 2000 0 _ _ _ ?_
  refine And.intro rfl (Exists.intro 24 (And.intro rfl ?_))
  refine Exists.intro (nI 10) (And.intro rfl ?_)
  refine Exists.intro (nI (p * 10)) (And.intro (pk_mul _ _) ?_)
  refine Exists.intro (nI (p * 10 + q)) (And.intro (nI_add _ _) ?_)
  refine Exists.intro (p * 10 + q) (Exists.intro v (And.intro rfl (And.intro ⟨100, rfl, by omega, by decide⟩ (And.intro h ?_))))
  refine And.intro (fun h11 => ?_) (fun h11 => ?_)
  · skip
    refine Exists.intro (nI 0) (And.intro rfl ?_)
    refine And.intro (Or.inl rfl) ?_
    first | exact ⟨by rw [decide_eq_false (Int32.not_lt.mpr h11)]; rfl, rfl⟩ | exact ⟨by rw [decide_eq_true (Int32.not_le.mp h11)]; rfl, rfl⟩
  · skip
    refine Exists.intro (nI 1) (And.intro rfl ?_)
    refine And.intro (Or.inr rfl) ?_
    first | exact ⟨by rw [decide_eq_false (Int32.not_lt.mpr h11)]; rfl, rfl⟩ | exact ⟨by rw [decide_eq_true (Int32.not_le.mp h11)]; rfl, rfl⟩
/-- steps towards one: whoever has some is heavier -/
def cSp (σ : qx_S) (x pe goal : Nat) (w : Nat → Int32) : Prop := ∀ p, p < 10 → ∃ v, qx_mi σ x p = nI v ∧ v ≤ 1000 ∧ (p < pe → v ≠ 1000 → p = goal ∨ w goal < w p)
def cS2 (σ0 σ : qx_S) (x pe goal : Nat) (w : Nat → Int32) (f : Nat → Nat → Int32) : Prop := ql [(x, none)] σ0 σ ∧ qx_sh qc_T σ x = (0, 10) ∧ (∀ p q, p < 10 → q < 10 → qx_mi σ 24 (p * 10 + q) = f p q) ∧ cSp σ x pe goal w
theorem cS2.up {σ0 σ s : qx_S} {x pe goal p v : Nat} {w : Nat → Int32} {f : Nat → Nat → Int32} (h : cS2 σ0 σ x pe goal w f) (hx : 229 ≤ x) (es : s = qx_wi σ x p (nI v)) (hv : v ≤ 1000) (hw : p < pe → v ≠ 1000 → p = goal ∨ w goal < w p) : cS2 σ0 s x pe goal w f :=
  ⟨h.1.tr (qn_wi es), ((qn_wi es).s _).trans h.2.1, fun p q hp hq => (qn_ne es (Or.inl (by omega))).trans (h.2.2.1 p q hp hq), fun q hq => by
    by_cases z : q = p
    · rw [z]
      exact ⟨v, qn_eq es, hv, hw⟩
    · obtain ⟨u, a, b⟩ := h.2.2.2 q hq
      exact ⟨u, (qn_ne es (Or.inr z)).trans a, b⟩⟩
theorem l_cs3 {G : qx_G} {σ0 : qx_S} {x pe goal far one : Nat} {w : Nat → Int32} {f : Nat → Nat → Int32} {Φ : qx_F} (hpe : pe ≤ 10) (hx : 229 ≤ x) (ho2 : one < pe) (hfar : far < 10) (hw : ∀ p q, p < pe → q < pe → 0 < f p q → w q < w p) (key : ∀ s, cS2 σ0 s x pe goal w f → qx_K G qc_T 1 RX7 YX7_countSteps 86 [.ref 21, .int (nI pe), .int (nI goal), .ref x, .int (nI far), .int (nI one), .retAddr 0] [] s Φ) : ∀ (m k : Nat) (σ : qx_S), m + k = pe → cS2 σ0 σ x pe goal w f → qx_K G qc_T 1 RX7 YX7_countSteps 36 [.ref 21, .int (nI pe), .int (nI goal), .ref x, .int (nI far), .int (nI one), .int (nI k)] [] σ Φ := by
  intro m
  induction m with
  | zero =>
    intro k σ hk hI
    obtain rfl : k = pe := by omega
    refine qy_wp_ok (c := CX7_countSteps) (cuts := [36, 86]) vX7_countSteps wX7_countSteps 2000 36 _ _ _ ?_
    refine And.intro (fun h39 => ?_) (fun h39 => ?_)
    · skip
      have h39 := nI_leT (a := k) (b := k) (by omega) (by omega) h39
      refine qx_K_le (ls := [.ref 21, .int (nI k), .int (nI goal), .ref x, .int (nI far), .int (nI one), .retAddr 0]) ⟨Or.inr rfl, Or.inr rfl, Or.inr rfl, Or.inr rfl, Or.inr rfl, Or.inr rfl, Or.inl rfl, trivial⟩ ?_
      exact key _ hI
    · skip
      have h39 := nI_leF (a := k) (b := k) (by omega) (by omega) h39
      exact absurd h39 (by omega)
  | succ m ih =>
    intro k σ hk hI
    obtain ⟨v1, a1, b1, c1⟩ := hI.2.2.2 one (by omega)
    obtain ⟨v2, a2, b2, c2⟩ := hI.2.2.2 k (by omega)
    refine qy_wp_ok (c := CX7_countSteps) (cuts := [36, 86]) vX7_countSteps wX7_countSteps 2000 36 _ _ _ ?_
    refine And.intro (fun h39 => ?_) (fun h39 => ?_)
    · skip
      have h39 := nI_leT (a := pe) (b := k) (by omega) (by omega) h39
      exact absurd h39 (by omega)
    · skip
      have h39 := nI_leF (a := pe) (b := k) (by omega) (by omega) h39
      refine Exists.intro (one) (Exists.intro (nI v1) (And.intro rfl (And.intro ⟨10, hI.2.1, by omega, by decide⟩ (And.intro a1 ?_))))
      refine Exists.intro (nI 1000) (And.intro rfl ?_)
      refine And.intro (fun h49 => ?_) (fun h49 => ?_)
      · skip
        have h49 := nI_neT (a := v1) (b := 1000) (by omega) (by decide) h49
        refine qx_K_le (ls := [.ref 21, .int (nI pe), .int (nI goal), .ref x, .int (nI far), .int (nI one), .retAddr 0]) ⟨Or.inr rfl, Or.inr rfl, Or.inr rfl, Or.inr rfl, Or.inr rfl, Or.inr rfl, Or.inl rfl, trivial⟩ ?_
        exact key _ hI
      · skip
        have h49 := nI_eqT (a := v1) (b := 1000) (by omega) (by decide) h49
        refine Exists.intro (k) (Exists.intro (nI v2) (And.intro rfl (And.intro ⟨10, hI.2.1, by omega, by decide⟩ (And.intro a2 ?_))))
        refine And.intro (fun h58 => ?_) (fun h58 => ?_)
        · skip
          have h58 := nI_neT (a := v2) (b := far) (by omega) (by omega) h58
          refine Exists.intro (nI (k + 1)) (And.intro (nI_add _ _) ?_)
          first
            | exact ih (k + 1) _ (by omega) hI
            | exact ih (k + 1) _ (by omega) (hI.up hx eσ1 (by omega) (fun _ _ => Or.inr ((c2 (by omega) (by omega)).elim (fun z => z ▸ hw one k (by omega) (by omega) (of_decide_eq_true h69)) (fun z => Int32.lt_trans z (hw one k (by omega) (by omega) (of_decide_eq_true h69))))))
        · skip
          have h58 := nI_eqT (a := v2) (b := far) (by omega) (by omega) h58
          refine And.intro rfl (Exists.intro _ (And.intro (by decide) (qx_M_mono (c_isDebt (hI.2.2.1 one k (by omega) (by omega)) (by omega) (by omega)) ?_)))
          rintro _ _ ⟨rfl, rfl⟩
          refine And.intro (fun h69 => ?_) (fun h69 => ?_)
          · skip
            have h69 := bI_f h69
            refine Exists.intro (nI (k + 1)) (And.intro (nI_add _ _) ?_)
            first
              | exact ih (k + 1) _ (by omega) hI
              | exact ih (k + 1) _ (by omega) (hI.up hx eσ1 (by omega) (fun _ _ => Or.inr ((c2 (by omega) (by omega)).elim (fun z => z ▸ hw one k (by omega) (by omega) (of_decide_eq_true h69)) (fun z => Int32.lt_trans z (hw one k (by omega) (by omega) (of_decide_eq_true h69))))))
          · skip
            have h69 := bI_t h69
            refine Exists.intro (nI 1) (And.intro rfl ?_)
            refine Exists.intro (nI (far + 1)) (And.intro (nI_add _ _) ?_)
            obtain ⟨σ1, eσ1⟩ : ∃ zs, zs = (qx_wi σ x one (nI (far + 1))) := ⟨_, rfl⟩
            have fσ1 := qn_wi eσ1
            refine Exists.intro (one) (Exists.intro σ1 (And.intro rfl (And.intro ⟨10, hI.2.1, by omega, by decide⟩ (And.intro eσ1.symm ?_))))
            refine Exists.intro (nI (k + 1)) (And.intro (nI_add _ _) ?_)
            first
              | exact ih (k + 1) _ (by omega) hI
              | exact ih (k + 1) _ (by omega) (hI.up hx eσ1 (by omega) (fun _ _ => Or.inr ((c2 (by omega) (by omega)).elim (fun z => z ▸ hw one k (by omega) (by omega) (of_decide_eq_true h69)) (fun z => Int32.lt_trans z (hw one k (by omega) (by omega) (of_decide_eq_true h69))))))
theorem l_cs2 {G : qx_G} {σ0 : qx_S} {x pe goal far : Nat} {w : Nat → Int32} {f : Nat → Nat → Int32} {Φ : qx_F} (hpe : pe ≤ 10) (hx : 229 ≤ x) (hg : goal < pe) (hfar : far < 10) (hw : ∀ p q, p < pe → q < pe → 0 < f p q → w q < w p) (key : ∀ s, cS2 σ0 s x pe goal w f → qx_K G qc_T 1 RX7 YX7_countSteps 92 [.ref 21, .int (nI pe), .int (nI goal), .ref x, .int (nI far), .retAddr 0, .retAddr 0] [] s Φ) : ∀ (m k : Nat) (σ : qx_S), m + k = pe → cS2 σ0 σ x pe goal w f → qx_K G qc_T 1 RX7 YX7_countSteps 27 [.ref 21, .int (nI pe), .int (nI goal), .ref x, .int (nI far), .int (nI k), .retAddr 0] [] σ Φ := by
  intro m
  induction m with
  | zero =>
    intro k σ hk hI
    obtain rfl : k = pe := by omega
    refine qy_wp_ok (c := CX7_countSteps) (cuts := [27, 92]) vX7_countSteps wX7_countSteps 2000 27 _ _ _ ?_
    refine And.intro (fun h30 => ?_) (fun h30 => ?_)
    · skip
      have h30 := nI_leT (a := k) (b := k) (by omega) (by omega) h30
      refine qx_K_le (ls := [.ref 21, .int (nI k), .int (nI goal), .ref x, .int (nI far), .retAddr 0, .retAddr 0]) ⟨Or.inr rfl, Or.inr rfl, Or.inr rfl, Or.inr rfl, Or.inr rfl, Or.inl rfl, Or.inr rfl, trivial⟩ ?_
      exact key _ hI
    · skip
      have h30 := nI_leF (a := k) (b := k) (by omega) (by omega) h30
      exact absurd h30 (by omega)
  | succ m ih =>
    intro k σ hk hI
    have k86 : ∀ s, cS2 σ0 s x pe goal w f → qx_K G qc_T 1 RX7 YX7_countSteps 86 [.ref 21, .int (nI pe), .int (nI goal), .ref x, .int (nI far), .int (nI k), .retAddr 0] [] s Φ := by
      intro s hs
      refine qy_wp_ok (c := CX7_countSteps) (cuts := [27]) vX7_countSteps wX7_countSteps 2000 86 _ _ _ ?_
      refine Exists.intro (nI (k + 1)) (And.intro (nI_add _ _) ?_)
      exact ih (k + 1) _ (by omega) hs
    refine qy_wp_ok (c := CX7_countSteps) (cuts := [36]) vX7_countSteps wX7_countSteps 2000 27 _ _ _ ?_
    refine And.intro (fun h30 => ?_) (fun h30 => ?_)
    · skip
      have h30 := nI_leT (a := pe) (b := k) (by omega) (by omega) h30
      exact absurd h30 (by omega)
    · skip
      have h30 := nI_leF (a := pe) (b := k) (by omega) (by omega) h30
      exact l_cs3 hpe hx (by omega) hfar hw k86 (pe - goal) goal _ (by omega) hI
theorem l_cs1 {G : qx_G} {σ0 : qx_S} {x pe goal : Nat} {w : Nat → Int32} {f : Nat → Nat → Int32} (hpe : pe ≤ 10) (hx : 229 ≤ x) (hg : goal < pe) (hw : ∀ p q, p < pe → q < pe → 0 < f p q → w q < w p) : ∀ (m k : Nat) (σ : qx_S), m + (k + 1) = pe → cS2 σ0 σ x pe goal w f → qx_K G qc_T 1 RX7 YX7_countSteps 14 [.ref 21, .int (nI pe), .int (nI goal), .ref x, .int (nI k), .retAddr 0, .retAddr 0] [] σ (fun r s => r = none ∧ cS2 σ0 s x pe goal w f) := by
  intro m
  induction m with
  | zero =>
    intro k σ hk hI
    refine qy_wp_ok (c := CX7_countSteps) (cuts := [14, 27]) vX7_countSteps wX7_countSteps 2000 14 _ _ _ ?_
    refine Exists.intro (nI 1) (And.intro rfl ?_)
    refine Exists.intro (nI (k + 1)) (And.intro (nI_add _ _) ?_)
    refine And.intro (fun h19 => ?_) (fun h19 => ?_)
    · skip
      have h19 := nI_leT (a := pe) (b := k + 1) (by omega) (by omega) h19
      exact ⟨rfl, hI⟩
    · skip
      have h19 := nI_leF (a := pe) (b := k + 1) (by omega) (by omega) h19
      exact absurd h19 (by omega)
  | succ m ih =>
    intro k σ hk hI
    have k92 : ∀ s, cS2 σ0 s x pe goal w f → qx_K G qc_T 1 RX7 YX7_countSteps 92 [.ref 21, .int (nI pe), .int (nI goal), .ref x, .int (nI k), .retAddr 0, .retAddr 0] [] s (fun r s => r = none ∧ cS2 σ0 s x pe goal w f) := by
      intro s hs
      refine qy_wp_ok (c := CX7_countSteps) (cuts := [14]) vX7_countSteps wX7_countSteps 2000 92 _ _ _ ?_
      refine Exists.intro (nI (k + 1)) (And.intro (nI_add _ _) ?_)
      exact ih (k + 1) _ (by omega) hs
    refine qy_wp_ok (c := CX7_countSteps) (cuts := [14, 27]) vX7_countSteps wX7_countSteps 2000 14 _ _ _ ?_
    refine Exists.intro (nI 1) (And.intro rfl ?_)
    refine Exists.intro (nI (k + 1)) (And.intro (nI_add _ _) ?_)
    refine And.intro (fun h19 => ?_) (fun h19 => ?_)
    · skip
      have h19 := nI_leT (a := pe) (b := k + 1) (by omega) (by omega) h19
      exact absurd h19 (by omega)
    · skip
      have h19 := nI_leF (a := pe) (b := k + 1) (by omega) (by omega) h19
      refine Exists.intro (nI 1) (And.intro rfl ?_)
      refine Exists.intro (nI (goal + 1)) (And.intro (nI_add _ _) ?_)
      exact l_cs2 hpe hx hg (by omega) hw k92 (pe - (goal + 1)) (goal + 1) _ (by omega) hI
theorem c_countSteps {G : qx_G} {σ : qx_S} {x pe goal : Nat} {w : Nat → Int32} {f : Nat → Nat → Int32} (hpe : pe ≤ 10) (hx : 229 ≤ x) (hg : goal < pe) (hw : ∀ p q, p < pe → q < pe → 0 < f p q → w q < w p) (hs : qx_sh qc_T σ x = (0, 10)) (hf : ∀ p q, p < 10 → q < 10 → qx_mi σ 24 (p * 10 + q) = f p q) : qx_M G qc_T 1 YX7_countSteps [.ref 21, .int (nI pe), .int (nI goal), .ref x] σ (fun r s => r = none ∧ cS2 σ s x pe goal w f) := by
  have fin : ∀ s1 s2, ql [(x, none)] σ s1 → (∀ j, j < 10 → qx_mi s1 x j = nI 1000) → s2 = qx_wi s1 x goal (nI 0) → cS2 σ s2 x pe goal w f := by
    intro s1 s2 f1 h1 e2
    have i1 : cS2 σ s1 x pe goal w f := ⟨f1, (f1.s _).trans hs, fun p q hp hq => (f1.i _ _ (pL_ne (by simp; omega))).trans (hf p q hp hq), fun p hp => ⟨1000, h1 p hp, by omega, fun _ z => absurd rfl z⟩⟩
    exact i1.up hx e2 (by omega) (fun _ _ => Or.inl rfl)
  refine qx_M_in rfl (Nat.le_of_ble_eq_true rfl) ?_
  refine qy_wp_ok (c := CX7_countSteps) (cuts := [14]) vX7_countSteps wX7_countSteps 2000 0 _ _ _ ?_
  refine Exists.intro (nI 1000) (And.intro rfl ?_)
  refine Exists.intro _ (And.intro (by decide) (qx_M_mono (c_fill (N := 10) hs (by decide)) ?_))
  rintro _ σ1 ⟨rfl, fσ1, gσ1⟩
  refine Exists.intro (nI 0) (And.intro rfl ?_)
  obtain ⟨σ2, eσ2⟩ : ∃ zs, zs = (qx_wi σ1 x goal (nI 0)) := ⟨_, rfl⟩
  have fσ2 := qn_wi eσ2
  refine Exists.intro (goal) (Exists.intro σ2 (And.intro rfl (And.intro ⟨10, (fσ1.s _).trans (hs), by omega, by decide⟩ (And.intro eσ2.symm ?_))))
  refine Exists.intro (nI 0) (And.intro rfl ?_)
  exact l_cs1 hpe hx hg hw (pe - 1) 0 _ (by omega) (fin _ _ fσ1 gσ1 eσ2)
theorem l_rl {G : qx_G} {σ0 σ : qx_S} {x pe b : Nat} {w : Nat → Int32} {f : Nat → Nat → Int32} (hpe : pe ≤ 10) (hb : b < pe) (hw : ∀ p q, p < pe → q < pe → 0 < f p q → w q < w p) (hI : cS2 σ0 σ x pe b w f) : ∀ (m k : Nat), m + k = pe → b < k → qx_K G qc_T 1 RX7 YX7_ringLength 10 [.ref 21, .int (nI pe), .int (nI b), .ref x, .int (nI 1000), .int (nI k)] [] σ (qr (nI 1000) σ) := by
  intro m
  induction m with
  | zero =>
    intro k hk hbk
    obtain rfl : k = pe := by omega
    refine qy_wp_ok (c := CX7_ringLength) (cuts := [10]) vX7_ringLength wX7_ringLength 2000 10 _ _ _ ?_
    refine And.intro (fun h13 => ?_) (fun h13 => ?_)
    · skip
      have h13 := nI_leT (a := k) (b := k) (by omega) (by omega) h13
      exact ⟨rfl, rfl⟩
    · skip
      have h13 := nI_leF (a := k) (b := k) (by omega) (by omega) h13
      exact absurd h13 (by omega)
  | succ m ih =>
    intro k hk hbk
    obtain ⟨v, a1, b1, c1⟩ := hI.2.2.2 k (by omega)
    have hmin : 0 < f b k → ¬ nI (v + 1) < nI 1000 := by
      intro h
      have h2 := hw b k hb (by omega) h
      have : v = 1000 := by
        apply Classical.byContradiction
        intro hv
        rcases c1 (by omega) hv with z | z
        · omega
        · exact Int32.lt_irrefl (Int32.lt_trans z h2)
      rw [this]
      decide
    refine qy_wp_ok (c := CX7_ringLength) (cuts := [10]) vX7_ringLength wX7_ringLength 2000 10 _ _ _ ?_
    refine And.intro (fun h13 => ?_) (fun h13 => ?_)
    · skip
      have h13 := nI_leT (a := pe) (b := k) (by omega) (by omega) h13
      exact absurd h13 (by omega)
    · skip
      have h13 := nI_leF (a := pe) (b := k) (by omega) (by omega) h13
      refine And.intro rfl (Exists.intro _ (And.intro (by decide) (qx_M_mono (c_isDebt (hI.2.2.1 b k (by omega) (by omega)) (by omega) (by omega)) ?_)))
      rintro _ _ ⟨rfl, rfl⟩
      refine And.intro (fun h23 => ?_) (fun h23 => ?_)
      · skip
        have h23 := bI_f h23
        refine Exists.intro (nI (k + 1)) (And.intro (nI_add _ _) ?_)
        exact ih (k + 1) (by omega) (by omega)
      · skip
        have h23 := bI_t h23
        refine Exists.intro (k) (Exists.intro (nI v) (And.intro rfl (And.intro ⟨10, hI.2.1, by omega, by decide⟩ (And.intro a1 ?_))))
        refine Exists.intro (nI 1) (And.intro rfl ?_)
        refine Exists.intro (nI (v + 1)) (And.intro (nI_add _ _) ?_)
        refine Exists.intro (nI 1000) (And.intro (if_neg (hmin (of_decide_eq_true h23))) ?_)
        refine Exists.intro (nI (k + 1)) (And.intro (nI_add _ _) ?_)
        exact ih (k + 1) (by omega) (by omega)
theorem c_ringLength {G : qx_G} {σ0 σ : qx_S} {x pe b : Nat} {w : Nat → Int32} {f : Nat → Nat → Int32} (hpe : pe ≤ 10) (hb : b < pe) (hw : ∀ p q, p < pe → q < pe → 0 < f p q → w q < w p) (hI : cS2 σ0 σ x pe b w f) : qx_M G qc_T 1 YX7_ringLength [.ref 21, .int (nI pe), .int (nI b), .ref x] σ (qr (nI 1000) σ) := by
  refine qx_M_in rfl (Nat.le_of_ble_eq_true rfl) ?_
  refine qy_wp_ok (c := CX7_ringLength) (cuts := [10]) vX7_ringLength wX7_ringLength 2000 0 _ _ _ ?_
  refine Exists.intro (nI 1000) (And.intro rfl ?_)
  refine Exists.intro (nI 1) (And.intro rfl ?_)
  refine Exists.intro (nI (b + 1)) (And.intro (nI_add _ _) ?_)
  exact l_rl hpe hb hw hI (pe - (b + 1)) (b + 1) (by omega) (by omega)
theorem l_findRing {G : qx_G} {σ0 : qx_S} {x y pe : Nat} {w : Nat → Int32} {f : Nat → Nat → Int32} (hpe : pe ≤ 10) (hx : 229 ≤ x) (hw : ∀ p q, p < pe → q < pe → 0 < f p q → w q < w p) : ∀ (m k : Nat) (σ : qx_S), m + k = pe → ql [(x, none)] σ0 σ → qx_sh qc_T σ x = (0, 10) → (∀ p q, p < 10 → q < 10 → qx_mi σ 24 (p * 10 + q) = f p q) → qx_K G qc_T 2 RX7 YX7_findRing 11 [.ref 21, .int (nI pe), .ref x, .ref y, .int (nI 1000), .int (nI 0), .int (nI k), .retAddr 0] [] σ (fun r s => r = some (.int (nI 0)) ∧ ql [(x, none)] σ0 s) := by
  intro m
  induction m with
  | zero =>
    intro k σ hk h1 h2 h3
    obtain rfl : k = pe := by omega
    refine qy_wp_ok (c := CX7_findRing) (cuts := [11]) vX7_findRing wX7_findRing 2000 11 _ _ _ ?_
    refine And.intro (fun h14 => ?_) (fun h14 => ?_)
    · skip
      have h14 := nI_leT (a := k) (b := k) (by omega) (by omega) h14
      refine Exists.intro (nI 1000) (And.intro rfl ?_)
      refine And.intro (fun h61 => ?_) (fun h61 => ?_)
      · skip
        exact absurd h61 (by decide)
      · skip
        refine Exists.intro (nI 0) (And.intro rfl ?_)
        exact ⟨rfl, h1⟩
    · skip
      have h14 := nI_leF (a := k) (b := k) (by omega) (by omega) h14
      exact absurd h14 (by omega)
  | succ m ih =>
    intro k σ hk h1 h2 h3
    refine qy_wp_ok (c := CX7_findRing) (cuts := [11]) vX7_findRing wX7_findRing 2000 11 _ _ _ ?_
    refine And.intro (fun h14 => ?_) (fun h14 => ?_)
    · skip
      have h14 := nI_leT (a := pe) (b := k) (by omega) (by omega) h14
      exact absurd h14 (by omega)
    · skip
      have h14 := nI_leF (a := pe) (b := k) (by omega) (by omega) h14
      refine And.intro rfl (Exists.intro _ (And.intro (by decide) (qx_M_mono (c_countSteps hpe hx (by omega) hw h2 h3) ?_)))
      rintro _ ρ ⟨rfl, hρ⟩
      refine And.intro rfl (Exists.intro _ (And.intro (by decide) (qx_M_mono (c_ringLength hpe (by omega) hw hρ) ?_)))
      rintro _ _ ⟨rfl, rfl⟩
      refine And.intro (fun h39 => ?_) (fun h39 => ?_)
      · skip
        refine Exists.intro (nI (k + 1)) (And.intro (nI_add _ _) ?_)
        refine qx_K_le (ls := [.ref 21, .int (nI pe), .ref x, .ref y, .int (nI 1000), .int (nI 0), .int (nI (k + 1)), .retAddr 0]) ⟨Or.inr rfl, Or.inr rfl, Or.inr rfl, Or.inr rfl, Or.inr rfl, Or.inr rfl, Or.inr rfl, Or.inl rfl, trivial⟩ ?_
        exact ih (k + 1) _ (by omega) (h1.tr hρ.1) hρ.2.1 hρ.2.2.1
      · skip
        exact absurd (by decide) h39
theorem c_findRing {G : qx_G} {σ : qx_S} {x y pe : Nat} {w : Nat → Int32} {f : Nat → Nat → Int32} (hpe : pe ≤ 10) (hx : 229 ≤ x) (hw : ∀ p q, p < pe → q < pe → 0 < f p q → w q < w p) (hs : qx_sh qc_T σ x = (0, 10)) (hf : ∀ p q, p < 10 → q < 10 → qx_mi σ 24 (p * 10 + q) = f p q) : qx_M G qc_T 2 YX7_findRing [.ref 21, .int (nI pe), .ref x, .ref y] σ (fun r s => r = some (.int (nI 0)) ∧ ql [(x, none)] σ s) := by
  refine qx_M_in rfl (Nat.le_of_ble_eq_true rfl) ?_
  refine qy_wp_ok (c := CX7_findRing) (cuts := [11]) vX7_findRing wX7_findRing 2000 0 _ _ _ ?_
  refine Exists.intro (nI 1000) (And.intro rfl ?_)
  refine Exists.intro (nI 0) (And.intro rfl ?_)
  refine Exists.intro (nI 0) (And.intro rfl ?_)
  exact l_findRing hpe hx hw pe 0 _ (by omega) qf.rf hs hf
/-- more memory, and nothing else -/
def qe (σ s : qx_S) : Prop := σ.1 ≤ s.1 ∧ (∀ a, a < σ.1 → s.2.2.1 a = σ.2.2.1 a) ∧ ∀ a j, a < σ.1 → qx_mr s a j = qx_mr σ a j ∧ qx_mi s a j = qx_mi σ a j ∧ qx_ml s a j = qx_ml σ a j
theorem qe.sv {σ s : qx_S} (h : qe σ s) {a : Nat} (ha : a < σ.1) : qx_sh qc_T s a = qx_sh qc_T σ a := by
  unfold qx_sh
  rw [h.2.1 a ha]
theorem qe.r {σ s : qx_S} (h : qe σ s) {a j : Nat} (ha : a < σ.1) : qx_mr s a j = qx_mr σ a j := (h.2.2 a j ha).1
theorem qe.i {σ s : qx_S} (h : qe σ s) {a j : Nat} (ha : a < σ.1) : qx_mi s a j = qx_mi σ a j := (h.2.2 a j ha).2.1
theorem qe.tr {a b c : qx_S} (h : qe a b) (k : qe b c) : qe a c :=
  ⟨Nat.le_trans h.1 k.1, fun x hx => (k.2.1 x (Nat.lt_of_lt_of_le hx h.1)).trans (h.2.1 x hx), fun x j hx => ⟨(k.2.2 x j (Nat.lt_of_lt_of_le hx h.1)).1.trans (h.2.2 x j hx).1, (k.2.2 x j (Nat.lt_of_lt_of_le hx h.1)).2.1.trans (h.2.2 x j hx).2.1, (k.2.2 x j (Nat.lt_of_lt_of_le hx h.1)).2.2.trans (h.2.2 x j hx).2.2⟩⟩
theorem qe.al {σ s : qx_S} {q : Nat × Nat} {n : Nat} (e : s = qx_al σ q n) : qe σ s := by
  rw [e]
  exact ⟨Nat.le_succ _, fun a ha => qa_d ha, fun a j ha => ⟨qa_r ha, qa_i ha, qa_l ha⟩⟩
/-- cells behind what was there -/
theorem qe.hi {a b c : qx_S} {x : Nat} (h : qe a b) (f : ql [(x, none)] b c) (hx : a.1 ≤ x) : qe a c := by
  refine ⟨by rw [f.1]; exact h.1, fun y hy => by rw [f.2.2.1]; exact h.2.1 y hy, fun y j hy => ⟨(f.r _ _).trans (h.2.2 y j hy).1, (f.i _ _ (pL_ne (by simp; omega))).trans (h.2.2 y j hy).2.1, (f.l _ _ (pL_ne (by simp; omega))).trans (h.2.2 y j hy).2.2⟩⟩
theorem cI.ge {σ s : qx_S} {S : qS} {rf : Option qR} {e : Nat} (h : cI σ S rf e) (f : qe σ s) : cI s S rf e := by
  obtain ⟨a1, a2, a3, a4, a5, a6, a7, a8, a9⟩ := h
  have i : ∀ a j, a < 229 → qx_mi s a j = qx_mi σ a j := fun a j ha => f.i (by omega)
  have r : ∀ a j, a < 229 → qx_mr s a j = qx_mr σ a j := fun a j ha => f.r (by omega)
  have f1 := f.1
  refine ⟨a1, a2.fb a1.1.1 a1.b12 (fun y j h1 h2 => i _ _ (by omega)), ?_, (r _ _ (by omega)).trans a4, ?_, ?_, ⟨(i _ _ (by omega)).trans a7.1, a7.2.1, (i _ _ (by omega)).trans a7.2.2.1, fun p a q hp ha hq => ?_⟩, ?_, by omega⟩
  · obtain ⟨b1, b2, b3, b4, b5, b6, b7, b8, b9⟩ := a3
    refine ⟨rfl, b2, b3, rfl, b5, rfl, rfl, fun i hi => ⟨(r _ _ (by omega)).trans (b8 i hi).1, ?_⟩, fun i hi => ⟨(r _ _ (by omega)).trans (b9 i hi).1, ?_⟩⟩
    · have w := (b8 i hi).2
      exact ⟨(f.sv (by omega)).trans w.1, (f.sv (by omega)).trans w.2.1, (f.sv (by omega)).trans w.2.2.1, (f.sv (by omega)).trans w.2.2.2.1, (f.sv (by omega)).trans w.2.2.2.2⟩
    · have w := (b9 i hi).2
      exact ⟨(f.sv (by omega)).trans w.1, (f.sv (by omega)).trans w.2⟩
  · cases rf with
    | none => exact (r _ _ (by omega)).trans a5
    | some R =>
      obtain ⟨x, h1, h2, h3, h4, h5⟩ := a5
      have h2b := h2.2
      exact ⟨x, (r _ _ (by omega)).trans h1, ⟨h2.1, by omega⟩, uR.sh h3 (fun y _ hy => f.sv (by omega)), h4.lo (fun y hy hy2 j => f.i (by omega)), h5⟩
  · rw [show qx_mr s 156 7 = qx_mr σ 156 7 from r _ _ (by omega)]
    rcases a6 with ⟨a, b⟩ | ⟨g, nr, x, c1, c2, c3, c4, c5, c6⟩
    · exact Or.inl ⟨a, (i _ _ (by omega)).trans b⟩
    · exact Or.inr ⟨g, nr, x, c1, (i _ _ (by omega)).trans c2, (i _ _ (by omega)).trans c3, c4, c5, (r _ _ (by omega)).trans c6⟩
  · obtain ⟨v, w1, w2⟩ := a7.2.2.2 p a q hp ha hq
    exact ⟨v, (i _ _ (by omega)).trans w1, w2⟩
  · rcases a8 with t1 | ⟨t, t1⟩
    · exact Or.inl ((r _ _ (by omega)).trans t1)
    · refine Or.inr ⟨t, (r _ _ (by omega)).trans t1.1, t1.2.1, by have := t1.2.2.1; omega, (f.sv t1.2.2.1).trans t1.2.2.2.1, fun i j x y hi hj hx hy => ?_⟩
      obtain ⟨v, w1, w2⟩ := t1.2.2.2.2 i j x y hi hj hx hy
      exact ⟨v, (f.i t1.2.2.1).trans w1, w2⟩
theorem c_strikeRings {G : qx_G} {σ : qx_S} {pe : Nat} {w : Nat → Int32} {f : Nat → Nat → Int32} (hpe : pe ≤ 10) (h9 : 229 ≤ σ.1) (hw : ∀ p q, p < pe → q < pe → 0 < f p q → w q < w p) (hf : ∀ p q, p < 10 → q < 10 → qx_mi σ 24 (p * 10 + q) = f p q) : qx_M G qc_T 3 YX7_strikeRings [.ref 21, .int (nI pe)] σ (fun r s => r = some (.int (nI 0)) ∧ qe σ s ∧ s.1 = σ.1 + 2 ∧ s.2.1 = σ.2.1 + 20 ∧ s.2.2.2.2.2 156 = σ.2.2.2.2.2 156 ∧ s.2.2.2.2.2 3 = σ.2.2.2.2.2 3) := by
  obtain ⟨x, ex⟩ : ∃ x, x = σ.1 := ⟨_, rfl⟩
  obtain ⟨s1, e1⟩ : ∃ s1, s1 = qx_al σ (0, 10) 10 := ⟨_, rfl⟩
  obtain ⟨y, ey⟩ : ∃ y, y = s1.1 := ⟨_, rfl⟩
  obtain ⟨s2, e2⟩ : ∃ s2, s2 = qx_al s1 (0, 10) 10 := ⟨_, rfl⟩
  have n1 : s1.1 = σ.1 + 1 := by rw [e1]; rfl
  have n2 : s2.1 = σ.1 + 2 := by rw [e2]; exact congrArg (· + 1) n1
  have q1 := qe.al e1
  have q2 := qe.al e2
  have q := q1.tr q2
  have sx : qx_sh qc_T s2 x = (0, 10) := by
    rw [q2.sv (by omega), e1, ex]
    exact qa_s (n := 10) h9
  have hf2 : ∀ p q, p < 10 → q < 10 → qx_mi s2 24 (p * 10 + q) = f p q := fun p k hp hk => (q.i (by omega)).trans (hf p k hp hk)
  refine qx_M_in rfl (Nat.le_of_ble_eq_true rfl) ?_
  refine qy_wp_ok (c := CX7_strikeRings) (cuts := []) vX7_strikeRings wX7_strikeRings 2000 0 _ _ _ ?_
  refine Exists.intro (nI 0) (And.intro rfl ?_)
  refine Exists.intro (nI 10) (And.intro rfl ?_)
  refine Exists.intro 10 (Exists.intro x (Exists.intro s1 (And.intro rfl (And.intro (by decide) (And.intro ex.symm (And.intro e1.symm ?_))))))
  refine Exists.intro (nI 10) (And.intro rfl ?_)
  refine Exists.intro 10 (Exists.intro y (Exists.intro s2 (And.intro rfl (And.intro (by decide) (And.intro ey.symm (And.intro e2.symm ?_))))))
  refine Exists.intro (nI 0) (And.intro rfl ?_)
  refine Exists.intro (nI 100) (And.intro rfl ?_)
  refine And.intro (fun h20 => ?_) (fun h20 => ?_)
  · skip
    exact absurd h20 (by decide)
  · skip
    refine And.intro rfl (Exists.intro _ (And.intro (by decide) (qx_M_mono (c_findRing hpe (by omega) hw sx hf2) ?_)))
    rintro _ ρ ⟨rfl, fρ⟩
    refine Exists.intro (nI 2) (And.intro rfl ?_)
    refine And.intro (fun h36 => ?_) (fun h36 => ?_)
    · skip
      exact absurd h36 (by decide)
    · skip
      refine ⟨rfl, q.hi fρ (by omega), by rw [fρ.1]; exact n2, by rw [fρ.2.1, e2, e1]; rfl, by rw [fρ.2.2.2.1]; exact funext fun j => q.r (by omega), by rw [fρ.2.2.2.1]; exact funext fun j => q.r (by omega)⟩
theorem c_strike_no {G : qx_G} {σ : qx_S} {S : qS} {rf : Option qR} {e : Nat} (hI : cI σ S rf e) (e0 : s_n S 0 = 0) : qx_M G qc_T 4 YX11_strike [.ref 3] σ (qr (-1) σ) := by
  refine qx_M_in rfl (Nat.le_of_ble_eq_true rfl) ?_
  refine qy_wp_ok (c := CX11_strike) (cuts := []) vX11_strike wX11_strike 2000 0 _ _ _ ?_
  refine And.intro rfl (Exists.intro _ (And.intro (by decide) (qx_M_mono (c_hasCountry hI.2.1.1 hI.1.1.2.1.1.1 hI.1.1.2.1.1.2) ?_)))
  rintro _ _ ⟨rfl, rfl⟩
  refine And.intro (fun h4 => ?_) (fun h4 => ?_)
  · skip
    have h4 := bI_t h4
    exact absurd (h4.symm.trans (decide_eq_false (by omega))) (by decide)
  · skip
    have h4 := bI_f h4
    refine Exists.intro ((-1)) (And.intro (by decide) ?_)
    exact ⟨rfl, rfl⟩
theorem c_strike_ok {G : qx_G} {σ : qx_S} {S : qS} {rf : Option qR} {e : Nat} (hI : cI σ S rf e) (he : e + 1 ≤ 1000) (h0 : 0 < s_n S 0) (hW : iW S) : qx_M G qc_T 4 YX11_strike [.ref 3] σ (fun r s => r = some (.int (nI 0)) ∧ (∃ s1, qe σ s1 ∧ s1.1 = σ.1 + 2 ∧ s1.2.1 = σ.2.1 + 20 ∧ ql [(156, some 8)] s1 s) ∧ cI s S rf (e + 1)) := by
  have hpe := hI.1.pe
  have key := c_strikeRings (G := G) (pe := s_n S 1) (w := fun p => S (10 + 5 * p + 1)) (f := fun p q => S (154 + 10 * p + q)) hpe hI.2.2.2.2.2.2.2.2 (fun p q hp hq h => hW p q hp hq h) (fun p q hp hq => hI.ow hp hq)
  refine qx_M_in rfl (Nat.le_of_ble_eq_true rfl) ?_
  refine qy_wp_ok (c := CX11_strike) (cuts := []) vX11_strike wX11_strike 2000 0 _ _ _ ?_
  refine And.intro rfl (Exists.intro _ (And.intro (by decide) (qx_M_mono (c_hasCountry hI.2.1.1 hI.1.1.2.1.1.1 hI.1.1.2.1.1.2) ?_)))
  rintro _ _ ⟨rfl, rfl⟩
  refine And.intro (fun h4 => ?_) (fun h4 => ?_)
  · skip
    have h4 := bI_t h4
    refine And.intro rfl (Exists.intro 15 (And.intro rfl ?_))
    refine And.intro rfl (Exists.intro 21 (And.intro rfl ?_))
    refine And.intro rfl (Exists.intro 15 (And.intro rfl ?_))
    refine And.intro rfl (Exists.intro 16 (And.intro rfl ?_))
    refine And.intro rfl (Exists.intro 5 (Exists.intro (nI (s_n S 1)) (And.intro rfl (And.intro (hI.2.1.1.2.1.trans hI.1.1.2.1.2.1.1) ?_))))
    refine And.intro rfl (Exists.intro _ (And.intro (by decide) (qx_M_mono (key) ?_)))
    rintro _ ρ ⟨rfl, fρ, aρ, bρ, -, -⟩
    refine And.intro rfl (Exists.intro _ (And.intro (by decide) (qx_M_mono (c_stirS (hI.ge fρ).K.1 (hI.ge fρ).2.2.2.2.2.1) ?_)))
    rintro _ μ ⟨rfl, fμ, gμ⟩
    exact ⟨rfl, ⟨ρ, fρ, aρ, bρ, fμ⟩, (hI.ge fρ).up (l := []) qf.rf rfl gμ hI.1 (hI.ge fρ).2.1 he⟩
  · skip
    have h4 := bI_f h4
    exact absurd (h4.symm.trans (decide_eq_true h0)) (by decide)

