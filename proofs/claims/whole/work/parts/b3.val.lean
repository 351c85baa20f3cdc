/-! THE CLASS: where reading stands; values, sums -/
def cT (σ : qx_S) (T : q_T) (p : Nat) : Prop := tC σ T ∧ ∃ n j, j < n ∧ mTk σ T n ∧ q_tkn T (n - 1) = T.1 ∧ (∀ j', j' + 1 < n → q_tkn T j' < T.1) ∧ qx_mi σ 4 6 = nI j ∧ q_tkn T j = p
theorem pL_hi {l : List (Nat × Option Nat)} (hl : ∀ q, q ∈ l → 9 ≤ q.1) {x : Nat} (hx : x < 9) (j : Nat) : pL l x j = false := by
  cases h : pL l x j with
  | false => rfl
  | true =>
    exfalso
    obtain ⟨q, hq, h1⟩ := List.any_eq_true.mp h
    simp only [Bool.and_eq_true] at h1
    have e1 := Nat.eq_of_beq_eq_true h1.1
    have := hl q hq
    omega
theorem mTk.fr {σ s : qx_S} {T : q_T} {n : Nat} {l : List (Nat × Option Nat)} (h : mTk σ T n) (f : ql l σ s) (h1 : pL l 4 5 = false) (h2 : ∀ j, pL l 6 j = false) (h3 : ∀ j, pL l 7 j = false) (h4 : ∀ j, pL l 8 j = false) : mTk s T n := ⟨(f.i _ _ h1).trans h.1, h.2.1, fun j hj => ⟨(f.i _ _ (h2 j)).trans (h.2.2 j hj).1, (f.i _ _ (h3 j)).trans (h.2.2 j hj).2.1, (f.i _ _ (h4 j)).trans (h.2.2 j hj).2.2⟩⟩
theorem cT.fr {σ s : qx_S} {T : q_T} {p : Nat} {l : List (Nat × Option Nat)} (h : cT σ T p) (f : ql l σ s) (hl : ∀ q, q ∈ l → 9 ≤ q.1) : cT s T p := by
  obtain ⟨a, n, j, b1, b2, b3, b4, b5, b6⟩ := h
  exact ⟨a.fr f (pL_hi hl (by decide) _) (fun j => pL_hi hl (by decide) j), n, j, b1, b2.fr f (pL_hi hl (by decide) _) (fun j => pL_hi hl (by decide) j) (fun j => pL_hi hl (by decide) j) (fun j => pL_hi hl (by decide) j), b3, b4, (f.i _ _ (pL_hi hl (by decide) _)).trans b5, b6⟩
theorem cT.le {σ : qx_S} {T : q_T} {p : Nat} (h : cT σ T p) : p ≤ T.1 ∧ T.1 ≤ 400 ∧ ∀ k, k < T.1 → T.2 k < 256 := by
  obtain ⟨a, n, j, b1, b2, b3, b4, b5, b6⟩ := h
  refine ⟨?_, a.2.1, fun k hk => (a.2.2 k hk).2⟩
  rw [← b6]
  by_cases z : j + 1 < n
  · exact Nat.le_of_lt (b4 j z)
  · have : j = n - 1 := by omega
    rw [this, b3]
    exact Nat.le_refl _
theorem q_kd_le {T : q_T} (hb : ∀ k, k < T.1 → T.2 k < 256) (p : Nat) : q_kd T p ≤ 999 := by
  rcases Nat.lt_or_ge p T.1 with z | z
  · have b := hb p z
    cases hl : isL T p with
    | true => rw [q_kd_L hl]; split <;> omega
    | false =>
      cases hd : isD T p with
      | true => rw [q_kd_D hd]; split <;> omega
      | false =>
        rw [(q_kd_S z hl hd).1]
        split
        · split <;> omega
        · omega
  · rw [(q_kd_E z).1]
    exact Nat.le_refl _
theorem c_kind {G : qx_G} {σ : qx_S} {T : q_T} {p : Nat} (h : cT σ T p) : qx_M G qc_T 0 YX9_kind [.ref 4] σ (qr (kI (q_kd T p)) σ) := by
  obtain ⟨a, n, j, b1, b2, b3, b4, b5, b6⟩ := h
  have n4 := b2.2.1
  have e6 := (b2.2.2 j b1).1
  rw [b6] at e6
  refine qx_M_in rfl (Nat.le_of_ble_eq_true rfl) ?_
  refine qy_wp_ok (c := CX9_kind) (cuts := []) vX9_kind wX9_kind 2000 0 _ _ _ ?_
  refine And.intro rfl (Exists.intro 6 (Exists.intro (nI j) (And.intro rfl (And.intro b5 ?_))))
  refine And.intro rfl (Exists.intro 5 (Exists.intro (nI n) (And.intro rfl (And.intro b2.1 ?_))))
  refine And.intro (fun h8 => ?_) (fun h8 => ?_)
  · skip
    have h8 := nI_leT (a := n) (b := j) (by omega) (by omega) h8
    exact absurd h8 (by omega)
  · skip
    have h8 := nI_leF (a := n) (b := j) (by omega) (by omega) h8
    refine And.intro rfl (Exists.intro 6 (And.intro rfl ?_))
    refine And.intro rfl (Exists.intro 6 (Exists.intro (nI j) (And.intro rfl (And.intro b5 ?_))))
    refine Exists.intro (j) (Exists.intro (kI (q_kd T p)) (And.intro rfl (And.intro ⟨401, rfl, by omega, by decide⟩ (And.intro e6 ?_))))
    exact ⟨rfl, rfl⟩
theorem c_kind_n {G : qx_G} {σ : qx_S} {T : q_T} {p : Nat} (h : cT σ T p) (hk : q_kd T p ≠ 999) : qx_M G qc_T 0 YX9_kind [.ref 4] σ (qr (nI (q_kd T p)) σ) := by
  have := c_kind (G := G) h
  rw [show kI (q_kd T p) = nI (q_kd T p) from if_neg hk] at this
  exact this
theorem c_kind_e {G : qx_G} {σ : qx_S} {T : q_T} {p : Nat} (h : cT σ T p) (hk : q_kd T p = 999) : qx_M G qc_T 0 YX9_kind [.ref 4] σ (qr (-1) σ) := by
  have := c_kind (G := G) h
  rw [show kI (q_kd T p) = -1 from if_pos hk] at this
  exact this
theorem c_number {G : qx_G} {σ : qx_S} {T : q_T} {p : Nat} (h : cT σ T p) : qx_M G qc_T 0 YX9_number [.ref 4] σ (qr (nI (q_tn T p)) σ) := by
  obtain ⟨a, n, j, b1, b2, b3, b4, b5, b6⟩ := h
  have n4 := b2.2.1
  have e8 := (b2.2.2 j b1).2.2
  rw [b6] at e8
  refine qx_M_in rfl (Nat.le_of_ble_eq_true rfl) ?_
  refine qy_wp_ok (c := CX9_number) (cuts := []) vX9_number wX9_number 2000 0 _ _ _ ?_
  refine And.intro rfl (Exists.intro 6 (Exists.intro (nI j) (And.intro rfl (And.intro b5 ?_))))
  refine And.intro rfl (Exists.intro 5 (Exists.intro (nI n) (And.intro rfl (And.intro b2.1 ?_))))
  refine And.intro (fun h8 => ?_) (fun h8 => ?_)
  · skip
    have h8 := nI_leT (a := n) (b := j) (by omega) (by omega) h8
    exact absurd h8 (by omega)
  · skip
    have h8 := nI_leF (a := n) (b := j) (by omega) (by omega) h8
    refine And.intro rfl (Exists.intro 8 (And.intro rfl ?_))
    refine And.intro rfl (Exists.intro 6 (Exists.intro (nI j) (And.intro rfl (And.intro b5 ?_))))
    refine Exists.intro (j) (Exists.intro (nI (q_tn T p)) (And.intro rfl (And.intro ⟨401, rfl, by omega, by decide⟩ (And.intro e8 ?_))))
    exact ⟨rfl, rfl⟩
theorem c_pass {G : qx_G} {σ : qx_S} {T : q_T} {p : Nat} (h : cT σ T p) (hk : q_kd T p ≠ 999) : qx_M G qc_T 0 YX9_pass [.ref 4] σ (fun r s => r = none ∧ ql [(4, some 6)] σ s ∧ cT s T (q_nx T p)) := by
  obtain ⟨a, n, j, b1, b2, b3, b4, b5, b6⟩ := h
  have n4 := b2.2.1
  have hj : j + 1 < n := by
    rcases Nat.lt_or_ge (j + 1) n with z | z
    · exact z
    · exfalso
      have : j = n - 1 := by omega
      rw [this, b3] at b6
      exact hk (q_kd_E (by omega)).1
  refine qx_M_in rfl (Nat.le_of_ble_eq_true rfl) ?_
  refine qy_wp_ok (c := CX9_pass) (cuts := []) vX9_pass wX9_pass 2000 0 _ _ _ ?_
  refine And.intro rfl (Exists.intro 6 (Exists.intro (nI j) (And.intro rfl (And.intro b5 ?_))))
  refine Exists.intro (nI 1) (And.intro rfl ?_)
  refine Exists.intro (nI (j + 1)) (And.intro (nI_add _ _) ?_)
  refine And.intro rfl (Exists.intro 5 (Exists.intro (nI n) (And.intro rfl (And.intro b2.1 ?_))))
  refine And.intro (fun h10 => ?_) (fun h10 => ?_)
  · skip
    have h10 := nI_leT (a := n) (b := j + 1) (by omega) (by omega) h10
    exact absurd h10 (by omega)
  · skip
    have h10 := nI_leF (a := n) (b := j + 1) (by omega) (by omega) h10
    refine And.intro rfl (Exists.intro 6 (Exists.intro (nI j) (And.intro rfl (And.intro b5 ?_))))
    refine Exists.intro (nI 1) (And.intro rfl ?_)
    refine Exists.intro (nI (j + 1)) (And.intro (nI_add _ _) ?_)
    obtain ⟨σ1, eσ1⟩ : ∃ zs, zs = (qx_wi σ 4 6 (nI (j + 1))) := ⟨_, rfl⟩
    have fσ1 := qn_wif eσ1
    refine And.intro rfl (Exists.intro 6 (Exists.intro σ1 (And.intro rfl (And.intro eσ1.symm ?_))))
    exact ⟨rfl, fσ1, a.fr fσ1 rfl (fun _ => rfl), n, j + 1, hj, b2.fr fσ1 rfl (fun _ => rfl) (fun _ => rfl) (fun _ => rfl), b3, b4, qn_eq eσ1, by show q_nx T (q_tkn T j) = _; rw [b6]⟩
theorem kI_ne {k c : Nat} (hk : k ≤ 999) (hc : c < 999) (h : k ≠ c) : kI k ≠ nI c := by
  unfold kI
  split
  · intro z
    have h2 := congrArg Int32.toInt z
    rw [nI_toInt (by omega)] at h2
    exact absurd h2 (by rw [show (-1 : Int32).toInt = -1 from rfl]; omega)
  · rw [Ne, nI_eq (by omega) (by omega)]
    exact h
theorem c_take_t {G : qx_G} {σ : qx_S} {T : q_T} {p k : Nat} (h : cT σ T p) (hk : q_kd T p = k) (hk9 : k < 999) : qx_M G qc_T 1 YX9_take [.ref 4, .int (nI k)] σ (fun r s => r = some (.int (bI true)) ∧ ql [(4, some 6)] σ s ∧ cT s T (q_nx T p)) := by
  have mk := c_kind_n (G := G) h (by omega)
  rw [hk] at mk
  refine qx_M_in rfl (Nat.le_of_ble_eq_true rfl) ?_
  refine qy_wp_ok (c := CX9_take) (cuts := [8]) vX9_take wX9_take 2000 0 _ _ _ ?_
  refine And.intro rfl (Exists.intro _ (And.intro (by decide) (qx_M_mono (mk) ?_)))
  rintro _ _ ⟨rfl, rfl⟩
  refine And.intro (fun h5 => ?_) (fun h5 => ?_)
  · skip
    have h5 := nI_eqT (a := k) (b := k) (by omega) (by omega) h5
    refine And.intro rfl (Exists.intro _ (And.intro (by decide) (qx_M_mono (c_pass h (by omega)) ?_)))
    rintro _ σ1 ⟨rfl, fσ1, aσ1⟩
    refine Exists.intro (nI 1) (And.intro rfl ?_)
    refine And.intro (Or.inr rfl) ?_
    exact ⟨rfl, fσ1, aσ1⟩
  · skip
    have h5 := nI_neT (a := k) (b := k) (by omega) (by omega) h5
    refine qx_K_le (ls := [.retAddr 0, .retAddr 0]) ⟨Or.inl rfl, Or.inl rfl, trivial⟩ ?_
    exact absurd rfl h5
theorem c_take_f {G : qx_G} {σ : qx_S} {T : q_T} {p k : Nat} (h : cT σ T p) (hk : q_kd T p ≠ k) (hk9 : k < 999) : qx_M G qc_T 1 YX9_take [.ref 4, .int (nI k)] σ (qr (bI false) σ) := by
  have ne := kI_ne (q_kd_le h.le.2.2 p) hk9 hk
  refine qx_M_in rfl (Nat.le_of_ble_eq_true rfl) ?_
  refine qy_wp_ok (c := CX9_take) (cuts := [10]) vX9_take wX9_take 2000 0 _ _ _ ?_
  refine And.intro rfl (Exists.intro _ (And.intro (by decide) (qx_M_mono (c_kind h) ?_)))
  rintro _ _ ⟨rfl, rfl⟩
  refine And.intro (fun h5 => ?_) (fun h5 => ?_)
  · skip
    refine qx_K_le (ls := [.ref 4, .retAddr 0]) ⟨Or.inr rfl, Or.inl rfl, trivial⟩ ?_
    exact absurd h5 ne
  · skip
    refine Exists.intro (nI 0) (And.intro rfl ?_)
    refine And.intro (Or.inl rfl) ?_
    exact ⟨rfl, rfl⟩
theorem c_fail {G : qx_G} {σ : qx_S} {T : q_T} {p w : Nat} (h : cT σ T p) : qx_M G qc_T 0 YX9_fail [.ref 4, .int (nI w)] σ (fun r s => r = some (.int (bI false)) ∧ ql [(4, some 7)] σ s ∧ qx_mi s 4 7 = nI (1 + 8 * p + w)) := by
  obtain ⟨a, n, j, b1, b2, b3, b4, b5, b6⟩ := h
  have n4 := b2.2.1
  have e7 := (b2.2.2 j b1).2.1
  rw [b6] at e7
  refine qx_M_in rfl (Nat.le_of_ble_eq_true rfl) ?_
  refine qy_wp_ok (c := CX9_fail) (cuts := []) vX9_fail wX9_fail 2000 0 _ _ _ ?_
  refine Exists.intro (nI 1) (And.intro rfl ?_)
  refine Exists.intro (nI 8) (And.intro rfl ?_)
  refine And.intro rfl (Exists.intro 6 (Exists.intro (nI j) (And.intro rfl (And.intro b5 ?_))))
  refine And.intro rfl (Exists.intro 5 (Exists.intro (nI n) (And.intro rfl (And.intro b2.1 ?_))))
  refine And.intro (fun h12 => ?_) (fun h12 => ?_)
  · skip
    have h12 := nI_leT (a := n) (b := j) (by omega) (by omega) h12
    exact absurd h12 (by omega)
  · skip
    have h12 := nI_leF (a := n) (b := j) (by omega) (by omega) h12
    refine And.intro rfl (Exists.intro 7 (And.intro rfl ?_))
    refine And.intro rfl (Exists.intro 6 (Exists.intro (nI j) (And.intro rfl (And.intro b5 ?_))))
    refine Exists.intro (j) (Exists.intro (nI p) (And.intro rfl (And.intro ⟨401, rfl, by omega, by decide⟩ (And.intro e7 ?_))))
    refine Exists.intro (nI (8 * p)) (And.intro (pk_mul _ _) ?_)
    refine Exists.intro (nI (1 + 8 * p)) (And.intro (nI_add _ _) ?_)
    refine Exists.intro (nI (1 + 8 * p + w)) (And.intro (nI_add _ _) ?_)
    obtain ⟨σ1, eσ1⟩ : ∃ zs, zs = (qx_wi σ 4 7 (nI (1 + 8 * p + w))) := ⟨_, rfl⟩
    have fσ1 := qn_wif eσ1
    refine And.intro rfl (Exists.intro 7 (Exists.intro σ1 (And.intro rfl (And.intro eσ1.symm ?_))))
    refine Exists.intro (nI 0) (And.intro rfl ?_)
    refine And.intro (Or.inl rfl) ?_
    exact ⟨rfl, fσ1, qn_eq eσ1⟩
/-- what may change while a rule at a is read -/
def pA (a x j : Nat) : Bool := decide (x = a + 1) || decide (x = a ∧ j ≠ 6) || pL [(4, some 6), (4, some 7)] x j
abbrev fA (a : Nat) (σ σ' : qx_S) : Prop := qf (pA a) σ σ'
theorem fA.of {a : Nat} {σ σ' : qx_S} {l : List (Nat × Option Nat)} (f : ql l σ σ') (h : ∀ q, q ∈ l → q.1 = a + 1 ∨ (q.1 = a ∧ ∃ k, q.2 = some k ∧ k ≠ 6) ∨ q = (4, some 6) ∨ q = (4, some 7)) : fA a σ σ' := by
  refine qf.mono f (fun x j hx => ?_)
  cases hl : pL l x j with
  | false => rfl
  | true =>
    exfalso
    obtain ⟨q, hq, h1⟩ := List.any_eq_true.mp hl
    simp only [Bool.and_eq_true] at h1
    have e1 := Nat.eq_of_beq_eq_true h1.1
    unfold pA at hx
    rw [Bool.or_eq_false_iff, Bool.or_eq_false_iff] at hx
    obtain ⟨⟨x1, x2⟩, x3⟩ := hx
    have x1 := of_decide_eq_false x1
    have x2 := of_decide_eq_false x2
    obtain ⟨q1, q2⟩ := q
    have e1 : q1 = x := e1
    subst e1
    rcases h _ hq with y | ⟨y, k, y2, y3⟩ | y | y
    · exact x1 y
    · have y2 : q2 = some k := y2
      subst y2
      have e2 : Nat.beq k j = true := h1.2
      have e2 := Nat.eq_of_beq_eq_true e2
      exact x2 ⟨y, by omega⟩
    · cases y
      have e2 : Nat.beq 6 j = true := h1.2
      have e2 := Nat.eq_of_beq_eq_true e2
      subst e2
      exact absurd x3 (by decide)
    · cases y
      have e2 : Nat.beq 7 j = true := h1.2
      have e2 := Nat.eq_of_beq_eq_true e2
      subst e2
      exact absurd x3 (by decide)
/-- asks for what grows -/
def q_gw (c : Nat → Nat) : Nat → Bool
  | 0 => false
  | n + 1 => q_gw c n || decide (c n = 100009 ∨ c n = 100011)
theorem q_gw_cg {c c' : Nat → Nat} : ∀ n, (∀ i, i < n → c' i = c i) → q_gw c' n = q_gw c n
  | 0, _ => rfl
  | n + 1, h => by
    show (q_gw c' n || _) = (q_gw c n || _)
    rw [q_gw_cg n (fun i hi => h i (by omega)), h n (by omega)]
/-- a rule at a is being read -/
def uP (σ : qx_S) (a : Nat) (T : q_T) (s : q_P) : Prop := cT σ T s.1 ∧ qx_mi σ a 5 = nI s.2.1 ∧ qx_mi σ a 7 = nI s.2.2.2 ∧ s.2.2.2 ≤ 60 ∧ (∀ i, i < s.2.1 → qx_mi σ (a + 1) i = nI (s.2.2.1 i)) ∧ qx_mi σ a 8 = bI (q_gw s.2.2.1 s.2.1)
/-- the shapes of a rule's cells -/
def shR (σ : qx_S) (a : Nat) : Prop := 9 ≤ a ∧ qx_sh qc_T σ a = (13, 0) ∧ qx_sh qc_T σ (a + 1) = (0, 400) ∧ qx_sh qc_T σ (a + 2) = (2, 12) ∧ qx_sh qc_T σ (a + 3) = (0, 12) ∧ qx_sh qc_T σ (a + 4) = (0, 12) ∧ qx_sh qc_T σ (a + 5) = (0, 12)
theorem shR.fr {σ s : qx_S} {a : Nat} {P : Nat → Nat → Bool} (h : shR σ a) (f : qf P σ s) : shR s a := ⟨h.1, (f.s _).trans h.2.1, (f.s _).trans h.2.2.1, (f.s _).trans h.2.2.2.1, (f.s _).trans h.2.2.2.2.1, (f.s _).trans h.2.2.2.2.2.1, (f.s _).trans h.2.2.2.2.2.2⟩
theorem uP.to {σ s' : qx_S} {a : Nat} {T : q_T} {s : q_P} {p : Nat} (h : uP σ a T s) (ha : 9 ≤ a) (f : ql [(4, some 6)] σ s') (hc : cT s' T p) : uP s' a T (p, s.2) := by
  have n4 : ∀ j, ∀ k, k < 6 → pL [(4, some 6)] (a + k) j = false := by
    intro j k hk
    unfold pL
    simp only [List.any_cons, List.any_nil, Bool.or_false]
    rw [Bool.and_eq_false_iff]
    left
    cases hz : Nat.beq 4 (a + k) with
    | false => rfl
    | true => exact absurd (Nat.eq_of_beq_eq_true hz) (by omega)
  obtain ⟨-, b, c, d, e, g⟩ := h
  exact ⟨hc, (f.i a _ (n4 _ 0 (by decide))).trans b, (f.i a _ (n4 _ 0 (by decide))).trans c, d, fun i hi => (f.i _ _ (n4 _ 1 (by decide))).trans (e i hi), (f.i a _ (n4 _ 0 (by decide))).trans g⟩
theorem uP.em {σ σ1 σ2 : qx_S} {a c : Nat} {T : q_T} {s : q_P} (h : uP σ a T s) (ha : 9 ≤ a) (hg : ¬ (c = 100009 ∨ c = 100011)) (e1 : σ1 = qx_wi σ (a + 1) s.2.1 (nI c)) (e2 : σ2 = qx_wi σ1 a 5 (nI (s.2.1 + 1))) : uP σ2 a T (q_em c s) := by
  obtain ⟨b0, b1, b2, b3, b4, b5⟩ := h
  refine ⟨(b0.fr (qn_wi e1) (by simp; omega)).fr (qn_wif e2) (by simp; omega), qn_eq e2, (qn_ne e2 (Or.inr (by decide))).trans ((qn_ne e1 (Or.inl (by omega))).trans b2), b3, fun i hi => ?_, (qn_ne e2 (Or.inr (by decide))).trans ((qn_ne e1 (Or.inl (by omega))).trans (b5.trans ?_))⟩
  · have hi : i < s.2.1 + 1 := hi
    refine (qn_ne e2 (Or.inl (by omega))).trans ?_
    show _ = nI (va_up s.2.2.1 s.2.1 c i)
    by_cases z : i = s.2.1
    · rw [z, va_up_self]
      exact qn_eq e1
    · rw [va_up_ne _ _ z]
      exact (qn_ne e1 (Or.inr z)).trans (b4 i (by omega))
  · show _ = bI (q_gw (va_up s.2.2.1 s.2.1 c) s.2.1 || decide (va_up s.2.2.1 s.2.1 c s.2.1 = 100009 ∨ va_up s.2.2.1 s.2.1 c s.2.1 = 100011))
    rw [va_up_self, decide_eq_false hg, Bool.or_false, q_gw_cg s.2.1 (fun i hi => va_up_ne _ _ (by omega))]
theorem c_step {G : qx_G} {σ : qx_S} {a c : Nat} {T : q_T} {s : q_P} (h : uP σ a T s) (hs : shR σ a) (hl : s.2.1 < 400) (hc : c < 200000) (hg : ¬ (c = 100009 ∨ c = 100011)) : qx_M G qc_T 0 YX5_step [.ref a, .int (nI c)] σ (fun r s' => r = none ∧ fA a σ s' ∧ uP s' a T (q_em c s)) := by
  have ha := hs.1
  have hb1 := h.2.1
  have hne : ¬ nI c = (-1 : Int32) := fun z => by
    have h2 := congrArg Int32.toInt z
    rw [nI_toInt (by omega)] at h2
    exact absurd h2 (by rw [show (-1 : Int32).toInt = -1 from rfl]; omega)
  refine qx_M_in rfl (Nat.le_of_ble_eq_true rfl) ?_
  refine qy_wp_ok (c := CX5_step) (cuts := []) vX5_step wX5_step 2000 0 _ _ _ ?_
  refine Exists.intro ((-1)) (And.intro (by decide) ?_)
  refine And.intro (fun h2 => ?_) (fun h2 => ?_)
  · skip
    exact absurd h2 hne
  · skip
    refine And.intro (by rw [show qx_sh qc_T _ a = _ from hs.2.1]; rfl) (Exists.intro 5 (Exists.intro (nI s.2.1) (And.intro rfl (And.intro hb1 ?_))))
    refine Exists.intro (nI 400) (And.intro rfl ?_)
    refine And.intro (fun h12 => ?_) (fun h12 => ?_)
    · skip
      have h12 := nI_leT (a := 400) (b := s.2.1) (by decide) (by omega) h12
      exact absurd h12 (by omega)
    · skip
      have h12 := nI_leF (a := 400) (b := s.2.1) (by decide) (by omega) h12
      refine And.intro (by rw [show qx_sh qc_T _ a = _ from hs.2.1]; rfl) (Exists.intro (a + 1) (And.intro rfl ?_))
      refine And.intro (by rw [show qx_sh qc_T _ a = _ from hs.2.1]; rfl) (Exists.intro 5 (Exists.intro (nI s.2.1) (And.intro rfl (And.intro hb1 ?_))))
      obtain ⟨σ1, eσ1⟩ : ∃ zs, zs = (qx_wi σ (a + 1) s.2.1 (nI c)) := ⟨_, rfl⟩
      have fσ1 := qn_wi eσ1
      refine Exists.intro (s.2.1) (Exists.intro σ1 (And.intro rfl (And.intro ⟨400, hs.2.2.1, by omega, by decide⟩ (And.intro eσ1.symm ?_))))
      refine And.intro (by rw [show qx_sh qc_T _ a = _ from (fσ1.s _).trans (hs.2.1)]; rfl) (Exists.intro 5 (Exists.intro (nI s.2.1) (And.intro rfl (And.intro ((qn_ne eσ1 (Or.inl (by omega))).trans (hb1)) ?_))))
      refine Exists.intro (nI 1) (And.intro rfl ?_)
      refine Exists.intro (nI (s.2.1 + 1)) (And.intro (nI_add _ _) ?_)
      obtain ⟨σ2, eσ2⟩ : ∃ zs, zs = (qx_wi σ1 a 5 (nI (s.2.1 + 1))) := ⟨_, rfl⟩
      have fσ2 := qn_wif eσ2
      refine And.intro (by rw [show qx_sh qc_T _ a = _ from (fσ1.s _).trans (hs.2.1)]; rfl) (Exists.intro 5 (Exists.intro σ2 (And.intro rfl (And.intro eσ2.symm ?_))))
      exact ⟨rfl, (fA.of fσ1 (by simp)).tr (fA.of fσ2 (by simp)), h.em ha hg eσ1 eσ2⟩
theorem c_step_no {G : qx_G} {σ : qx_S} {a : Nat} : qx_M G qc_T 0 YX5_step [.ref a, .int (-1)] σ (qv σ) := by
  refine qx_M_in rfl (Nat.le_of_ble_eq_true rfl) ?_
  refine qy_wp_ok (c := CX5_step) (cuts := []) vX5_step wX5_step 2000 0 _ _ _ ?_
  refine Exists.intro ((-1)) (And.intro (by decide) ?_)
  refine And.intro (fun h2 => ?_) (fun h2 => ?_)
  · skip
    exact ⟨rfl, rfl⟩
  · skip
    exact absurd (by decide) h2
theorem c_step0 {G : qx_G} {σ : qx_S} {a c n : Nat} (hs : shR σ a) (hn : qx_mi σ a 5 = nI n) (hl : n < 400) (hc : c < 200000) : qx_M G qc_T 0 YX5_step [.ref a, .int (nI c)] σ (fun r s' => r = none ∧ fA a σ s' ∧ ∃ σ1, σ1 = qx_wi σ (a + 1) n (nI c) ∧ s' = qx_wi σ1 a 5 (nI (n + 1))) := by
  have ha := hs.1
  have hne : ¬ nI c = (-1 : Int32) := fun z => by
    have h2 := congrArg Int32.toInt z
    rw [nI_toInt (by omega)] at h2
    exact absurd h2 (by rw [show (-1 : Int32).toInt = -1 from rfl]; omega)
  refine qx_M_in rfl (Nat.le_of_ble_eq_true rfl) ?_
  refine qy_wp_ok (c := CX5_step) (cuts := []) vX5_step wX5_step 2000 0 _ _ _ ?_
  refine Exists.intro ((-1)) (And.intro (by decide) ?_)
  refine And.intro (fun h2 => ?_) (fun h2 => ?_)
  · skip
    exact absurd h2 hne
  · skip
    refine And.intro (by rw [show qx_sh qc_T _ a = _ from hs.2.1]; rfl) (Exists.intro 5 (Exists.intro (nI n) (And.intro rfl (And.intro hn ?_))))
    refine Exists.intro (nI 400) (And.intro rfl ?_)
    refine And.intro (fun h12 => ?_) (fun h12 => ?_)
    · skip
      have h12 := nI_leT (a := 400) (b := n) (by decide) (by omega) h12
      exact absurd h12 (by omega)
    · skip
      have h12 := nI_leF (a := 400) (b := n) (by decide) (by omega) h12
      refine And.intro (by rw [show qx_sh qc_T _ a = _ from hs.2.1]; rfl) (Exists.intro (a + 1) (And.intro rfl ?_))
      refine And.intro (by rw [show qx_sh qc_T _ a = _ from hs.2.1]; rfl) (Exists.intro 5 (Exists.intro (nI n) (And.intro rfl (And.intro hn ?_))))
      obtain ⟨σ1, eσ1⟩ : ∃ zs, zs = (qx_wi σ (a + 1) n (nI c)) := ⟨_, rfl⟩
      have fσ1 := qn_wi eσ1
      refine Exists.intro (n) (Exists.intro σ1 (And.intro rfl (And.intro ⟨400, hs.2.2.1, by omega, by decide⟩ (And.intro eσ1.symm ?_))))
      refine And.intro (by rw [show qx_sh qc_T _ a = _ from (fσ1.s _).trans (hs.2.1)]; rfl) (Exists.intro 5 (Exists.intro (nI n) (And.intro rfl (And.intro ((qn_ne eσ1 (Or.inl (by omega))).trans (hn)) ?_))))
      refine Exists.intro (nI 1) (And.intro rfl ?_)
      refine Exists.intro (nI (n + 1)) (And.intro (nI_add _ _) ?_)
      obtain ⟨σ2, eσ2⟩ : ∃ zs, zs = (qx_wi σ1 a 5 (nI (n + 1))) := ⟨_, rfl⟩
      have fσ2 := qn_wif eσ2
      refine And.intro (by rw [show qx_sh qc_T _ a = _ from (fσ1.s _).trans (hs.2.1)]; rfl) (Exists.intro 5 (Exists.intro σ2 (And.intro rfl (And.intro eσ2.symm ?_))))
      exact ⟨rfl, (fA.of fσ1 (by simp)).tr (fA.of fσ2 (by simp)), σ1, eσ1, eσ2⟩
theorem uP.val {σ σ1 σ2 σ3 σ4 : qx_S} {a c : Nat} {T : q_T} {s : q_P} {g : Bool} (h : uP σ a T s) (ha : 9 ≤ a) (hm : s.2.2.2 < 60) (e1 : σ1 = qx_wi σ a 7 (nI (s.2.2.2 + 1))) (e2 : σ2 = qx_wi σ1 a 8 (bI g)) (hg : g = (q_gw s.2.2.1 s.2.1 || decide (c = 100009 ∨ c = 100011))) (e3 : σ3 = qx_wi σ2 (a + 1) s.2.1 (nI c)) (e4 : σ4 = qx_wi σ3 a 5 (nI (s.2.1 + 1))) : uP σ4 a T (q_em c (s.1, s.2.1, s.2.2.1, s.2.2.2 + 1)) := by
  obtain ⟨b0, b1, b2, b3, b4, b5⟩ := h
  refine ⟨(((b0.fr (qn_wif e1) (by simp; omega)).fr (qn_wif e2) (by simp; omega)).fr (qn_wi e3) (by simp; omega)).fr (qn_wif e4) (by simp; omega), qn_eq e4, (qn_ne e4 (Or.inr (by decide))).trans ((qn_ne e3 (Or.inl (by omega))).trans ((qn_ne e2 (Or.inr (by decide))).trans (qn_eq e1))), hm, fun i hi => ?_, (qn_ne e4 (Or.inr (by decide))).trans ((qn_ne e3 (Or.inl (by omega))).trans ((qn_eq e2).trans ?_))⟩
  · have hi : i < s.2.1 + 1 := hi
    refine (qn_ne e4 (Or.inl (by omega))).trans ?_
    show _ = nI (va_up s.2.2.1 s.2.1 c i)
    by_cases z : i = s.2.1
    · rw [z, va_up_self]
      exact qn_eq e3
    · rw [va_up_ne _ _ z]
      exact (qn_ne e3 (Or.inr z)).trans ((qn_ne e2 (Or.inl (by omega))).trans ((qn_ne e1 (Or.inl (by omega))).trans (b4 i (by omega))))
  · rw [hg]
    show _ = bI (q_gw (va_up s.2.2.1 s.2.1 c) s.2.1 || decide (va_up s.2.2.1 s.2.1 c s.2.1 = 100009 ∨ va_up s.2.2.1 s.2.1 c s.2.1 = 100011))
    rw [va_up_self, q_gw_cg s.2.1 (fun i hi => va_up_ne _ _ (by omega))]
theorem or3_t (b : Bool) : true = (true || b) := rfl
theorem or3_p {b : Bool} {p : Prop} [Decidable p] (h : p) : true = (b || decide p) := by rw [decide_eq_true h, Bool.or_true]
theorem or3_n {b : Bool} {p : Prop} [Decidable p] (h : ¬ p) : b = (b || decide p) := by rw [decide_eq_false h, Bool.or_false]
/-- what reading of a rule's piece answers -/
def rU (σ s' : qx_S) (a : Nat) (T : q_T) (x : q_X) (r : Option Value) : Prop := fA a σ s' ∧ (match x with
  | .error f => r = some (.int (bI false)) ∧ qx_mi s' 4 7 = nI f
  | .ok st => r = some (.int (bI true)) ∧ uP s' a T st)
theorem c_readValue {G : qx_G} {σ : qx_S} {a : Nat} {T : q_T} {s : q_P} (h : uP σ a T s) (hs : shR σ a) (hl : s.2.1 ≤ s.1) : qx_M G qc_T 1 YX5_readValue [.ref a, .ref 4] σ (fun r s' => rU σ s' a T (q_V T s) r) := by
  have ha := hs.1
  obtain ⟨hle, h400, hb⟩ := h.1.le
  have hkl := q_kd_le hb s.1
  have hb7 := h.2.2.1
  have hb8 := h.2.2.2.2.2
  have hm60 := h.2.2.2.1
  by_cases k9 : q_kd T s.1 = 999
  · rw [q_V_no (decide_eq_false (by omega)) (by omega)]
    refine qx_M_in rfl (Nat.le_of_ble_eq_true rfl) ?_
    refine qy_wp_ok (c := CX5_readValue) (cuts := []) vX5_readValue wX5_readValue 2000 0 _ _ _ ?_
    refine And.intro rfl (Exists.intro _ (And.intro (by decide) (qx_M_mono (c_kind_e h.1 k9) ?_)))
    rintro _ _ ⟨rfl, rfl⟩
    refine Exists.intro (nI 300) (And.intro rfl ?_)
    refine And.intro (fun h9 => ?_) (fun h9 => ?_)
    · skip
      refine Exists.intro (nI 0) (And.intro rfl ?_)
      refine And.intro (fun h26 => ?_) (fun h26 => ?_)
      · skip
        exact absurd (by decide) h26
      · skip
        refine Exists.intro (nI 256) (And.intro rfl ?_)
        refine And.intro (fun h33 => ?_) (fun h33 => ?_)
        · skip
          exact absurd h33 (by decide)
        · skip
          refine Exists.intro (nI 257) (And.intro rfl ?_)
          refine And.intro (fun h40 => ?_) (fun h40 => ?_)
          · skip
            exact absurd h40 (by decide)
          · skip
            refine Exists.intro (nI 0) (And.intro rfl ?_)
            refine And.intro rfl (Exists.intro _ (And.intro (by decide) (qx_M_mono (c_fail h.1) ?_)))
            rintro _ σ1 ⟨rfl, fσ1, gσ1⟩
            refine And.intro (bI_01 _) ?_
            exact ⟨fA.of fσ1 (by simp), rfl, gσ1⟩
    · skip
      exact absurd (by decide) h9
  · have mk := c_kind_n (G := G) h.1 k9
    have hlt := q_kd_lt k9
    have fin : ∀ {σ3 : qx_S} {c : Nat} {k3 : Value}, uP σ3 a T (q_em c (s.1, s.2.1, s.2.2.1, s.2.2.2 + 1)) → fA a σ σ3 → c = q_vc T s.1 → qx_K G qc_T 1 RX5 YX5_readValue 140 [.retAddr 0, .ref 4, .retAddr 0, .retAddr 0] [] σ3 (fun r s' => rU σ s' a T (.ok (q_em (q_vc T s.1) (q_mk T s))) r) := by
      intro σ3 c k3 u f e
      rw [e] at u
      refine qy_wp_ok (c := CX5_readValue) (cuts := []) vX5_readValue wX5_readValue 2000 140 _ _ _ ?_
      refine And.intro rfl (Exists.intro _ (And.intro (by decide) (qx_M_mono (c_pass u.1 k9) ?_)))
      rintro _ σ1 ⟨rfl, fσ1, aσ1⟩
      refine Exists.intro (nI 1) (And.intro rfl ?_)
      refine And.intro (Or.inr rfl) ?_
      exact ⟨f.tr (fA.of fσ1 (by simp)), rfl, u.to ha fσ1 aσ1⟩
    by_cases hv : q_isv (q_kd T s.1) = true
    · have hv2 := of_decide_eq_true hv
      by_cases kw : q_kd T s.1 = 256
      · rw [kw] at mk
        by_cases m6 : s.2.2.2 = 60
        · rw [q_V_full hv m6]
          refine qx_M_in rfl (Nat.le_of_ble_eq_true rfl) ?_
          refine qy_wp_ok (c := CX5_readValue) (cuts := [77]) vX5_readValue wX5_readValue 2000 0 _ _ _ ?_
          refine And.intro rfl (Exists.intro _ (And.intro (by decide) (qx_M_mono (mk) ?_)))
          rintro _ _ ⟨rfl, rfl⟩
          refine Exists.intro (nI 300) (And.intro rfl ?_)
          refine And.intro (fun h9 => ?_) (fun h9 => ?_)
          · skip
            refine Exists.intro (nI 0) (And.intro rfl ?_)
            refine And.intro (fun h26 => ?_) (fun h26 => ?_)
            · skip
              exact absurd (by decide) h26
            · skip
              refine Exists.intro (nI 256) (And.intro rfl ?_)
              refine And.intro (fun h33 => ?_) (fun h33 => ?_)
              · skip
                refine Exists.intro (nI 257) (And.intro rfl ?_)
                refine And.intro (fun h53 => ?_) (fun h53 => ?_)
                · skip
                  refine And.intro (by rw [show qx_sh qc_T _ a = _ from hs.2.1]; rfl) (Exists.intro 7 (Exists.intro (nI s.2.2.2) (And.intro rfl (And.intro hb7 ?_))))
                  refine Exists.intro (nI 60) (And.intro rfl ?_)
                  refine And.intro (fun h68 => ?_) (fun h68 => ?_)
                  · skip
                    have h68 := nI_ltT (a := s.2.2.2) (b := 60) (by omega) (by decide) h68
                    exact absurd h68 (by omega)
                  · skip
                    have h68 := nI_ltF (a := s.2.2.2) (b := 60) (by omega) (by decide) h68
                    refine Exists.intro (nI 3) (And.intro rfl ?_)
                    refine And.intro rfl (Exists.intro _ (And.intro (by decide) (qx_M_mono (c_fail h.1) ?_)))
                    rintro _ σ1 ⟨rfl, fσ1, gσ1⟩
                    refine And.intro (bI_01 _) ?_
                    exact ⟨fA.of fσ1 (by simp), rfl, gσ1⟩
                · skip
                  exact absurd h53 (by decide)
              · skip
                exact absurd (by decide) h33
          · skip
            exact absurd (by decide) h9
        · rw [q_V_ok hv m6]
          have hm6 : s.2.2.2 < 60 := by omega
          have evc : q_vc T s.1 = q_nu T s.1 := if_pos kw
          have hnu := q_nu_lt T s.1
          have etn : q_tn T s.1 = q_nu T s.1 := if_pos (Or.inl kw)
          have mn : ∀ σ1, cT σ1 T s.1 → qx_M G qc_T 0 YX9_number [.ref 4] σ1 (qr (nI (q_nu T s.1)) σ1) := fun σ1 a => etn ▸ c_number a
          cases hgw : q_gw s.2.2.1 s.2.1 with
          | true =>
            rw [hgw] at hb8
            refine qx_M_in rfl (Nat.le_of_ble_eq_true rfl) ?_
            refine qy_wp_ok (c := CX5_readValue) (cuts := [140]) vX5_readValue wX5_readValue 2000 0 _ _ _ ?_
            refine And.intro rfl (Exists.intro _ (And.intro (by decide) (qx_M_mono (mk) ?_)))
            rintro _ _ ⟨rfl, rfl⟩
            refine Exists.intro (nI 300) (And.intro rfl ?_)
            refine And.intro (fun h9 => ?_) (fun h9 => ?_)
            · skip
              refine Exists.intro (nI 0) (And.intro rfl ?_)
              refine And.intro (fun h26 => ?_) (fun h26 => ?_)
              · skip
                exact absurd (by decide) h26
              · skip
                refine Exists.intro (nI 256) (And.intro rfl ?_)
                refine And.intro (fun h33 => ?_) (fun h33 => ?_)
                · skip
                  refine Exists.intro (nI 257) (And.intro rfl ?_)
                  refine And.intro (fun h53 => ?_) (fun h53 => ?_)
                  · skip
                    refine And.intro (by rw [show qx_sh qc_T _ a = _ from hs.2.1]; rfl) (Exists.intro 7 (Exists.intro (nI s.2.2.2) (And.intro rfl (And.intro hb7 ?_))))
                    refine Exists.intro (nI 60) (And.intro rfl ?_)
                    refine And.intro (fun h68 => ?_) (fun h68 => ?_)
                    · skip
                      have h68 := nI_ltT (a := s.2.2.2) (b := 60) (by omega) (by decide) h68
                      refine And.intro (by rw [show qx_sh qc_T _ a = _ from hs.2.1]; rfl) (Exists.intro 7 (Exists.intro (nI s.2.2.2) (And.intro rfl (And.intro hb7 ?_))))
                      refine Exists.intro (nI 1) (And.intro rfl ?_)
                      refine Exists.intro (nI (s.2.2.2 + 1)) (And.intro (nI_add _ _) ?_)
                      obtain ⟨σ1, eσ1⟩ : ∃ zs, zs = (qx_wi σ a 7 (nI (s.2.2.2 + 1))) := ⟨_, rfl⟩
                      have fσ1 := qn_wif eσ1
                      refine And.intro (by rw [show qx_sh qc_T _ a = _ from hs.2.1]; rfl) (Exists.intro 7 (Exists.intro σ1 (And.intro rfl (And.intro eσ1.symm ?_))))
                      refine And.intro (by rw [show qx_sh qc_T _ a = _ from (fσ1.s _).trans (hs.2.1)]; rfl) (Exists.intro 8 (Exists.intro (bI true) (And.intro rfl (And.intro ((qn_ne eσ1 (Or.inr (by decide))).trans (hb8)) ?_))))
                      refine And.intro (fun h92 => ?_) (fun h92 => ?_)
                      · skip
                        have h92 := bI_t h92
                        refine Exists.intro (nI 1) (And.intro rfl ?_)
                        obtain ⟨σ2, eσ2⟩ : ∃ zs, zs = (qx_wi σ1 a 8 (nI 1)) := ⟨_, rfl⟩
                        have fσ2 := qn_wif eσ2
                        refine And.intro (by rw [show qx_sh qc_T _ a = _ from (fσ1.s _).trans (hs.2.1)]; rfl) (And.intro (by decide) (Exists.intro 8 (Exists.intro σ2 (And.intro rfl (And.intro eσ2.symm ?_)))))
                        refine And.intro (fun h119 => ?_) (fun h119 => ?_)
                        · skip
                          refine And.intro rfl (Exists.intro _ (And.intro (by decide) (qx_M_mono (mn _ ((h.1.fr fσ1 (by simp; omega)).fr fσ2 (by simp; omega))) ?_)))
                          rintro _ _ ⟨rfl, rfl⟩
                          refine And.intro ((congrArg Prod.fst ((fσ2.s _).trans ((fσ1.s _).trans (hs.2.1)))).trans rfl) (Exists.intro _ (And.intro (by decide) (qx_M_mono (c_step0 ((hs.fr fσ1).fr fσ2) ((qn_ne eσ2 (Or.inr (by decide))).trans ((qn_ne eσ1 (Or.inr (by decide))).trans h.2.1)) (by omega) (by omega)) ?_)))
                          rintro _ σ3 ⟨rfl, fσ3, m1, aσ3, bσ3⟩
                          refine qx_K_le (ls := [.retAddr 0, .ref 4, .retAddr 0, .retAddr 0]) ⟨Or.inl rfl, Or.inr rfl, Or.inl rfl, Or.inl rfl, trivial⟩ ?_
                          first | (have u3 := uP.val (c := q_nu T s.1) (g := true) h ha hm6 eσ1 eσ2 (by rw [hgw]; exact or3_t _) aσ3 bσ3; exact fin (k3 := .null) u3 ((fA.of fσ1 (by simp)).tr ((fA.of fσ2 (by simp)).tr fσ3)) evc.symm) | (have u3 := uP.val (c := q_nu T s.1) (g := false) h ha hm6 eσ1 eσ2 (by rw [hgw]; exact or3_n (by omega)) aσ3 bσ3; exact fin (k3 := .null) u3 ((fA.of fσ1 (by simp)).tr ((fA.of fσ2 (by simp)).tr fσ3)) evc.symm)
                        · skip
                          exact absurd (by decide) h119
                      · skip
                        have h92 := bI_f h92
                        exact absurd (h92.symm.trans (rfl)) (by decide)
                    · skip
                      have h68 := nI_ltF (a := s.2.2.2) (b := 60) (by omega) (by decide) h68
                      exact absurd h68 (by omega)
                  · skip
                    exact absurd h53 (by decide)
                · skip
                  exact absurd (by decide) h33
            · skip
              exact absurd (by decide) h9
          | false =>
            rw [hgw] at hb8
            refine qx_M_in rfl (Nat.le_of_ble_eq_true rfl) ?_
            refine qy_wp_ok (c := CX5_readValue) (cuts := [140]) vX5_readValue wX5_readValue 2000 0 _ _ _ ?_
            refine And.intro rfl (Exists.intro _ (And.intro (by decide) (qx_M_mono (mk) ?_)))
            rintro _ _ ⟨rfl, rfl⟩
            refine Exists.intro (nI 300) (And.intro rfl ?_)
            refine And.intro (fun h9 => ?_) (fun h9 => ?_)
            · skip
              refine Exists.intro (nI 0) (And.intro rfl ?_)
              refine And.intro (fun h26 => ?_) (fun h26 => ?_)
              · skip
                exact absurd (by decide) h26
              · skip
                refine Exists.intro (nI 256) (And.intro rfl ?_)
                refine And.intro (fun h33 => ?_) (fun h33 => ?_)
                · skip
                  refine Exists.intro (nI 257) (And.intro rfl ?_)
                  refine And.intro (fun h53 => ?_) (fun h53 => ?_)
                  · skip
                    refine And.intro (by rw [show qx_sh qc_T _ a = _ from hs.2.1]; rfl) (Exists.intro 7 (Exists.intro (nI s.2.2.2) (And.intro rfl (And.intro hb7 ?_))))
                    refine Exists.intro (nI 60) (And.intro rfl ?_)
                    refine And.intro (fun h68 => ?_) (fun h68 => ?_)
                    · skip
                      have h68 := nI_ltT (a := s.2.2.2) (b := 60) (by omega) (by decide) h68
                      refine And.intro (by rw [show qx_sh qc_T _ a = _ from hs.2.1]; rfl) (Exists.intro 7 (Exists.intro (nI s.2.2.2) (And.intro rfl (And.intro hb7 ?_))))
                      refine Exists.intro (nI 1) (And.intro rfl ?_)
                      refine Exists.intro (nI (s.2.2.2 + 1)) (And.intro (nI_add _ _) ?_)
                      obtain ⟨σ1, eσ1⟩ : ∃ zs, zs = (qx_wi σ a 7 (nI (s.2.2.2 + 1))) := ⟨_, rfl⟩
                      have fσ1 := qn_wif eσ1
                      refine And.intro (by rw [show qx_sh qc_T _ a = _ from hs.2.1]; rfl) (Exists.intro 7 (Exists.intro σ1 (And.intro rfl (And.intro eσ1.symm ?_))))
                      refine And.intro (by rw [show qx_sh qc_T _ a = _ from (fσ1.s _).trans (hs.2.1)]; rfl) (Exists.intro 8 (Exists.intro (bI false) (And.intro rfl (And.intro ((qn_ne eσ1 (Or.inr (by decide))).trans (hb8)) ?_))))
                      refine And.intro (fun h92 => ?_) (fun h92 => ?_)
                      · skip
                        have h92 := bI_t h92
                        exact absurd (h92.symm.trans (rfl)) (by decide)
                      · skip
                        have h92 := bI_f h92
                        refine Exists.intro (nI 309) (And.intro rfl ?_)
                        refine And.intro (fun h99 => ?_) (fun h99 => ?_)
                        · skip
                          exact absurd h99 (by decide)
                        · skip
                          refine Exists.intro (nI 311) (And.intro rfl ?_)
                          refine And.intro (fun h106 => ?_) (fun h106 => ?_)
                          · skip
                            refine Exists.intro (nI 0) (And.intro rfl ?_)
                            obtain ⟨σ2, eσ2⟩ : ∃ zs, zs = (qx_wi σ1 a 8 (nI 0)) := ⟨_, rfl⟩
                            have fσ2 := qn_wif eσ2
                            refine And.intro (by rw [show qx_sh qc_T _ a = _ from (fσ1.s _).trans (hs.2.1)]; rfl) (And.intro (by decide) (Exists.intro 8 (Exists.intro σ2 (And.intro rfl (And.intro eσ2.symm ?_)))))
                            refine And.intro (fun h119 => ?_) (fun h119 => ?_)
                            · skip
                              refine And.intro rfl (Exists.intro _ (And.intro (by decide) (qx_M_mono (mn _ ((h.1.fr fσ1 (by simp; omega)).fr fσ2 (by simp; omega))) ?_)))
                              rintro _ _ ⟨rfl, rfl⟩
                              refine And.intro ((congrArg Prod.fst ((fσ2.s _).trans ((fσ1.s _).trans (hs.2.1)))).trans rfl) (Exists.intro _ (And.intro (by decide) (qx_M_mono (c_step0 ((hs.fr fσ1).fr fσ2) ((qn_ne eσ2 (Or.inr (by decide))).trans ((qn_ne eσ1 (Or.inr (by decide))).trans h.2.1)) (by omega) (by omega)) ?_)))
                              rintro _ σ3 ⟨rfl, fσ3, m1, aσ3, bσ3⟩
                              refine qx_K_le (ls := [.retAddr 0, .ref 4, .retAddr 0, .retAddr 0]) ⟨Or.inl rfl, Or.inr rfl, Or.inl rfl, Or.inl rfl, trivial⟩ ?_
                              first | (have u3 := uP.val (c := q_nu T s.1) (g := true) h ha hm6 eσ1 eσ2 (by rw [hgw]; exact or3_p (by omega)) aσ3 bσ3; exact fin (k3 := .null) u3 ((fA.of fσ1 (by simp)).tr ((fA.of fσ2 (by simp)).tr fσ3)) evc.symm) | (have u3 := uP.val (c := q_nu T s.1) (g := false) h ha hm6 eσ1 eσ2 (by rw [hgw]; exact or3_n (by omega)) aσ3 bσ3; exact fin (k3 := .null) u3 ((fA.of fσ1 (by simp)).tr ((fA.of fσ2 (by simp)).tr fσ3)) evc.symm)
                            · skip
                              exact absurd (by decide) h119
                          · skip
                            exact absurd h106 (by decide)
                    · skip
                      have h68 := nI_ltF (a := s.2.2.2) (b := 60) (by omega) (by decide) h68
                      exact absurd h68 (by omega)
                  · skip
                    exact absurd h53 (by decide)
                · skip
                  exact absurd (by decide) h33
            · skip
              exact absurd (by decide) h9
      · have hw : 300 ≤ q_kd T s.1 ∧ q_kd T s.1 < 312 := by omega
        by_cases m6 : s.2.2.2 = 60
        · rw [q_V_full hv m6]
          refine qx_M_in rfl (Nat.le_of_ble_eq_true rfl) ?_
          refine qy_wp_ok (c := CX5_readValue) (cuts := [77]) vX5_readValue wX5_readValue 2000 0 _ _ _ ?_
          refine And.intro rfl (Exists.intro _ (And.intro (by decide) (qx_M_mono (mk) ?_)))
          rintro _ _ ⟨rfl, rfl⟩
          refine Exists.intro (nI 300) (And.intro rfl ?_)
          refine And.intro (fun h9 => ?_) (fun h9 => ?_)
          · skip
            have h9 := nI_ltT (a := q_kd T s.1) (b := 300) (by omega) (by decide) h9
            exact absurd h9 (by omega)
          · skip
            have h9 := nI_ltF (a := q_kd T s.1) (b := 300) (by omega) (by decide) h9
            refine Exists.intro (nI 312) (And.intro rfl ?_)
            refine And.intro (fun h16 => ?_) (fun h16 => ?_)
            · skip
              have h16 := nI_leT (a := 312) (b := q_kd T s.1) (by decide) (by omega) h16
              exact absurd h16 (by omega)
            · skip
              have h16 := nI_leF (a := 312) (b := q_kd T s.1) (by decide) (by omega) h16
              refine Exists.intro (nI 1) (And.intro rfl ?_)
              refine And.intro (fun h26 => ?_) (fun h26 => ?_)
              · skip
                refine Exists.intro (nI 257) (And.intro rfl ?_)
                refine And.intro (fun h53 => ?_) (fun h53 => ?_)
                · skip
                  have h53 := nI_neT (a := q_kd T s.1) (b := 257) (by omega) (by decide) h53
                  refine And.intro (by rw [show qx_sh qc_T _ a = _ from hs.2.1]; rfl) (Exists.intro 7 (Exists.intro (nI s.2.2.2) (And.intro rfl (And.intro hb7 ?_))))
                  refine Exists.intro (nI 60) (And.intro rfl ?_)
                  refine And.intro (fun h68 => ?_) (fun h68 => ?_)
                  · skip
                    have h68 := nI_ltT (a := s.2.2.2) (b := 60) (by omega) (by decide) h68
                    exact absurd h68 (by omega)
                  · skip
                    have h68 := nI_ltF (a := s.2.2.2) (b := 60) (by omega) (by decide) h68
                    refine Exists.intro (nI 3) (And.intro rfl ?_)
                    refine And.intro rfl (Exists.intro _ (And.intro (by decide) (qx_M_mono (c_fail h.1) ?_)))
                    rintro _ σ1 ⟨rfl, fσ1, gσ1⟩
                    refine And.intro (bI_01 _) ?_
                    exact ⟨fA.of fσ1 (by simp), rfl, gσ1⟩
                · skip
                  have h53 := nI_eqT (a := q_kd T s.1) (b := 257) (by omega) (by decide) h53
                  exact absurd h53 (by omega)
              · skip
                exact absurd h26 (by decide)
        · rw [q_V_ok hv m6]
          have hm6 : s.2.2.2 < 60 := by omega
          have evc : q_vc T s.1 = 100000 + (q_kd T s.1 - 300) := if_neg kw
          cases hgw : q_gw s.2.2.1 s.2.1 with
          | true =>
            rw [hgw] at hb8
            refine qx_M_in rfl (Nat.le_of_ble_eq_true rfl) ?_
            refine qy_wp_ok (c := CX5_readValue) (cuts := [140]) vX5_readValue wX5_readValue 2000 0 _ _ _ ?_
            refine And.intro rfl (Exists.intro _ (And.intro (by decide) (qx_M_mono (mk) ?_)))
            rintro _ _ ⟨rfl, rfl⟩
            refine Exists.intro (nI 300) (And.intro rfl ?_)
            refine And.intro (fun h9 => ?_) (fun h9 => ?_)
            · skip
              have h9 := nI_ltT (a := q_kd T s.1) (b := 300) (by omega) (by decide) h9
              exact absurd h9 (by omega)
            · skip
              have h9 := nI_ltF (a := q_kd T s.1) (b := 300) (by omega) (by decide) h9
              refine Exists.intro (nI 312) (And.intro rfl ?_)
              refine And.intro (fun h16 => ?_) (fun h16 => ?_)
              · skip
                have h16 := nI_leT (a := 312) (b := q_kd T s.1) (by decide) (by omega) h16
                exact absurd h16 (by omega)
              · skip
                have h16 := nI_leF (a := 312) (b := q_kd T s.1) (by decide) (by omega) h16
                refine Exists.intro (nI 1) (And.intro rfl ?_)
                refine And.intro (fun h26 => ?_) (fun h26 => ?_)
                · skip
                  refine Exists.intro (nI 257) (And.intro rfl ?_)
                  refine And.intro (fun h53 => ?_) (fun h53 => ?_)
                  · skip
                    have h53 := nI_neT (a := q_kd T s.1) (b := 257) (by omega) (by decide) h53
                    refine And.intro (by rw [show qx_sh qc_T _ a = _ from hs.2.1]; rfl) (Exists.intro 7 (Exists.intro (nI s.2.2.2) (And.intro rfl (And.intro hb7 ?_))))
                    refine Exists.intro (nI 60) (And.intro rfl ?_)
                    refine And.intro (fun h68 => ?_) (fun h68 => ?_)
                    · skip
                      have h68 := nI_ltT (a := s.2.2.2) (b := 60) (by omega) (by decide) h68
                      refine And.intro (by rw [show qx_sh qc_T _ a = _ from hs.2.1]; rfl) (Exists.intro 7 (Exists.intro (nI s.2.2.2) (And.intro rfl (And.intro hb7 ?_))))
                      refine Exists.intro (nI 1) (And.intro rfl ?_)
                      refine Exists.intro (nI (s.2.2.2 + 1)) (And.intro (nI_add _ _) ?_)
                      obtain ⟨σ1, eσ1⟩ : ∃ zs, zs = (qx_wi σ a 7 (nI (s.2.2.2 + 1))) := ⟨_, rfl⟩
                      have fσ1 := qn_wif eσ1
                      refine And.intro (by rw [show qx_sh qc_T _ a = _ from hs.2.1]; rfl) (Exists.intro 7 (Exists.intro σ1 (And.intro rfl (And.intro eσ1.symm ?_))))
                      refine And.intro (by rw [show qx_sh qc_T _ a = _ from (fσ1.s _).trans (hs.2.1)]; rfl) (Exists.intro 8 (Exists.intro (bI true) (And.intro rfl (And.intro ((qn_ne eσ1 (Or.inr (by decide))).trans (hb8)) ?_))))
                      refine And.intro (fun h92 => ?_) (fun h92 => ?_)
                      · skip
                        have h92 := bI_t h92
                        refine Exists.intro (nI 1) (And.intro rfl ?_)
                        obtain ⟨σ2, eσ2⟩ : ∃ zs, zs = (qx_wi σ1 a 8 (nI 1)) := ⟨_, rfl⟩
                        have fσ2 := qn_wif eσ2
                        refine And.intro (by rw [show qx_sh qc_T _ a = _ from (fσ1.s _).trans (hs.2.1)]; rfl) (And.intro (by decide) (Exists.intro 8 (Exists.intro σ2 (And.intro rfl (And.intro eσ2.symm ?_)))))
                        refine And.intro (fun h119 => ?_) (fun h119 => ?_)
                        · skip
                          exact absurd h119 (by decide)
                        · skip
                          refine Exists.intro (nI 100000) (And.intro rfl ?_)
                          refine Exists.intro (nI (100000 + (q_kd T s.1))) (And.intro (nI_add _ _) ?_)
                          refine Exists.intro (nI 300) (And.intro rfl ?_)
                          refine Exists.intro (nI (100000 + (q_kd T s.1 - 300))) (And.intro ((nI_sub (a := 100000 + q_kd T s.1) (b := 300) (by omega)).trans (congrArg nI (by omega))) ?_)
                          refine And.intro ((congrArg Prod.fst ((fσ2.s _).trans ((fσ1.s _).trans (hs.2.1)))).trans rfl) (Exists.intro _ (And.intro (by decide) (qx_M_mono (c_step0 ((hs.fr fσ1).fr fσ2) ((qn_ne eσ2 (Or.inr (by decide))).trans ((qn_ne eσ1 (Or.inr (by decide))).trans h.2.1)) (by omega) (by omega)) ?_)))
                          rintro _ σ3 ⟨rfl, fσ3, m1, aσ3, bσ3⟩
                          refine qx_K_le (ls := [.retAddr 0, .ref 4, .retAddr 0, .retAddr 0]) ⟨Or.inl rfl, Or.inr rfl, Or.inl rfl, Or.inl rfl, trivial⟩ ?_
                          first | (have u3 := uP.val (c := 100000 + (q_kd T s.1 - 300)) (g := true) h ha hm6 eσ1 eσ2 (by rw [hgw]; exact or3_t _) aσ3 bσ3; exact fin (k3 := .null) u3 ((fA.of fσ1 (by simp)).tr ((fA.of fσ2 (by simp)).tr fσ3)) evc.symm) | (have u3 := uP.val (c := 100000 + (q_kd T s.1 - 300)) (g := false) h ha hm6 eσ1 eσ2 (by rw [hgw]; exact or3_n (by omega)) aσ3 bσ3; exact fin (k3 := .null) u3 ((fA.of fσ1 (by simp)).tr ((fA.of fσ2 (by simp)).tr fσ3)) evc.symm)
                      · skip
                        have h92 := bI_f h92
                        exact absurd (h92.symm.trans (rfl)) (by decide)
                    · skip
                      have h68 := nI_ltF (a := s.2.2.2) (b := 60) (by omega) (by decide) h68
                      exact absurd h68 (by omega)
                  · skip
                    have h53 := nI_eqT (a := q_kd T s.1) (b := 257) (by omega) (by decide) h53
                    exact absurd h53 (by omega)
                · skip
                  exact absurd h26 (by decide)
          | false =>
            rw [hgw] at hb8
            refine qx_M_in rfl (Nat.le_of_ble_eq_true rfl) ?_
            refine qy_wp_ok (c := CX5_readValue) (cuts := [140]) vX5_readValue wX5_readValue 2000 0 _ _ _ ?_
            refine And.intro rfl (Exists.intro _ (And.intro (by decide) (qx_M_mono (mk) ?_)))
            rintro _ _ ⟨rfl, rfl⟩
            refine Exists.intro (nI 300) (And.intro rfl ?_)
            refine And.intro (fun h9 => ?_) (fun h9 => ?_)
            · skip
              have h9 := nI_ltT (a := q_kd T s.1) (b := 300) (by omega) (by decide) h9
              exact absurd h9 (by omega)
            · skip
              have h9 := nI_ltF (a := q_kd T s.1) (b := 300) (by omega) (by decide) h9
              refine Exists.intro (nI 312) (And.intro rfl ?_)
              refine And.intro (fun h16 => ?_) (fun h16 => ?_)
              · skip
                have h16 := nI_leT (a := 312) (b := q_kd T s.1) (by decide) (by omega) h16
                exact absurd h16 (by omega)
              · skip
                have h16 := nI_leF (a := 312) (b := q_kd T s.1) (by decide) (by omega) h16
                refine Exists.intro (nI 1) (And.intro rfl ?_)
                refine And.intro (fun h26 => ?_) (fun h26 => ?_)
                · skip
                  refine Exists.intro (nI 257) (And.intro rfl ?_)
                  refine And.intro (fun h53 => ?_) (fun h53 => ?_)
                  · skip
                    have h53 := nI_neT (a := q_kd T s.1) (b := 257) (by omega) (by decide) h53
                    refine And.intro (by rw [show qx_sh qc_T _ a = _ from hs.2.1]; rfl) (Exists.intro 7 (Exists.intro (nI s.2.2.2) (And.intro rfl (And.intro hb7 ?_))))
                    refine Exists.intro (nI 60) (And.intro rfl ?_)
                    refine And.intro (fun h68 => ?_) (fun h68 => ?_)
                    · skip
                      have h68 := nI_ltT (a := s.2.2.2) (b := 60) (by omega) (by decide) h68
                      refine And.intro (by rw [show qx_sh qc_T _ a = _ from hs.2.1]; rfl) (Exists.intro 7 (Exists.intro (nI s.2.2.2) (And.intro rfl (And.intro hb7 ?_))))
                      refine Exists.intro (nI 1) (And.intro rfl ?_)
                      refine Exists.intro (nI (s.2.2.2 + 1)) (And.intro (nI_add _ _) ?_)
                      obtain ⟨σ1, eσ1⟩ : ∃ zs, zs = (qx_wi σ a 7 (nI (s.2.2.2 + 1))) := ⟨_, rfl⟩
                      have fσ1 := qn_wif eσ1
                      refine And.intro (by rw [show qx_sh qc_T _ a = _ from hs.2.1]; rfl) (Exists.intro 7 (Exists.intro σ1 (And.intro rfl (And.intro eσ1.symm ?_))))
                      refine And.intro (by rw [show qx_sh qc_T _ a = _ from (fσ1.s _).trans (hs.2.1)]; rfl) (Exists.intro 8 (Exists.intro (bI false) (And.intro rfl (And.intro ((qn_ne eσ1 (Or.inr (by decide))).trans (hb8)) ?_))))
                      refine And.intro (fun h92 => ?_) (fun h92 => ?_)
                      · skip
                        have h92 := bI_t h92
                        exact absurd (h92.symm.trans (rfl)) (by decide)
                      · skip
                        have h92 := bI_f h92
                        refine Exists.intro (nI 309) (And.intro rfl ?_)
                        refine And.intro (fun h99 => ?_) (fun h99 => ?_)
                        · skip
                          have h99 := nI_eqT (a := q_kd T s.1) (b := 309) (by omega) (by decide) h99
                          refine Exists.intro (nI 1) (And.intro rfl ?_)
                          obtain ⟨σ2, eσ2⟩ : ∃ zs, zs = (qx_wi σ1 a 8 (nI 1)) := ⟨_, rfl⟩
                          have fσ2 := qn_wif eσ2
                          refine And.intro (by rw [show qx_sh qc_T _ a = _ from (fσ1.s _).trans (hs.2.1)]; rfl) (And.intro (by decide) (Exists.intro 8 (Exists.intro σ2 (And.intro rfl (And.intro eσ2.symm ?_)))))
                          refine And.intro (fun h119 => ?_) (fun h119 => ?_)
                          · skip
                            exact absurd h119 (by decide)
                          · skip
                            refine Exists.intro (nI 100000) (And.intro rfl ?_)
                            refine Exists.intro (nI (100000 + (q_kd T s.1))) (And.intro (nI_add _ _) ?_)
                            refine Exists.intro (nI 300) (And.intro rfl ?_)
                            refine Exists.intro (nI (100000 + (q_kd T s.1 - 300))) (And.intro ((nI_sub (a := 100000 + q_kd T s.1) (b := 300) (by omega)).trans (congrArg nI (by omega))) ?_)
                            refine And.intro ((congrArg Prod.fst ((fσ2.s _).trans ((fσ1.s _).trans (hs.2.1)))).trans rfl) (Exists.intro _ (And.intro (by decide) (qx_M_mono (c_step0 ((hs.fr fσ1).fr fσ2) ((qn_ne eσ2 (Or.inr (by decide))).trans ((qn_ne eσ1 (Or.inr (by decide))).trans h.2.1)) (by omega) (by omega)) ?_)))
                            rintro _ σ3 ⟨rfl, fσ3, m1, aσ3, bσ3⟩
                            refine qx_K_le (ls := [.retAddr 0, .ref 4, .retAddr 0, .retAddr 0]) ⟨Or.inl rfl, Or.inr rfl, Or.inl rfl, Or.inl rfl, trivial⟩ ?_
                            first | (have u3 := uP.val (c := 100000 + (q_kd T s.1 - 300)) (g := true) h ha hm6 eσ1 eσ2 (by rw [hgw]; exact or3_p (by omega)) aσ3 bσ3; exact fin (k3 := .null) u3 ((fA.of fσ1 (by simp)).tr ((fA.of fσ2 (by simp)).tr fσ3)) evc.symm) | (have u3 := uP.val (c := 100000 + (q_kd T s.1 - 300)) (g := false) h ha hm6 eσ1 eσ2 (by rw [hgw]; exact or3_n (by omega)) aσ3 bσ3; exact fin (k3 := .null) u3 ((fA.of fσ1 (by simp)).tr ((fA.of fσ2 (by simp)).tr fσ3)) evc.symm)
                        · skip
                          have h99 := nI_neT (a := q_kd T s.1) (b := 309) (by omega) (by decide) h99
                          refine Exists.intro (nI 311) (And.intro rfl ?_)
                          refine And.intro (fun h106 => ?_) (fun h106 => ?_)
                          · skip
                            have h106 := nI_neT (a := q_kd T s.1) (b := 311) (by omega) (by decide) h106
                            refine Exists.intro (nI 0) (And.intro rfl ?_)
                            obtain ⟨σ2, eσ2⟩ : ∃ zs, zs = (qx_wi σ1 a 8 (nI 0)) := ⟨_, rfl⟩
                            have fσ2 := qn_wif eσ2
                            refine And.intro (by rw [show qx_sh qc_T _ a = _ from (fσ1.s _).trans (hs.2.1)]; rfl) (And.intro (by decide) (Exists.intro 8 (Exists.intro σ2 (And.intro rfl (And.intro eσ2.symm ?_)))))
                            refine And.intro (fun h119 => ?_) (fun h119 => ?_)
                            · skip
                              exact absurd h119 (by decide)
                            · skip
                              refine Exists.intro (nI 100000) (And.intro rfl ?_)
                              refine Exists.intro (nI (100000 + (q_kd T s.1))) (And.intro (nI_add _ _) ?_)
                              refine Exists.intro (nI 300) (And.intro rfl ?_)
                              refine Exists.intro (nI (100000 + (q_kd T s.1 - 300))) (And.intro ((nI_sub (a := 100000 + q_kd T s.1) (b := 300) (by omega)).trans (congrArg nI (by omega))) ?_)
                              refine And.intro ((congrArg Prod.fst ((fσ2.s _).trans ((fσ1.s _).trans (hs.2.1)))).trans rfl) (Exists.intro _ (And.intro (by decide) (qx_M_mono (c_step0 ((hs.fr fσ1).fr fσ2) ((qn_ne eσ2 (Or.inr (by decide))).trans ((qn_ne eσ1 (Or.inr (by decide))).trans h.2.1)) (by omega) (by omega)) ?_)))
                              rintro _ σ3 ⟨rfl, fσ3, m1, aσ3, bσ3⟩
                              refine qx_K_le (ls := [.retAddr 0, .ref 4, .retAddr 0, .retAddr 0]) ⟨Or.inl rfl, Or.inr rfl, Or.inl rfl, Or.inl rfl, trivial⟩ ?_
                              first | (have u3 := uP.val (c := 100000 + (q_kd T s.1 - 300)) (g := true) h ha hm6 eσ1 eσ2 (by rw [hgw]; exact or3_p (by omega)) aσ3 bσ3; exact fin (k3 := .null) u3 ((fA.of fσ1 (by simp)).tr ((fA.of fσ2 (by simp)).tr fσ3)) evc.symm) | (have u3 := uP.val (c := 100000 + (q_kd T s.1 - 300)) (g := false) h ha hm6 eσ1 eσ2 (by rw [hgw]; exact or3_n (by omega)) aσ3 bσ3; exact fin (k3 := .null) u3 ((fA.of fσ1 (by simp)).tr ((fA.of fσ2 (by simp)).tr fσ3)) evc.symm)
                          · skip
                            have h106 := nI_eqT (a := q_kd T s.1) (b := 311) (by omega) (by decide) h106
                            refine Exists.intro (nI 1) (And.intro rfl ?_)
                            obtain ⟨σ2, eσ2⟩ : ∃ zs, zs = (qx_wi σ1 a 8 (nI 1)) := ⟨_, rfl⟩
                            have fσ2 := qn_wif eσ2
                            refine And.intro (by rw [show qx_sh qc_T _ a = _ from (fσ1.s _).trans (hs.2.1)]; rfl) (And.intro (by decide) (Exists.intro 8 (Exists.intro σ2 (And.intro rfl (And.intro eσ2.symm ?_)))))
                            refine And.intro (fun h119 => ?_) (fun h119 => ?_)
                            · skip
                              exact absurd h119 (by decide)
                            · skip
                              refine Exists.intro (nI 100000) (And.intro rfl ?_)
                              refine Exists.intro (nI (100000 + (q_kd T s.1))) (And.intro (nI_add _ _) ?_)
                              refine Exists.intro (nI 300) (And.intro rfl ?_)
                              refine Exists.intro (nI (100000 + (q_kd T s.1 - 300))) (And.intro ((nI_sub (a := 100000 + q_kd T s.1) (b := 300) (by omega)).trans (congrArg nI (by omega))) ?_)
                              refine And.intro ((congrArg Prod.fst ((fσ2.s _).trans ((fσ1.s _).trans (hs.2.1)))).trans rfl) (Exists.intro _ (And.intro (by decide) (qx_M_mono (c_step0 ((hs.fr fσ1).fr fσ2) ((qn_ne eσ2 (Or.inr (by decide))).trans ((qn_ne eσ1 (Or.inr (by decide))).trans h.2.1)) (by omega) (by omega)) ?_)))
                              rintro _ σ3 ⟨rfl, fσ3, m1, aσ3, bσ3⟩
                              refine qx_K_le (ls := [.retAddr 0, .ref 4, .retAddr 0, .retAddr 0]) ⟨Or.inl rfl, Or.inr rfl, Or.inl rfl, Or.inl rfl, trivial⟩ ?_
                              first | (have u3 := uP.val (c := 100000 + (q_kd T s.1 - 300)) (g := true) h ha hm6 eσ1 eσ2 (by rw [hgw]; exact or3_p (by omega)) aσ3 bσ3; exact fin (k3 := .null) u3 ((fA.of fσ1 (by simp)).tr ((fA.of fσ2 (by simp)).tr fσ3)) evc.symm) | (have u3 := uP.val (c := 100000 + (q_kd T s.1 - 300)) (g := false) h ha hm6 eσ1 eσ2 (by rw [hgw]; exact or3_n (by omega)) aσ3 bσ3; exact fin (k3 := .null) u3 ((fA.of fσ1 (by simp)).tr ((fA.of fσ2 (by simp)).tr fσ3)) evc.symm)
                    · skip
                      have h68 := nI_ltF (a := s.2.2.2) (b := 60) (by omega) (by decide) h68
                      exact absurd h68 (by omega)
                  · skip
                    have h53 := nI_eqT (a := q_kd T s.1) (b := 257) (by omega) (by decide) h53
                    exact absurd h53 (by omega)
                · skip
                  exact absurd h26 (by decide)
    · have hv : q_isv (q_kd T s.1) = false := by
        cases z : q_isv (q_kd T s.1) with
        | false => rfl
        | true => exact absurd z hv
      have hv2 := of_decide_eq_false hv
      by_cases k7 : q_kd T s.1 = 257
      · rw [q_V_long k7]
        rw [k7] at mk
        refine qx_M_in rfl (Nat.le_of_ble_eq_true rfl) ?_
        refine qy_wp_ok (c := CX5_readValue) (cuts := []) vX5_readValue wX5_readValue 2000 0 _ _ _ ?_
        refine And.intro rfl (Exists.intro _ (And.intro (by decide) (qx_M_mono (mk) ?_)))
        rintro _ _ ⟨rfl, rfl⟩
        refine Exists.intro (nI 300) (And.intro rfl ?_)
        refine And.intro (fun h9 => ?_) (fun h9 => ?_)
        · skip
          refine Exists.intro (nI 0) (And.intro rfl ?_)
          refine And.intro (fun h26 => ?_) (fun h26 => ?_)
          · skip
            exact absurd (by decide) h26
          · skip
            refine Exists.intro (nI 256) (And.intro rfl ?_)
            refine And.intro (fun h33 => ?_) (fun h33 => ?_)
            · skip
              exact absurd h33 (by decide)
            · skip
              refine Exists.intro (nI 257) (And.intro rfl ?_)
              refine And.intro (fun h40 => ?_) (fun h40 => ?_)
              · skip
                refine Exists.intro (nI 257) (And.intro rfl ?_)
                refine And.intro (fun h53 => ?_) (fun h53 => ?_)
                · skip
                  exact absurd (by decide) h53
                · skip
                  refine Exists.intro (nI 1) (And.intro rfl ?_)
                  refine And.intro rfl (Exists.intro _ (And.intro (by decide) (qx_M_mono (c_fail h.1) ?_)))
                  rintro _ σ1 ⟨rfl, fσ1, gσ1⟩
                  refine And.intro (bI_01 _) ?_
                  exact ⟨fA.of fσ1 (by simp), rfl, gσ1⟩
              · skip
                exact absurd (by decide) h40
        · skip
          exact absurd (by decide) h9
      · rw [q_V_no hv k7]
        refine qx_M_in rfl (Nat.le_of_ble_eq_true rfl) ?_
        refine qy_wp_ok (c := CX5_readValue) (cuts := [49]) vX5_readValue wX5_readValue 2000 0 _ _ _ ?_
        refine And.intro rfl (Exists.intro _ (And.intro (by decide) (qx_M_mono (mk) ?_)))
        rintro _ _ ⟨rfl, rfl⟩
        refine Exists.intro (nI 300) (And.intro rfl ?_)
        refine And.intro (fun h9 => ?_) (fun h9 => ?_)
        · skip
          have h9 := nI_ltT (a := q_kd T s.1) (b := 300) (by omega) (by decide) h9
          refine Exists.intro (nI 0) (And.intro rfl ?_)
          refine And.intro (fun h26 => ?_) (fun h26 => ?_)
          · skip
            exact absurd (by decide) h26
          · skip
            refine Exists.intro (nI 256) (And.intro rfl ?_)
            refine And.intro (fun h33 => ?_) (fun h33 => ?_)
            · skip
              have h33 := nI_eqT (a := q_kd T s.1) (b := 256) (by omega) (by decide) h33
              first | exact absurd h33 (by omega) | exact absurd h40 (by omega)
            · skip
              have h33 := nI_neT (a := q_kd T s.1) (b := 256) (by omega) (by decide) h33
              refine Exists.intro (nI 257) (And.intro rfl ?_)
              refine And.intro (fun h40 => ?_) (fun h40 => ?_)
              · skip
                have h40 := nI_eqT (a := q_kd T s.1) (b := 257) (by omega) (by decide) h40
                first | exact absurd h33 (by omega) | exact absurd h40 (by omega)
              · skip
                have h40 := nI_neT (a := q_kd T s.1) (b := 257) (by omega) (by decide) h40
                refine Exists.intro (nI 0) (And.intro rfl ?_)
                refine And.intro rfl (Exists.intro _ (And.intro (by decide) (qx_M_mono (c_fail h.1) ?_)))
                rintro _ σ1 ⟨rfl, fσ1, gσ1⟩
                refine And.intro (bI_01 _) ?_
                exact ⟨fA.of fσ1 (by simp), rfl, gσ1⟩
        · skip
          have h9 := nI_ltF (a := q_kd T s.1) (b := 300) (by omega) (by decide) h9
          refine Exists.intro (nI 312) (And.intro rfl ?_)
          refine And.intro (fun h16 => ?_) (fun h16 => ?_)
          · skip
            have h16 := nI_leT (a := 312) (b := q_kd T s.1) (by decide) (by omega) h16
            refine Exists.intro (nI 0) (And.intro rfl ?_)
            refine And.intro (fun h26 => ?_) (fun h26 => ?_)
            · skip
              exact absurd (by decide) h26
            · skip
              refine Exists.intro (nI 256) (And.intro rfl ?_)
              refine And.intro (fun h33 => ?_) (fun h33 => ?_)
              · skip
                have h33 := nI_eqT (a := q_kd T s.1) (b := 256) (by omega) (by decide) h33
                first | exact absurd h33 (by omega) | exact absurd h40 (by omega)
              · skip
                have h33 := nI_neT (a := q_kd T s.1) (b := 256) (by omega) (by decide) h33
                refine Exists.intro (nI 257) (And.intro rfl ?_)
                refine And.intro (fun h40 => ?_) (fun h40 => ?_)
                · skip
                  have h40 := nI_eqT (a := q_kd T s.1) (b := 257) (by omega) (by decide) h40
                  first | exact absurd h33 (by omega) | exact absurd h40 (by omega)
                · skip
                  have h40 := nI_neT (a := q_kd T s.1) (b := 257) (by omega) (by decide) h40
                  refine Exists.intro (nI 0) (And.intro rfl ?_)
                  refine And.intro rfl (Exists.intro _ (And.intro (by decide) (qx_M_mono (c_fail h.1) ?_)))
                  rintro _ σ1 ⟨rfl, fσ1, gσ1⟩
                  refine And.intro (bI_01 _) ?_
                  exact ⟨fA.of fσ1 (by simp), rfl, gσ1⟩
          · skip
            have h16 := nI_leF (a := 312) (b := q_kd T s.1) (by decide) (by omega) h16
            exact absurd h16 (by omega)

