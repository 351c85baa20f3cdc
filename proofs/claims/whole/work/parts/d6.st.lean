/-! THE CLASS: a STATE -/
/-- a standing: where, what is owed, moves, day, rings -/
def q_nw (S : qS) : Nat → Int32 := fun i => if i < 10 then S (10 + 5 * i) else if i < 110 then S (154 + (i - 10)) else if i < 120 then S (10 + 5 * (i - 110) + 4) else if i < 121 then S 3 else S 6
def q_slt (S : qS) (u : Nat) : Nat → Int32 := fun i => S (348 + 122 * u + i)
def zR (σ : qx_S) (a pe : Nat) (f : Nat → Int32) : Prop := qx_mi σ a 4 = f 120 ∧ qx_mi σ a 5 = f 121 ∧ (∀ p, p < pe → qx_mi σ (a + 1) p = f p ∧ qx_mi σ (a + 2) p = f (110 + p)) ∧ (∀ k, k < 100 → qx_mi σ (a + 3) k = f (10 + k)) ∧ ∀ p, p < 10 → qx_mi σ (a + 4) p = q_sum (fun k => f (10 + 10 * p + k)) 10
theorem zR.fb {σ s : qx_S} {a pe : Nat} {f : Nat → Int32} (h : zR σ a pe f) (k : ∀ y j, a ≤ y → y ≤ a + 4 → qx_mi s y j = qx_mi σ y j) : zR s a pe f :=
  ⟨(k _ _ (by omega) (by omega)).trans h.1, (k _ _ (by omega) (by omega)).trans h.2.1, fun p hp => ⟨(k _ _ (by omega) (by omega)).trans (h.2.2.1 p hp).1, (k _ _ (by omega) (by omega)).trans (h.2.2.1 p hp).2⟩, fun j hj => (k _ _ (by omega) (by omega)).trans (h.2.2.2.1 j hj), fun p hp => (k _ _ (by omega) (by omega)).trans (h.2.2.2.2 p hp)⟩
theorem zR.cp {σ s : qx_S} {a b pe : Nat} {f : Nat → Int32} (h : zR σ b pe f) (hpe : pe ≤ 10) (c : cpS σ s a b) : zR s a pe f :=
  ⟨(c.1 4 (by omega)).trans h.1, (c.1 5 (by omega)).trans h.2.1, fun p hp => ⟨(c.2.1 p (by omega)).1.trans (h.2.2.1 p hp).1, (c.2.1 p (by omega)).2.trans (h.2.2.1 p hp).2⟩, fun j hj => (c.2.2.1 j hj).trans (h.2.2.2.1 j hj), fun p hp => (c.2.2.2 p hp).trans (h.2.2.2.2 p hp)⟩
theorem zR.cg {σ : qx_S} {a pe : Nat} {f f' : Nat → Int32} (h : zR σ a pe f) (hpe : pe ≤ 10) (e : ∀ i, i < 122 → f' i = f i) : zR σ a pe f' := by
  refine ⟨h.1.trans (e _ (by omega)).symm, h.2.1.trans (e _ (by omega)).symm, fun p hp => ⟨(h.2.2.1 p hp).1.trans (e _ (by omega)).symm, (h.2.2.1 p hp).2.trans (e _ (by omega)).symm⟩, fun k hk => (h.2.2.2.1 k hk).trans (e _ (by omega)).symm, fun p hp => (h.2.2.2.2 p hp).trans ?_⟩
  have : ∀ n, n ≤ 10 → q_sum (fun k => f (10 + 10 * p + k)) n = q_sum (fun k => f' (10 + 10 * p + k)) n := by
    intro n
    induction n with
    | zero => intro _; rfl
    | succ n ih => intro hn; show _ + f (10 + 10 * p + n) = _ + f' (10 + 10 * p + n); rw [ih (by omega), e (10 + 10 * p + n) (by omega)]
  exact this 10 (by omega)
/-- a ring's cells -/
def rG (σ : qx_S) (y : Nat) (n : Int32) (f : Nat → Int32) : Prop := qx_mi σ y 1 = n ∧ ∀ j, j < n.toNatClampNeg → qx_mi σ (y + 1) j = f j
/-- the state at b -/
def cSt (σ : qx_S) (b : Nat) (S : qS) : Prop := dR σ (b + 1) S ∧ zR σ (b + 6) (s_n S 1) (q_nw S) ∧ (∃ pf, pf < 20 ∧ qx_mi σ b 6 = nI pf ∧ ∀ i, i < s_n S 9 → zR σ (b + 16 + 5 * ((pf + i) % 20)) (s_n S 1) (q_slt S i)) ∧ rG σ (b + 12) (S 4) (fun j => S (148 + j)) ∧ (∀ i, i < s_n S 5 → rG σ (b + 116 + 2 * i) (S (254 + 7 * i)) (fun j => S (254 + 7 * i + 1 + j))) ∧ (∀ p, p < s_n S 1 → qx_mi σ (b + 15) p = S (338 + p)) ∧ qx_mi σ b 7 = S 9 ∧ qx_mi σ b 8 = S 5 ∧ qx_mi σ b 9 = S 7 ∧ qx_mi σ b 10 = S 8
/-- its rows of references, and its shapes -/
def cSh (σ : qx_S) (b : Nat) : Prop := qx_sh qc_T σ b = (16, 0) ∧ shL σ (b + 1) ∧ shS σ (b + 6) ∧ qx_sh qc_T σ (b + 11) = (6, 20) ∧ shG σ (b + 12) ∧ qx_sh qc_T σ (b + 14) = (4, 12) ∧ qx_sh qc_T σ (b + 15) = (0, 10) ∧ (∀ i, i < 20 → qx_mr σ (b + 11) i = some (b + 16 + 5 * i) ∧ shS σ (b + 16 + 5 * i)) ∧ ∀ i, i < 12 → qx_mr σ (b + 14) i = some (b + 116 + 2 * i) ∧ shG σ (b + 116 + 2 * i)
theorem cSt.fb {σ s : qx_S} {b : Nat} {S : qS} (h : cSt σ b S) (g : gD S) (h5 : s_n S 5 ≤ 12) (k : ∀ y j, b ≤ y → y ≤ b + 139 → qx_mi s y j = qx_mi σ y j) : cSt s b S := by
  obtain ⟨a1, a2, ⟨pf, p1, p2, p3⟩, a4, a5, a6, a7, a8, a9, a10⟩ := h
  refine ⟨a1.fb g (fun i hi j => k _ _ (by omega) (by omega)), a2.fb (fun y j _ _ => k _ _ (by omega) (by omega)), ⟨pf, p1, (k _ _ (by omega) (by omega)).trans p2, fun i hi => (p3 i hi).fb (fun y j h1 h2 => k _ _ (by omega) (by have := Nat.mod_lt (pf + i) (show 0 < 20 by decide); omega))⟩, ⟨(k _ _ (by omega) (by omega)).trans a4.1, fun j hj => (k _ _ (by omega) (by omega)).trans (a4.2 j hj)⟩, fun i hi => ⟨(k _ _ (by omega) (by omega)).trans (a5 i hi).1, fun j hj => (k _ _ (by omega) (by omega)).trans ((a5 i hi).2 j hj)⟩, fun p hp => (k _ _ (by omega) (by omega)).trans (a6 p hp), (k _ _ (by omega) (by omega)).trans a7, (k _ _ (by omega) (by omega)).trans a8, (k _ _ (by omega) (by omega)).trans a9, (k _ _ (by omega) (by omega)).trans a10⟩
def k15 (l : List (Nat × Option Nat)) : Bool := l.all (fun q => cond (Nat.ble q.1 154) (Nat.blt q.1 15) true)
theorem k15_ne {l : List (Nat × Option Nat)} (h : k15 l = true) {x j : Nat} (h1 : 15 ≤ x) (h2 : x ≤ 154) : pL l x j = false := by
  refine pL_ne (fun q hq => Or.inl (fun z => ?_))
  have k := List.all_eq_true.mp h q hq
  rw [z, Nat.ble_eq_true_of_le h2] at k
  have := Nat.le_of_ble_eq_true (show Nat.ble (x + 1) 15 = true from k)
  omega
theorem cSt.fr {σ s : qx_S} {S : qS} {l : List (Nat × Option Nat)} (h : cSt σ 15 S) (g : gD S) (h5 : s_n S 5 ≤ 12) (f : ql l σ s) (hl : k15 l = true) : cSt s 15 S := h.fb g h5 (fun y j h1 h2 => f.i _ _ (k15_ne hl h1 (by omega)))
theorem cSt.gr {σ s : qx_S} {S : qS} {l : List (Nat × Option Nat)} (h : cSt σ 15 S) (g : gD S) (h5 : s_n S 5 ≤ 12) (f : qg l σ s) (hl : k15 l = true) : cSt s 15 S := h.fb g h5 (fun y j h1 h2 => f.iv (by have := f.1; omega) (Or.inl (by omega)) (k15_ne hl h1 (by omega)))
/-- what is owed is owed among those who are there; the book, who is called, the past are sound -/
def gO (f : Nat → Int32) (pe : Nat) : Prop := ∀ p k, p < 10 → k < 10 → pe ≤ p ∨ pe ≤ k → f (10 + 10 * p + k) = 0
theorem q_sum_cut {f : Nat → Int32} {n : Nat} : ∀ m, n ≤ m → (∀ k, n ≤ k → k < m → f k = 0) → q_sum f m = q_sum f n := by
  intro m
  induction m with
  | zero => intro h _; rw [show n = 0 by omega]
  | succ m ih =>
    intro h hz
    rcases Nat.lt_or_ge m n with h1 | h1
    · rw [show n = m + 1 by omega]
    · show q_sum f m + f m = _
      rw [ih h1 (fun k h2 h3 => hz k h2 (by omega)), hz m h1 (by omega)]
      exact Int32.add_zero _
theorem q_sum_cg {f g : Nat → Int32} : ∀ n, (∀ k, k < n → f k = g k) → q_sum f n = q_sum g n
  | 0, _ => rfl
  | n + 1, h => by
    show _ + _ = _ + _
    rw [q_sum_cg n (fun k hk => h k (by omega)), h n (by omega)]
theorem q_nw_at (S : qS) {p : Nat} (h : p < 10) : q_nw S p = S (10 + 5 * p) := if_pos h
theorem q_nw_ow (S : qS) {k : Nat} (h : k < 100) : q_nw S (10 + k) = S (154 + k) := by
  unfold q_nw
  rw [if_neg (by omega), if_pos (by omega)]
  exact congrArg S (by omega)
theorem q_nw_mv (S : qS) {p : Nat} (h : p < 10) : q_nw S (110 + p) = S (10 + 5 * p + 4) := by
  unfold q_nw
  rw [if_neg (by omega), if_neg (by omega), if_pos (by omega)]
  exact congrArg S (by omega)
theorem q_nw_dy (S : qS) : q_nw S 120 = S 3 := rfl
theorem q_nw_rg (S : qS) : q_nw S 121 = S 6 := rfl
/-- sound -/
def gT (S : qS) : Prop := gL S ∧ gO (q_nw S) (s_n S 1) ∧ iC S ∧ iB S ∧ (S 9 = nI (s_n S 9) ∧ s_n S 9 ≤ 20) ∧ ∀ u, u < s_n S 9 → gO (q_slt S u) (s_n S 1) ∧ ∀ p, p < s_n S 1 → ∃ v, v < s_n S 0 ∧ q_slt S u p = nI v
theorem gT.debt {S : qS} (h : gT S) {p : Nat} (hp : p < 10) : q_sum (fun k => q_nw S (10 + 10 * p + k)) 10 = if p < s_n S 1 then q_sum (fun k => S (154 + 10 * p + k)) (s_n S 1) else 0 := by
  have hpe := h.1.1.2.1.2
  split
  · next hp2 =>
    rw [q_sum_cut 10 hpe (fun k h1 h2 => h.2.1 p k hp h2 (Or.inr h1))]
    exact q_sum_cg _ (fun k hk => (congrArg (q_nw S) (by omega)).trans ((q_nw_ow S (k := 10 * p + k) (by omega)).trans (congrArg S (by omega))))
  · next hp2 => exact q_sum_cut (n := 0) 10 (by omega) (fun k _ h2 => h.2.1 p k hp h2 (Or.inl (by omega)))
/-- what the laws look at, of the state at 15 -/
theorem cSt.wL {σ : qx_S} {S : qS} (h : cSt σ 15 S) (g : gT S) (h6 : qx_mr σ 156 6 = some 21) : wL σ S 21 := by
  have hpe := g.1.1.2.1.2
  refine ⟨h6, Or.inl rfl, h.1, h.2.1.1, fun p hp => ⟨(h.2.1.2.2.2.2 p (by omega)).trans ((g.debt (by omega)).trans (if_pos hp)), (h.2.1.2.2.1 p hp).2.trans (q_nw_mv S (by omega))⟩⟩

