/-! THE CLASS: words of the tape -/
def q_TX : List Nat := [112, 101, 114, 115, 111, 110, 32, 119, 101, 105, 103, 104, 116, 32, 104, 111, 109, 101, 32, 97, 116, 32, 116, 111, 32, 119, 105, 115, 104, 32, 119, 105, 116, 104, 32, 111, 116, 104, 101, 114, 32, 114, 105, 110, 103, 32, 111, 119, 101, 115, 32, 100, 97, 121, 32, 109, 111, 118, 101, 100, 32, 112, 108, 97, 99, 101, 115, 32, 98, 101, 110, 99, 104, 32, 99, 97, 108, 108, 32, 98, 97, 114, 32, 119, 97, 110, 116, 32, 105, 102, 32, 111, 114, 32, 97, 110, 100, 32, 110, 111, 116]
def q_tx (i : Nat) : Nat := q_TX.getD i 32
/-- where a word began, and which it is -/
def q_bw2 : Nat → Nat × Nat
  | 0 => (0, 0)
  | i + 1 => if q_tx i = 32 then (i + 1, (q_bw2 i).2 + 1) else q_bw2 i
def q_pkf (f : Nat → Nat) (s : Nat) : Nat → Nat
  | 0 => 0
  | k + 1 => 256 * q_pkf f s k + f (s + k)
theorem q_pkf_T (T : q_T) (s : Nat) : ∀ k, q_pkf T.2 s k = q_pk T s k
  | 0 => rfl
  | k + 1 => by show 256 * q_pkf T.2 s k + T.2 (s + k) = 256 * q_pk T s k + T.2 (s + k); rw [q_pkf_T T s k]
theorem q_pkf_inj {f g : Nat → Nat} {s b : Nat} : ∀ k k', (∀ x, x < k → 0 < f (s + x) ∧ f (s + x) < 256) → (∀ x, x < k' → 0 < g (b + x) ∧ g (b + x) < 256) → q_pkf f s k = q_pkf g b k' → k = k' ∧ ∀ x, x < k → f (s + x) = g (b + x)
  | 0, 0, _, _, _ => ⟨rfl, fun x hx => absurd hx (by omega)⟩
  | 0, k' + 1, _, hg, h => by
    exfalso
    have h : 0 = 256 * q_pkf g b k' + g (b + k') := h
    have := hg k' (by omega)
    omega
  | k + 1, 0, hf, _, h => by
    exfalso
    have h : 256 * q_pkf f s k + f (s + k) = 0 := h
    have := hf k (by omega)
    omega
  | k + 1, k' + 1, hf, hg, h => by
    have h : 256 * q_pkf f s k + f (s + k) = 256 * q_pkf g b k' + g (b + k') := h
    have a := hf k (by omega)
    have c := hg k' (by omega)
    obtain ⟨e, ex⟩ := q_pkf_inj k k' (fun x hx => hf x (by omega)) (fun x hx => hg x (by omega)) (by omega)
    subst e
    refine ⟨rfl, fun x hx => ?_⟩
    rcases Nat.lt_or_ge x k with z | z
    · exact ex x z
    · obtain rfl : x = k := by omega
      omega
theorem q_pkf_cg {f g : Nat → Nat} {s b : Nat} : ∀ k, (∀ x, x < k → f (s + x) = g (b + x)) → q_pkf f s k = q_pkf g b k
  | 0, _ => rfl
  | k + 1, h => by
    show 256 * q_pkf f s k + f (s + k) = 256 * q_pkf g b k + g (b + k)
    rw [q_pkf_cg k (fun x hx => h x (by omega)), h k (by omega)]
/-- the table of words -/
theorem q_wtab : ∀ i, i ≤ 101 → (i = 101 ∨ q_tx i = 32) → (q_bw2 i).1 < i ∧ i - (q_bw2 i).1 < 8 ∧ (q_bw2 i).2 < 21 ∧ q_pkf q_tx (q_bw2 i).1 (i - (q_bw2 i).1) = q_WS.getD (q_bw2 i).2 0 ∧ (∀ x, x < i - (q_bw2 i).1 → 0 < q_tx ((q_bw2 i).1 + x) ∧ q_tx ((q_bw2 i).1 + x) < 256) := by decide +kernel
theorem q_wtab2 : ∀ i, i ≤ 101 → (q_bw2 i).1 ≤ i ∧ (q_bw2 i).2 ≤ i := by decide +kernel
theorem q_tx_lt : ∀ i, i < 101 → q_tx i < 128 := by decide +kernel
theorem q_bw2_end : (q_bw2 101).2 = 20 := by decide +kernel
/-- does the word at s, of l letters, stand there? -/
def q_mtw (T : q_T) (s b e : Nat) : Bool := decide (∀ x, x < e - b → q_see T (s + x) = nI (q_tx (b + x)))
theorem q_mt_w {T : q_T} {s i : Nat} (hb : ∀ k, k < T.1 → T.2 k < 256) (hs : s ≤ T.1) (hi : i ≤ 101) (hw : i = 101 ∨ q_tx i = 32) : (i - (q_bw2 i).1 = q_wn T s ∧ q_mtw T s (q_bw2 i).1 i = true) ↔ q_isw T s (q_WS.getD (q_bw2 i).2 0) = true := by
  obtain ⟨t1, t2, t3, t4, t5⟩ := q_wtab i hi hw
  have hle : q_le T s ≤ T.1 := q_rn_le _ hs
  have hge : s ≤ q_le T s := q_rn_ge _ _ _
  have hL : ∀ x, x < q_wn T s → s + x < T.1 ∧ 97 ≤ T.2 (s + x) ∧ T.2 (s + x) ≤ 122 := fun x hx => isL_lt (q_rn_in (f := isL T) (n := T.1) (i := s) (by omega) (by unfold q_wn at hx; show s + x < q_le T s; omega))
  unfold q_mtw q_isw
  rw [decide_eq_true_eq, decide_eq_true_eq]
  constructor
  · rintro ⟨e, m⟩
    refine ⟨by omega, by omega, ?_⟩
    rw [← t4, ← e, ← q_pkf_T]
    refine q_pkf_cg _ (fun x hx => ?_)
    have h1 := hL x (by omega)
    have h2 := m x hx
    have h3 := (t5 x hx).2
    unfold q_see at h2
    rw [if_pos h1.1, nI_eq (by omega) (by omega)] at h2
    exact h2
  · rintro ⟨p1, p2, p3⟩
    rw [← t4, ← q_pkf_T] at p3
    obtain ⟨e, ex⟩ := q_pkf_inj _ _ (fun x hx => by have := hL x hx; omega) t5 p3
    refine ⟨e.symm, fun x hx => ?_⟩
    have h1 := hL x (by omega)
    unfold q_see
    rw [if_pos h1.1, ex x (by omega)]
/-- the kind so far -/
def q_ks (T : q_T) (s : Nat) (n : Nat) : Nat := if q_wx T s < n then 300 + q_wx T s else 260
theorem q_ks_s {T : q_T} {s n : Nat} (hn : n < 21) : q_ks T s (n + 1) = if q_isw T s (q_WS.getD n 0) = true then 300 + n else q_ks T s n := by
  have key : q_isw T s (q_WS.getD n 0) = true ↔ q_wx T s = n := by
    unfold q_isw q_wx
    rw [decide_eq_true_eq]
    constructor
    · rintro ⟨a, b, c⟩
      rw [if_pos ⟨a, b⟩, c, q_ws_i n hn]
    · intro h
      split at h
      · next z => exact ⟨z.1, z.2, q_ws_g hn h⟩
      · omega
  unfold q_ks
  by_cases z : q_isw T s (q_WS.getD n 0) = true
  · rw [if_pos z, if_pos (by have := key.mp z; omega), key.mp z]
  · rw [if_neg z]
    have : q_wx T s ≠ n := fun y => z (key.mpr y)
    by_cases y : q_wx T s < n
    · rw [if_pos y, if_pos (by omega)]
    · rw [if_neg y, if_neg (by omega)]
theorem q_ks_21 (T : q_T) (s : Nat) : q_ks T s 21 = if q_wx T s < 21 then 300 + q_wx T s else 260 := rfl
