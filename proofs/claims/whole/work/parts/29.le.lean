/-- what is known of locals may be forgotten -/
def qx_le : List Value → List Value → Prop
  | [], [] => True
  | x :: xs, y :: ys => (x = .retAddr 0 ∨ x = y) ∧ qx_le xs ys
  | _, _ => False
theorem qx_le_spec : ∀ (a b : List Value), qx_le a b → a.length = b.length ∧ ∀ (i : Nat) (v : Value), a[i]? = some v → v = .retAddr 0 ∨ b[i]? = some v
  | [], [], _ => ⟨rfl, fun i v h => by simp at h⟩
  | [], _ :: _, h => h.elim
  | _ :: _, [], h => h.elim
  | x :: xs, y :: ys, h => by
    obtain ⟨h1, h2⟩ := h
    obtain ⟨k1, k2⟩ := qx_le_spec xs ys h2
    refine ⟨by simp [k1], fun i v hv => ?_⟩
    cases i with
    | zero =>
      simp at hv
      subst hv
      rcases h1 with e | e
      · exact Or.inl e
      · right; simp [e]
    | succ i =>
      simp at hv ⊢
      exact k2 i v hv
theorem qx_K_le {G : qx_G} {T : qx_T} {d : Nat} {own : String} {Y : qx_Y} {pc : Nat} {ls ls' st : List Value} {σ : qx_S} {Φ : qx_F} (h : qx_le ls ls') (hk : qx_K G T d own Y pc ls st σ Φ) : qx_K G T d own Y pc ls' st σ Φ := by
  obtain ⟨r, σ', hΦ, n1, n2, hw⟩ := hk
  obtain ⟨k1, k2⟩ := qx_le_spec _ _ h
  refine ⟨r, σ', hΦ, n1, n2, fun p e R s m args below meth c H locs cells slots lsA hcx hf hlo hc hs hR hb hS hl => ?_⟩
  refine hw p e R s m args below meth c H locs cells slots lsA hcx hf hlo hc hs hR hb hS ⟨hl.1, hl.2.1, k1.trans hl.2.2.1, fun i v hv => ?_⟩
  rcases k2 i v hv with e | e
  · exact Or.inl e
  · exact hl.2.2.2 i v e
theorem qx_M_d {G : qx_G} {T : qx_T} {d d' : Nat} {Y : qx_Y} {as : List Value} {σ : qx_S} {Φ : qx_F} (h : qx_M G T d Y as σ Φ) (hd : d < d') : qx_call G T d' Y as σ Φ := ⟨d, hd, h⟩
theorem qn_rowS {s σ : qx_S} {a k : Nat} {v : Int32} (e : s = qx_wi σ a k v) {S : Nat → Int32} (hS : qx_mi σ a = S) : qx_mi s a = va_up S k v := by
  rw [← hS]
  exact qn_row e
/-- is it one of n? -/
def q_is (x : Int32) (n : Nat) : Bool := decide (0 ≤ x) && decide (x < nI n)
theorem q_is_t {x : Int32} {n : Nat} (h : q_is x n = true) (hn : n < 2147483648) : ∃ k, k < n ∧ x = nI k := by
  unfold q_is at h
  rw [Bool.and_eq_true] at h
  have h1 := of_decide_eq_true h.1
  have h2 := of_decide_eq_true h.2
  obtain ⟨j, hj, rfl⟩ := nI_of (x := x) (Int32.not_lt.mpr h1)
  exact ⟨j, (nI_ltI hj hn).mp h2, rfl⟩
theorem q_is_nI {k n : Nat} (hk : k < 2147483648) (hn : n < 2147483648) : q_is (nI k) n = decide (k < n) := by
  unfold q_is
  rw [decide_eq_true (nI_pos' hk), Bool.true_and]
  exact decide_eq_decide.mpr (nI_ltI hk hn)
theorem q_is_iff {x : Int32} {n : Nat} (hn : n < 2147483648) : q_is x n = true ↔ ∃ k, k < n ∧ x = nI k :=
  ⟨fun h => q_is_t h hn, fun ⟨k, hk, e⟩ => by rw [e, q_is_nI (by omega) hn]; exact decide_eq_true hk⟩
