/-! THE CLASS: SITUATIONS, slots -/
/-- a search's object -/
def shQ (σ : qx_S) (b : Nat) : Prop := qx_sh qc_T σ b = (14, 0) ∧ (∀ i, 1 ≤ i → i ≤ 5 → qx_sh qc_T σ (b + i) = (0, 2001)) ∧ qx_sh qc_T σ (b + 6) = (0, 4096)
theorem shQ.fr {σ s : qx_S} {b : Nat} {P : Nat → Nat → Bool} (h : shQ σ b) (f : qf P σ s) : shQ s b := ⟨(f.s _).trans h.1, fun i h1 h2 => (f.s _).trans (h.2.1 i h1 h2), (f.s _).trans h.2.2⟩
def q_h2 (n : Nat) : Nat := (q_us (nI n * (-1640531535)) 20).toNatClampNeg
theorem q_us20 (x : Int32) : q_us x 20 = nI (q_us x 20).toNatClampNeg ∧ (q_us x 20).toNatClampNeg < 4096 := by
  have h : ∃ k, k < 4096 ∧ q_us x 20 = nI k := by
    refine ⟨x.toUInt32.toNat / 2 ^ 20, ?_, ?_⟩
    · have := x.toUInt32.toNat_lt
      omega
    · unfold q_us
      apply Int32.toBitVec_inj.1
      have e : ((nI 20).toUInt32 &&& Int32.toUInt32 31) = 20 := by decide
      rw [e]
      show (x.toUInt32 >>> 20).toBitVec = BitVec.ofNat 32 (x.toUInt32.toNat / 2 ^ 20)
      apply BitVec.eq_of_toNat_eq
      have l := x.toUInt32.toNat_lt
      rw [BitVec.toNat_ofNat, Nat.mod_eq_of_lt (by omega)]
      show (x.toUInt32 >>> 20).toNat = _
      rw [UInt32.toNat_shiftRight]
      show x.toUInt32.toNat >>> (20 % 32) = _
      rw [Nat.shiftRight_eq_div_pow]
  obtain ⟨k, h1, h2⟩ := h
  have e : (q_us x 20).toNatClampNeg = k := (congrArg Int32.toNatClampNeg h2).trans (nI_clamp (by omega))
  rw [e]
  exact ⟨h2, h1⟩
theorem q_h2_lt (n : Nat) : q_h2 n < 4096 := (q_us20 _).2
theorem l_slot {G : qx_G} {σ : qx_S} {b size n : Nat} {code sl : Nat → Nat} (hb : 229 ≤ b) (hq : shQ σ b) (hs : size ≤ 2001) (H : hI q_h2 code size sl) (hsl : ∀ j, j < 4096 → qx_mi σ (b + 6) j = nI (sl j)) (hcd : ∀ i, i < size → qx_mi σ (b + 1) i = nI (code i) ∧ code i < 1073741824) (hn : n < 1073741824) {D : Nat} (hD : D < 4096) (hD0 : sl ((q_h2 n + D) % 4096) = 0) : ∀ (m d : Nat), m + d = D → (∀ t, t < d → sl ((q_h2 n + t) % 4096) ≠ 0 ∧ code (sl ((q_h2 n + t) % 4096) - 1) ≠ n) → qx_K G qc_T 0 RX6 YX6_slotOf 10 [.ref b, .int (nI n), .int (nI ((q_h2 n + d) % 4096)), .int (nI d), .retAddr 0] [] σ (fun r s => ∃ j, r = some (.int (nI j)) ∧ σ = s ∧ (j < 4096 ∧ hE q_h2 code sl n j)) := by
  have s6 := hq.2.2
  have s1 := hq.2.1 1 (by decide) (by decide)
  intro m
  induction m with
  | zero =>
    intro d hm hp
    obtain rfl : d = D := by omega
    have hj : (q_h2 n + d) % 4096 < 4096 := Nat.mod_lt _ (by decide)
    obtain ⟨j, ej⟩ : ∃ j, j = (q_h2 n + d) % 4096 := ⟨_, rfl⟩
    rw [← ej] at hj hD0 ⊢
    refine qy_wp_ok (c := CX6_slotOf) (cuts := [10]) vX6_slotOf wX6_slotOf 2000 10 _ _ _ ?_
    refine Exists.intro (nI 4096) (And.intro rfl ?_)
    refine And.intro (fun h14 => ?_) (fun h14 => ?_)
    · skip
      have h14 := nI_leT (a := 4096) (b := d) (by decide) (by omega) h14
      exact absurd h14 (by omega)
    · skip
      have h14 := nI_leF (a := 4096) (b := d) (by decide) (by omega) h14
      refine And.intro (by rw [show qx_sh qc_T _ b = _ from hq.1]; rfl) (Exists.intro (b + 6) (And.intro rfl ?_))
      refine Exists.intro (j) (Exists.intro (nI 0) (And.intro rfl (And.intro ⟨4096, s6, by omega, by decide⟩ (And.intro ((hsl _ hj).trans (congrArg nI hD0)) ?_))))
      refine And.intro (fun h27 => ?_) (fun h27 => ?_)
      · skip
        exact ⟨j, rfl, rfl, hj, d, hD, ej, hp, Or.inl hD0⟩
      · skip
        exact absurd (by decide) h27
  | succ m ih =>
    intro d hm hp
    have hj : (q_h2 n + d) % 4096 < 4096 := Nat.mod_lt _ (by decide)
    have en : (q_h2 n + (d + 1)) % 4096 = ((q_h2 n + d) % 4096 + 1) % 4096 := by omega
    have z := ih (d + 1) (by omega)
    rw [en] at z
    obtain ⟨j, ej⟩ : ∃ j, j = (q_h2 n + d) % 4096 := ⟨_, rfl⟩
    have hp2 : sl j ≠ 0 → code (sl j - 1) ≠ n → ∀ t, t < d + 1 → sl ((q_h2 n + t) % 4096) ≠ 0 ∧ code (sl ((q_h2 n + t) % 4096) - 1) ≠ n := fun h1 h2 t ht => by
      by_cases w : t = d
      · rw [w, ← ej]; exact ⟨h1, h2⟩
      · exact hp t (by omega)
    rw [← ej] at hj z ⊢
    have hl := H.1 j hj
    have ea : (j + 1) &&& 4095 = (j + 1) % 4096 := Nat.and_two_pow_sub_one_eq_mod _ 12
    rcases Nat.eq_zero_or_pos (sl j) with h0 | h0
    · skip
      refine qy_wp_ok (c := CX6_slotOf) (cuts := [10]) vX6_slotOf wX6_slotOf 2000 10 _ _ _ ?_
      refine Exists.intro (nI 4096) (And.intro rfl ?_)
      refine And.intro (fun h14 => ?_) (fun h14 => ?_)
      · skip
        have h14 := nI_leT (a := 4096) (b := d) (by decide) (by omega) h14
        exact absurd h14 (by omega)
      · skip
        have h14 := nI_leF (a := 4096) (b := d) (by decide) (by omega) h14
        refine And.intro (by rw [show qx_sh qc_T _ b = _ from hq.1]; rfl) (Exists.intro (b + 6) (And.intro rfl ?_))
        refine Exists.intro (j) (Exists.intro (nI 0) (And.intro rfl (And.intro ⟨4096, s6, by omega, by decide⟩ (And.intro ((hsl _ hj).trans (congrArg nI h0)) ?_))))
        refine And.intro (fun h27 => ?_) (fun h27 => ?_)
        · skip
          exact ⟨j, rfl, rfl, hj, d, by omega, ej, hp, Or.inl h0⟩
        · skip
          exact absurd (by decide) h27
    · obtain ⟨c1, c2⟩ := hcd (sl j - 1) (by omega)
      refine qy_wp_ok (c := CX6_slotOf) (cuts := [10]) vX6_slotOf wX6_slotOf 2000 10 _ _ _ ?_
      refine Exists.intro (nI 4096) (And.intro rfl ?_)
      refine And.intro (fun h14 => ?_) (fun h14 => ?_)
      · skip
        have h14 := nI_leT (a := 4096) (b := d) (by decide) (by omega) h14
        exact absurd h14 (by omega)
      · skip
        have h14 := nI_leF (a := 4096) (b := d) (by decide) (by omega) h14
        refine And.intro (by rw [show qx_sh qc_T _ b = _ from hq.1]; rfl) (Exists.intro (b + 6) (And.intro rfl ?_))
        refine Exists.intro (j) (Exists.intro (nI (sl j)) (And.intro rfl (And.intro ⟨4096, s6, by omega, by decide⟩ (And.intro (hsl _ hj) ?_))))
        refine And.intro (fun h27 => ?_) (fun h27 => ?_)
        · skip
          have h27 := nI_eqT (a := sl j) (b := 0) (by omega) (by decide) h27
          exact absurd h27 (by omega)
        · skip
          have h27 := nI_neT (a := sl j) (b := 0) (by omega) (by decide) h27
          refine And.intro (by rw [show qx_sh qc_T _ b = _ from hq.1]; rfl) (Exists.intro (b + 1) (And.intro rfl ?_))
          refine Exists.intro (nI 1) (And.intro rfl ?_)
          refine Exists.intro (nI ((sl j) - 1)) (And.intro (nI_sub (by omega)) ?_)
          refine Exists.intro ((sl j) - 1) (Exists.intro (nI (code (sl j - 1))) (And.intro rfl (And.intro ⟨2001, s1, by omega, by decide⟩ (And.intro c1 ?_))))
          refine And.intro (fun h40 => ?_) (fun h40 => ?_)
          · skip
            have h40 := nI_neT (a := code (sl j - 1)) (b := n) (by omega) (by omega) h40
            refine Exists.intro (nI 1) (And.intro rfl ?_)
            refine Exists.intro (nI (j + 1)) (And.intro (nI_add _ _) ?_)
            refine Exists.intro (nI 4095) (And.intro rfl ?_)
            refine Exists.intro (nI ((j + 1) % 4096)) (And.intro ((nI_and _ _).trans (congrArg nI ea)) ?_)
            refine Exists.intro (nI (d + 1)) (And.intro (nI_add _ _) ?_)
            refine qx_K_le (ls := [.ref b, .int (nI n), .int (nI ((j + 1) % 4096)), .int (nI (d + 1)), .retAddr 0]) ⟨Or.inr rfl, Or.inr rfl, Or.inr rfl, Or.inr rfl, Or.inl rfl, trivial⟩ ?_
            exact z (hp2 (by omega) h40)
          · skip
            have h40 := nI_eqT (a := code (sl j - 1)) (b := n) (by omega) (by omega) h40
            exact ⟨j, rfl, rfl, hj, d, by omega, ej, hp, Or.inr h40⟩
theorem c_slotOf {G : qx_G} {σ : qx_S} {b size n : Nat} {code sl : Nat → Nat} (hb : 229 ≤ b) (hq : shQ σ b) (hs : size ≤ 2001) (H : hI q_h2 code size sl) (hsl : ∀ j, j < 4096 → qx_mi σ (b + 6) j = nI (sl j)) (hcd : ∀ i, i < size → qx_mi σ (b + 1) i = nI (code i) ∧ code i < 1073741824) (hn : n < 1073741824) : ∃ j, (j < 4096 ∧ hE q_h2 code sl n j) ∧ qx_M G qc_T 0 YX6_slotOf [.ref b, .int (nI n)] σ (qr (nI j) σ) := by
  obtain ⟨D, hD, hD0⟩ := H.empty hs n
  have lo := l_slot (G := G) hb hq hs H hsl hcd hn hD hD0 D 0 (by omega) (fun t ht => absurd ht (Nat.not_lt_zero t))
  have h4 := q_h2_lt n
  rw [Nat.add_zero, Nat.mod_eq_of_lt h4] at lo
  have m : qx_M G qc_T 0 YX6_slotOf [.ref b, .int (nI n)] σ (fun r s => ∃ j, r = some (.int (nI j)) ∧ σ = s ∧ (j < 4096 ∧ hE q_h2 code sl n j)) := by
    have eh : q_us (nI n * (-1640531535)) 20 = nI (q_h2 n) := (q_us20 _).1
    refine qx_M_in rfl (Nat.le_of_ble_eq_true rfl) ?_
    refine qy_wp_ok (c := CX6_slotOf) (cuts := [10]) vX6_slotOf wX6_slotOf 2000 0 _ _ _ ?_
    refine Exists.intro ((-1640531535)) (And.intro (by decide) ?_)
    refine Exists.intro (nI n * (-1640531535)) (And.intro rfl ?_)
    refine Exists.intro (nI 20) (And.intro rfl ?_)
    refine Exists.intro (nI (q_h2 n)) (And.intro eh ?_)
    refine Exists.intro (nI 0) (And.intro rfl ?_)
    exact lo
  obtain ⟨r, s, ⟨j, h1, h2, h3⟩, hB⟩ := m
  exact ⟨j, h3, r, s, ⟨h1, h2⟩, hB⟩

