/-! THE CLASS: simple calls -/
theorem l_credit {G : qx_G} {σ : qx_S} {p : Nat} (hp : p < 10) {f : Nat → Int32} (hf : ∀ o, o < 10 → qx_mi σ 24 (o * 10 + p) = f o) : ∀ (m o : Nat), m + o = 10 → qx_K G qc_T 0 RX7 YX7_creditOf 4 [.ref 21, .int (nI p), .int (q_sum f o), .int (nI o)] [] σ (qr (q_sum f 10) σ) := by
  intro m
  induction m with
  | zero =>
    intro o ho
    obtain rfl : o = 10 := by omega
    refine qy_wp_ok (c := CX7_creditOf) (cuts := [4]) vX7_creditOf wX7_creditOf 2000 4 _ _ _ ?_
    refine Exists.intro (nI 10) (And.intro rfl ?_)
    refine And.intro (fun h7 => ?_) (fun h7 => ?_)
    · skip
      exact ⟨rfl, rfl⟩
    · skip
      exact absurd (by decide) h7
  | succ m ih =>
    intro o ho
    refine qy_wp_ok (c := CX7_creditOf) (cuts := [4]) vX7_creditOf wX7_creditOf 2000 4 _ _ _ ?_
    refine Exists.intro (nI 10) (And.intro rfl ?_)
    refine And.intro (fun h7 => ?_) (fun h7 => ?_)
    · skip
      have h7 := nI_leT (a := 10) (b := o) (by decide) (by omega) h7
      exact absurd h7 (by omega)
    · skip
      have h7 := nI_leF (a := 10) (b := o) (by decide) (by omega) h7
      refine And.intro rfl (Exists.intro 24 (And.intro rfl ?_))
      refine Exists.intro (nI 10) (And.intro rfl ?_)
      refine Exists.intro (nI (o * 10)) (And.intro (pk_mul _ _) ?_)
      refine Exists.intro (nI (o * 10 + p)) (And.intro (nI_add _ _) ?_)
      refine Exists.intro (o * 10 + p) (Exists.intro (f o) (And.intro rfl (And.intro ⟨100, rfl, by omega, by decide⟩ (And.intro (hf o (by omega)) ?_))))
      refine Exists.intro ((q_sum f o) + (f o)) (And.intro rfl ?_)
      refine Exists.intro (nI (o + 1)) (And.intro (nI_add _ _) ?_)
      exact ih (o + 1) (by omega)
theorem c_creditOf {G : qx_G} {σ : qx_S} {p : Nat} (hp : p < 10) {f : Nat → Int32} (hf : ∀ o, o < 10 → qx_mi σ 24 (o * 10 + p) = f o) : qx_M G qc_T 0 YX7_creditOf [.ref 21, .int (nI p)] σ (qr (q_sum f 10) σ) := by
  refine qx_M_in rfl (Nat.le_of_ble_eq_true rfl) ?_
  refine qy_wp_ok (c := CX7_creditOf) (cuts := [4]) vX7_creditOf wX7_creditOf 2000 0 _ _ _ ?_
  refine Exists.intro (nI 0) (And.intro rfl ?_)
  refine Exists.intro (nI 0) (And.intro rfl ?_)
  exact l_credit hp hf 10 0 (by omega)
theorem l_debtAll {G : qx_G} {σ : qx_S} {f : Nat → Int32} (hf : ∀ o, o < 10 → qx_mi σ 25 o = f o) : ∀ (m o : Nat), m + o = 10 → qx_K G qc_T 0 RX7 YX7_debtInAll 4 [.ref 21, .int (q_sum f o), .int (nI o)] [] σ (qr (q_sum f 10) σ) := by
  intro m
  induction m with
  | zero =>
    intro o ho
    obtain rfl : o = 10 := by omega
    refine qy_wp_ok (c := CX7_debtInAll) (cuts := [4]) vX7_debtInAll wX7_debtInAll 2000 4 _ _ _ ?_
    refine Exists.intro (nI 10) (And.intro rfl ?_)
    refine And.intro (fun h7 => ?_) (fun h7 => ?_)
    · skip
      exact ⟨rfl, rfl⟩
    · skip
      exact absurd (by decide) h7
  | succ m ih =>
    intro o ho
    refine qy_wp_ok (c := CX7_debtInAll) (cuts := [4]) vX7_debtInAll wX7_debtInAll 2000 4 _ _ _ ?_
    refine Exists.intro (nI 10) (And.intro rfl ?_)
    refine And.intro (fun h7 => ?_) (fun h7 => ?_)
    · skip
      have h7 := nI_leT (a := 10) (b := o) (by decide) (by omega) h7
      exact absurd h7 (by omega)
    · skip
      have h7 := nI_leF (a := 10) (b := o) (by decide) (by omega) h7
      refine And.intro rfl (Exists.intro 25 (And.intro rfl ?_))
      refine Exists.intro (o) (Exists.intro (f o) (And.intro rfl (And.intro ⟨10, rfl, by omega, by decide⟩ (And.intro (hf o (by omega)) ?_))))
      refine Exists.intro ((q_sum f o) + (f o)) (And.intro rfl ?_)
      refine Exists.intro (nI (o + 1)) (And.intro (nI_add _ _) ?_)
      exact ih (o + 1) (by omega)
theorem c_debtInAll {G : qx_G} {σ : qx_S} {f : Nat → Int32} (hf : ∀ o, o < 10 → qx_mi σ 25 o = f o) : qx_M G qc_T 0 YX7_debtInAll [.ref 21] σ (qr (q_sum f 10) σ) := by
  refine qx_M_in rfl (Nat.le_of_ble_eq_true rfl) ?_
  refine qy_wp_ok (c := CX7_debtInAll) (cuts := [4]) vX7_debtInAll wX7_debtInAll 2000 0 _ _ _ ?_
  refine Exists.intro (nI 0) (And.intro rfl ?_)
  refine Exists.intro (nI 0) (And.intro rfl ?_)
  exact l_debtAll hf 10 0 (by omega)
/-- the cells of the state as the calls see them -/
theorem cI.at {σ : qx_S} {S : qS} {rf : Option qR} {e : Nat} (h : cI σ S rf e) {p : Nat} (hp : p < s_n S 1) : qx_mi σ 22 p = nI (s_at S p) := (h.2.1.2.1.2.2.1 p hp).1.trans ((q_nw_at S (Nat.lt_of_lt_of_le hp h.1.pe)).trans (h.1.1.2.1.2.2 p hp).1)
theorem cI.at8 {σ : qx_S} {S : qS} {rf : Option qR} {e : Nat} (h : cI σ S rf e) {p : Nat} (hp : p < s_n S 1) : s_at S p < 8 := Nat.lt_of_lt_of_le (h.1.1.2.1.2.2 p hp).2 h.1.pl
theorem cI.ow {σ : qx_S} {S : qS} {rf : Option qR} {e : Nat} (h : cI σ S rf e) {p q : Nat} (hp : p < 10) (hq : q < 10) : qx_mi σ 24 (p * 10 + q) = S (154 + 10 * p + q) := (h.2.1.2.1.2.2.2.1 _ (by omega)).trans ((q_nw_ow S (by omega)).trans (congrArg S (by omega)))
theorem c_person_no {G : qx_G} {σ : qx_S} {S : qS} {rf : Option qR} {e : Nat} (hI : cI σ S rf e) {x w : Int32} (hb : (q_is x (s_n S 1) && q_in64 w.toInt64 (lN 0) (lN 7)) = false) : qx_M G qc_T 5 YX11_person [.ref 3, .int x, .int w] σ (qr (-1) σ) := by
  have nw : q_is x (s_n S 1) = true → ∀ k, k ≤ 7 → ¬ w = nI k := fun h k hk z => by
    rw [h, z, q_in_ok (Nat.zero_le _) hk (by decide)] at hb
    cases hb
  refine qx_M_in rfl (Nat.le_of_ble_eq_true rfl) ?_
  refine qy_wp_ok (c := CX11_person) (cuts := []) vX11_person wX11_person 2000 0 _ _ _ ?_
  refine And.intro rfl (Exists.intro _ (And.intro (by decide) (qx_M_mono (c_isPerson hI.2.1.1 hI.1.1.2.1.2.1.1 x) ?_)))
  rintro _ _ ⟨rfl, rfl⟩
  refine And.intro (fun h5 => ?_) (fun h5 => ?_)
  · skip
    have h5 := bI_t h5
    refine And.intro (fun h11 => ?_) (fun h11_0 => ?_)
    · skip
      have h11 : w = nI 0 := h11
      exact absurd h11 (nw h5 0 (by decide))
    have h11_0 : ¬ w = nI 0 := h11_0
    refine And.intro (fun h11 => ?_) (fun h11_1 => ?_)
    · skip
      have h11 : w = nI 1 := h11
      exact absurd h11 (nw h5 1 (by decide))
    have h11_1 : ¬ w = nI 1 := h11_1
    refine And.intro (fun h11 => ?_) (fun h11_2 => ?_)
    · skip
      have h11 : w = nI 2 := h11
      exact absurd h11 (nw h5 2 (by decide))
    have h11_2 : ¬ w = nI 2 := h11_2
    refine And.intro (fun h11 => ?_) (fun h11_3 => ?_)
    · skip
      have h11 : w = nI 3 := h11
      exact absurd h11 (nw h5 3 (by decide))
    have h11_3 : ¬ w = nI 3 := h11_3
    refine And.intro (fun h11 => ?_) (fun h11_4 => ?_)
    · skip
      have h11 : w = nI 4 := h11
      exact absurd h11 (nw h5 4 (by decide))
    have h11_4 : ¬ w = nI 4 := h11_4
    refine And.intro (fun h11 => ?_) (fun h11_5 => ?_)
    · skip
      have h11 : w = nI 5 := h11
      exact absurd h11 (nw h5 5 (by decide))
    have h11_5 : ¬ w = nI 5 := h11_5
    refine And.intro (fun h11 => ?_) (fun h11_6 => ?_)
    · skip
      have h11 : w = nI 6 := h11
      exact absurd h11 (nw h5 6 (by decide))
    have h11_6 : ¬ w = nI 6 := h11_6
    refine And.intro (fun h11 => ?_) (fun h11_7 => ?_)
    · skip
      have h11 : w = nI 7 := h11
      exact absurd h11 (nw h5 7 (by decide))
    have h11_7 : ¬ w = nI 7 := h11_7
    refine Exists.intro ((-1)) (And.intro (by decide) ?_)
    exact ⟨rfl, rfl⟩
  · skip
    have h5 := bI_f h5
    refine Exists.intro ((-1)) (And.intro (by decide) ?_)
    exact ⟨rfl, rfl⟩
theorem c_person_04 {G : qx_G} {σ : qx_S} {S : qS} {rf : Option qR} {e : Nat} (hI : cI σ S rf e) {p w : Nat} (hp : p < s_n S 1) (hw : w < 5) : qx_M G qc_T 5 YX11_person [.ref 3, .int (nI p), .int (nI w)] σ (qr (S (10 + 5 * p + w)) σ) := by
  have hpe := hI.1.pe
  have b3 : (bI (decide (¬ S (10 + 5 * p + 3) = nI 0))) = S (10 + 5 * p + 3) := by
    rcases (hI.1.1.2.2 p hp).2 with z | z <;> rw [z] <;> rfl
  refine qx_M_in rfl (Nat.le_of_ble_eq_true rfl) ?_
  refine qy_wp_ok (c := CX11_person) (cuts := []) vX11_person wX11_person 2000 0 _ _ _ ?_
  refine And.intro rfl (Exists.intro _ (And.intro (by decide) (qx_M_mono (c_isPerson hI.2.1.1 hI.1.1.2.1.2.1.1 (nI p)) ?_)))
  rintro _ _ ⟨rfl, rfl⟩
  refine And.intro (fun h5 => ?_) (fun h5 => ?_)
  · skip
    have h5 := bI_t h5
    refine And.intro (fun h11 => ?_) (fun h11_0 => ?_)
    · skip
      have h11 := nI_eqT (b := 0) (by omega) (by decide) h11
      refine And.intro rfl (Exists.intro 15 (And.intro rfl ?_))
      refine And.intro rfl (Exists.intro 21 (And.intro rfl ?_))
      refine And.intro rfl (Exists.intro 22 (And.intro rfl ?_))
      refine Exists.intro (p) (Exists.intro (S (10 + 5 * p)) (And.intro rfl (And.intro ⟨10, rfl, by omega, by decide⟩ (And.intro ((hI.2.1.2.1.2.2.1 p hp).1.trans (q_nw_at S (by omega))) ?_))))
      subst h11; exact ⟨rfl, rfl⟩
    have h11_0 := nI_neT (b := 0) (by omega) (by decide) h11_0
    refine And.intro (fun h11 => ?_) (fun h11_1 => ?_)
    · skip
      have h11 := nI_eqT (b := 1) (by omega) (by decide) h11
      refine And.intro rfl (Exists.intro 15 (And.intro rfl ?_))
      refine And.intro rfl (Exists.intro 16 (And.intro rfl ?_))
      refine And.intro rfl (Exists.intro 17 (And.intro rfl ?_))
      refine Exists.intro (p) (Exists.intro (S (10 + 5 * p + 1)) (And.intro rfl (And.intro ⟨10, rfl, by omega, by decide⟩ (And.intro ((hI.2.1.1.2.2.2.1 p hp).1) ?_))))
      subst h11; exact ⟨rfl, rfl⟩
    have h11_1 := nI_neT (b := 1) (by omega) (by decide) h11_1
    refine And.intro (fun h11 => ?_) (fun h11_2 => ?_)
    · skip
      have h11 := nI_eqT (b := 2) (by omega) (by decide) h11
      refine And.intro rfl (Exists.intro 15 (And.intro rfl ?_))
      refine And.intro rfl (Exists.intro 16 (And.intro rfl ?_))
      refine And.intro rfl (Exists.intro 18 (And.intro rfl ?_))
      refine Exists.intro (p) (Exists.intro (S (10 + 5 * p + 2)) (And.intro rfl (And.intro ⟨10, rfl, by omega, by decide⟩ (And.intro ((hI.2.1.1.2.2.2.1 p hp).2) ?_))))
      subst h11; exact ⟨rfl, rfl⟩
    have h11_2 := nI_neT (b := 2) (by omega) (by decide) h11_2
    refine And.intro (fun h11 => ?_) (fun h11_3 => ?_)
    · skip
      have h11 := nI_eqT (b := 3) (by omega) (by decide) h11
      refine And.intro rfl (Exists.intro 15 (And.intro rfl ?_))
      refine And.intro rfl (Exists.intro 16 (And.intro rfl ?_))
      refine And.intro rfl (Exists.intro _ (And.intro (by decide) (qx_M_mono (c_onBench hI.1.1 hI.2.1.1 hp) ?_)))
      rintro _ _ ⟨rfl, rfl⟩
      refine And.intro (fun h106 => ?_) (fun h106 => ?_)
      · skip
        have h106 := bI_f h106
        refine Exists.intro (nI 0) (And.intro rfl ?_)
        subst h11; rw [← b3, h106]; exact ⟨rfl, rfl⟩
      · skip
        have h106 := bI_t h106
        refine Exists.intro (nI 1) (And.intro rfl ?_)
        subst h11; rw [← b3, h106]; exact ⟨rfl, rfl⟩
    have h11_3 := nI_neT (b := 3) (by omega) (by decide) h11_3
    refine And.intro (fun h11 => ?_) (fun h11_4 => ?_)
    · skip
      have h11 := nI_eqT (b := 4) (by omega) (by decide) h11
      refine And.intro rfl (Exists.intro 15 (And.intro rfl ?_))
      refine And.intro rfl (Exists.intro 21 (And.intro rfl ?_))
      refine And.intro rfl (Exists.intro 23 (And.intro rfl ?_))
      refine Exists.intro (p) (Exists.intro (S (10 + 5 * p + 4)) (And.intro rfl (And.intro ⟨10, rfl, by omega, by decide⟩ (And.intro ((hI.2.1.2.1.2.2.1 p hp).2.trans (q_nw_mv S (by omega))) ?_))))
      subst h11; exact ⟨rfl, rfl⟩
    have h11_4 := nI_neT (b := 4) (by omega) (by decide) h11_4
    refine And.intro (fun h11 => ?_) (fun h11_5 => ?_)
    · skip
      have h11 := nI_eqT (b := 5) (by omega) (by decide) h11
      exact absurd h11 (by omega)
    have h11_5 := nI_neT (b := 5) (by omega) (by decide) h11_5
    refine And.intro (fun h11 => ?_) (fun h11_6 => ?_)
    · skip
      have h11 := nI_eqT (b := 6) (by omega) (by decide) h11
      exact absurd h11 (by omega)
    have h11_6 := nI_neT (b := 6) (by omega) (by decide) h11_6
    refine And.intro (fun h11 => ?_) (fun h11_7 => ?_)
    · skip
      have h11 := nI_eqT (b := 7) (by omega) (by decide) h11
      exact absurd h11 (by omega)
    have h11_7 := nI_neT (b := 7) (by omega) (by decide) h11_7
    omega
  · skip
    have h5 := bI_f h5
    exact absurd (h5.symm.trans (q_is_ok hp (by omega))) (by decide)
theorem c_person_5 {G : qx_G} {σ : qx_S} {S : qS} {rf : Option qR} {e : Nat} (hI : cI σ S rf e) {p : Nat} (hp : p < s_n S 1) : qx_M G qc_T 5 YX11_person [.ref 3, .int (nI p), .int (nI 5)] σ (qr (q_sum (fun k => S (154 + 10 * p + k)) (s_n S 1)) σ) := by
  have hpe := hI.1.pe
  refine qx_M_in rfl (Nat.le_of_ble_eq_true rfl) ?_
  refine qy_wp_ok (c := CX11_person) (cuts := []) vX11_person wX11_person 2000 0 _ _ _ ?_
  refine And.intro rfl (Exists.intro _ (And.intro (by decide) (qx_M_mono (c_isPerson hI.2.1.1 hI.1.1.2.1.2.1.1 (nI p)) ?_)))
  rintro _ _ ⟨rfl, rfl⟩
  refine And.intro (fun h5 => ?_) (fun h5 => ?_)
  · skip
    have h5 := bI_t h5
    refine And.intro (fun h => absurd h (by decide)) (fun _ => ?_)
    refine And.intro (fun h => absurd h (by decide)) (fun _ => ?_)
    refine And.intro (fun h => absurd h (by decide)) (fun _ => ?_)
    refine And.intro (fun h => absurd h (by decide)) (fun _ => ?_)
    refine And.intro (fun h => absurd h (by decide)) (fun _ => ?_)
    refine And.intro (fun _ => ?_) (fun h => absurd rfl h)
    refine And.intro rfl (Exists.intro 15 (And.intro rfl ?_))
    refine And.intro rfl (Exists.intro 21 (And.intro rfl ?_))
    refine And.intro rfl (Exists.intro 25 (And.intro rfl ?_))
    refine Exists.intro (p) (Exists.intro (q_sum (fun k => S (154 + 10 * p + k)) (s_n S 1)) (And.intro rfl (And.intro ⟨10, rfl, by omega, by decide⟩ (And.intro ((hI.2.1.2.1.2.2.2.2 p (by omega)).trans ((hI.1.debt (by omega)).trans (if_pos hp))) ?_))))
    exact ⟨rfl, rfl⟩
  · skip
    have h5 := bI_f h5
    exact absurd (h5.symm.trans (q_is_ok hp (by omega))) (by decide)
theorem gT.ow0 {S : qS} (h : gT S) {p k : Nat} (hp : p < 10) (hk : k < 10) (hz : s_n S 1 ≤ p ∨ s_n S 1 ≤ k) : S (154 + 10 * p + k) = 0 := by
  have := h.2.1 p k hp hk hz
  rw [show 10 + 10 * p + k = 10 + (10 * p + k) by omega, q_nw_ow S (by omega)] at this
  rw [← this]
  exact congrArg S (by omega)
theorem c_person_6 {G : qx_G} {σ : qx_S} {S : qS} {rf : Option qR} {e : Nat} (hI : cI σ S rf e) {p : Nat} (hp : p < s_n S 1) : qx_M G qc_T 5 YX11_person [.ref 3, .int (nI p), .int (nI 6)] σ (qr (q_sum (fun k => S (154 + 10 * k + p)) (s_n S 1)) σ) := by
  have hpe := hI.1.pe
  have e10 : q_sum (fun k => S (154 + 10 * k + p)) 10 = q_sum (fun k => S (154 + 10 * k + p)) (s_n S 1) := q_sum_cut 10 hpe (fun k h1 h2 => hI.1.ow0 h2 (by omega) (Or.inl h1))
  rw [← e10]
  refine qx_M_in rfl (Nat.le_of_ble_eq_true rfl) ?_
  refine qy_wp_ok (c := CX11_person) (cuts := []) vX11_person wX11_person 2000 0 _ _ _ ?_
  refine And.intro rfl (Exists.intro _ (And.intro (by decide) (qx_M_mono (c_isPerson hI.2.1.1 hI.1.1.2.1.2.1.1 (nI p)) ?_)))
  rintro _ _ ⟨rfl, rfl⟩
  refine And.intro (fun h5 => ?_) (fun h5 => ?_)
  · skip
    have h5 := bI_t h5
    refine And.intro (fun h => absurd h (by decide)) (fun _ => ?_)
    refine And.intro (fun h => absurd h (by decide)) (fun _ => ?_)
    refine And.intro (fun h => absurd h (by decide)) (fun _ => ?_)
    refine And.intro (fun h => absurd h (by decide)) (fun _ => ?_)
    refine And.intro (fun h => absurd h (by decide)) (fun _ => ?_)
    refine And.intro (fun h => absurd h (by decide)) (fun _ => ?_)
    refine And.intro (fun _ => ?_) (fun h => absurd rfl h)
    refine And.intro rfl (Exists.intro 15 (And.intro rfl ?_))
    refine And.intro rfl (Exists.intro 21 (And.intro rfl ?_))
    refine And.intro rfl (Exists.intro _ (And.intro (by decide) (qx_M_mono (c_creditOf (f := fun k => S (154 + 10 * k + p)) (by omega) (fun o ho => hI.ow ho (by omega))) ?_)))
    rintro _ _ ⟨rfl, rfl⟩
    exact ⟨rfl, rfl⟩
  · skip
    have h5 := bI_f h5
    exact absurd (h5.symm.trans (q_is_ok hp (by omega))) (by decide)
theorem c_person_7 {G : qx_G} {σ : qx_S} {S : qS} {rf : Option qR} {e : Nat} (hI : cI σ S rf e) {p : Nat} (hp : p < s_n S 1) : qx_M G qc_T 5 YX11_person [.ref 3, .int (nI p), .int (nI 7)] σ (fun r s => r = some (.int (nI (if q_aw S rf none p (s_at S p) = true then 0 else 1))) ∧ ql kLw σ s ∧ cI s S rf e) := by
  have hpe := hI.1.pe
  refine qx_M_in rfl (Nat.le_of_ble_eq_true rfl) ?_
  refine qy_wp_ok (c := CX11_person) (cuts := []) vX11_person wX11_person 2000 0 _ _ _ ?_
  refine And.intro rfl (Exists.intro _ (And.intro (by decide) (qx_M_mono (c_isPerson hI.2.1.1 hI.1.1.2.1.2.1.1 (nI p)) ?_)))
  rintro _ _ ⟨rfl, rfl⟩
  refine And.intro (fun h5 => ?_) (fun h5 => ?_)
  · skip
    have h5 := bI_t h5
    refine And.intro (fun h => absurd h (by decide)) (fun _ => ?_)
    refine And.intro (fun h => absurd h (by decide)) (fun _ => ?_)
    refine And.intro (fun h => absurd h (by decide)) (fun _ => ?_)
    refine And.intro (fun h => absurd h (by decide)) (fun _ => ?_)
    refine And.intro (fun h => absurd h (by decide)) (fun _ => ?_)
    refine And.intro (fun h => absurd h (by decide)) (fun _ => ?_)
    refine And.intro (fun h => absurd h (by decide)) (fun _ => ?_)
    refine And.intro (fun _ => ?_) (fun h => absurd rfl h)
    refine And.intro rfl (Exists.intro 156 (And.intro rfl ?_))
    refine And.intro rfl (Exists.intro 15 (And.intro rfl ?_))
    refine And.intro rfl (Exists.intro 21 (And.intro rfl ?_))
    refine And.intro rfl (Exists.intro 22 (And.intro rfl ?_))
    refine Exists.intro (p) (Exists.intro (nI (s_at S p)) (And.intro rfl (And.intro ⟨10, rfl, by omega, by decide⟩ (And.intro (hI.at hp) ?_))))
    refine And.intro rfl (Exists.intro _ (And.intro (by decide) (qx_M_mono (c_content hI.W hI.K cH_rf hp (hI.at8 hp)) ?_)))
    rintro _ σ1 ⟨rfl, fσ1, kσ1⟩
    refine And.intro (fun h173 => ?_) (fun h173 => ?_)
    · skip
      have h173 := bI_f h173
      refine Exists.intro (nI 0) (And.intro rfl ?_)
      first
        | exact ⟨by rw [if_neg (by rw [(Bool.not_eq_true' _).mp h173]; decide)], fσ1, hI.lw fσ1 kσ1⟩
        | exact ⟨by rw [if_pos ((Bool.not_eq_false' _).mp h173)], fσ1, hI.lw fσ1 kσ1⟩
    · skip
      have h173 := bI_t h173
      refine Exists.intro (nI 1) (And.intro rfl ?_)
      first
        | exact ⟨by rw [if_neg (by rw [(Bool.not_eq_true' _).mp h173]; decide)], fσ1, hI.lw fσ1 kσ1⟩
        | exact ⟨by rw [if_pos ((Bool.not_eq_false' _).mp h173)], fσ1, hI.lw fσ1 kσ1⟩
  · skip
    have h5 := bI_f h5
    exact absurd (h5.symm.trans (q_is_ok hp (by omega))) (by decide)
theorem c_wish_no {G : qx_G} {σ : qx_S} {S : qS} {rf : Option qR} {e : Nat} (hI : cI σ S rf e) {x q : Int32} (hb : (q_is x (s_n S 1) && q_is q (s_n S 0)) = false) : qx_M G qc_T 1 YX11_wish [.ref 3, .int x, .int q] σ (qr (-1) σ) := by
  refine qx_M_in rfl (Nat.le_of_ble_eq_true rfl) ?_
  refine qy_wp_ok (c := CX11_wish) (cuts := []) vX11_wish wX11_wish 2000 0 _ _ _ ?_
  refine And.intro rfl (Exists.intro _ (And.intro (by decide) (qx_M_mono (c_isPerson hI.2.1.1 hI.1.1.2.1.2.1.1 x) ?_)))
  rintro _ _ ⟨rfl, rfl⟩
  refine And.intro (fun h5 => ?_) (fun h5 => ?_)
  · skip
    have h5 := bI_f h5
    refine Exists.intro ((-1)) (And.intro (by decide) ?_)
    exact ⟨rfl, rfl⟩
  · skip
    have h5 := bI_t h5
    refine And.intro rfl (Exists.intro _ (And.intro (by decide) (qx_M_mono (c_isPlace hI.2.1.1 hI.1.1.2.1.1.1 q) ?_)))
    rintro _ _ ⟨rfl, rfl⟩
    refine And.intro (fun h13 => ?_) (fun h13 => ?_)
    · skip
      have h13 := bI_t h13
      rw [h5, h13] at hb; cases hb
    · skip
      have h13 := bI_f h13
      refine Exists.intro ((-1)) (And.intro (by decide) ?_)
      exact ⟨rfl, rfl⟩
theorem c_wish_ok {G : qx_G} {σ : qx_S} {S : qS} {rf : Option qR} {e : Nat} (hI : cI σ S rf e) {p q : Nat} (hp : p < s_n S 1) (hq : q < s_n S 0) : qx_M G qc_T 1 YX11_wish [.ref 3, .int (nI p), .int (nI q)] σ (qr (S (60 + 8 * p + q)) σ) := by
  have hpe := hI.1.pe
  have hpl := hI.1.pl
  refine qx_M_in rfl (Nat.le_of_ble_eq_true rfl) ?_
  refine qy_wp_ok (c := CX11_wish) (cuts := []) vX11_wish wX11_wish 2000 0 _ _ _ ?_
  refine And.intro rfl (Exists.intro _ (And.intro (by decide) (qx_M_mono (c_isPerson hI.2.1.1 hI.1.1.2.1.2.1.1 (nI p)) ?_)))
  rintro _ _ ⟨rfl, rfl⟩
  refine And.intro (fun h5 => ?_) (fun h5 => ?_)
  · skip
    have h5 := bI_f h5
    exact absurd (h5.symm.trans (q_is_ok hp (by omega))) (by decide)
  · skip
    have h5 := bI_t h5
    refine And.intro rfl (Exists.intro _ (And.intro (by decide) (qx_M_mono (c_isPlace hI.2.1.1 hI.1.1.2.1.1.1 (nI q)) ?_)))
    rintro _ _ ⟨rfl, rfl⟩
    refine And.intro (fun h13 => ?_) (fun h13 => ?_)
    · skip
      have h13 := bI_t h13
      refine And.intro rfl (Exists.intro 15 (And.intro rfl ?_))
      refine And.intro rfl (Exists.intro 16 (And.intro rfl ?_))
      refine And.intro rfl (Exists.intro 19 (And.intro rfl ?_))
      refine Exists.intro (nI 8) (And.intro rfl ?_)
      refine Exists.intro (nI (p * 8)) (And.intro (pk_mul _ _) ?_)
      refine Exists.intro (nI (p * 8 + q)) (And.intro (nI_add _ _) ?_)
      refine Exists.intro (p * 8 + q) (Exists.intro (S (60 + 8 * p + q)) (And.intro rfl (And.intro ⟨80, rfl, by omega, by decide⟩ (And.intro ((congrArg (qx_mi σ 19) (by omega)).trans (hI.2.1.1.2.2.2.2.1 p hp q (by omega))) ?_))))
      exact ⟨rfl, rfl⟩
    · skip
      have h13 := bI_f h13
      exact absurd (h13.symm.trans (q_is_ok hq (by omega))) (by decide)
theorem c_liking_no {G : qx_G} {σ : qx_S} {S : qS} {rf : Option qR} {e : Nat} (hI : cI σ S rf e) {x q : Int32} (hb : (q_is x (s_n S 1) && q_is q (s_n S 0)) = false) : qx_M G qc_T 4 YX11_liking [.ref 3, .int x, .int q] σ (qr (-1000) σ) := by
  refine qx_M_in rfl (Nat.le_of_ble_eq_true rfl) ?_
  refine qy_wp_ok (c := CX11_liking) (cuts := []) vX11_liking wX11_liking 2000 0 _ _ _ ?_
  refine And.intro rfl (Exists.intro _ (And.intro (by decide) (qx_M_mono (c_isPerson hI.2.1.1 hI.1.1.2.1.2.1.1 x) ?_)))
  rintro _ _ ⟨rfl, rfl⟩
  refine And.intro (fun h5 => ?_) (fun h5 => ?_)
  · skip
    have h5 := bI_f h5
    refine Exists.intro ((-1000)) (And.intro (by decide) ?_)
    exact ⟨rfl, rfl⟩
  · skip
    have h5 := bI_t h5
    refine And.intro rfl (Exists.intro _ (And.intro (by decide) (qx_M_mono (c_isPlace hI.2.1.1 hI.1.1.2.1.1.1 q) ?_)))
    rintro _ _ ⟨rfl, rfl⟩
    refine And.intro (fun h13 => ?_) (fun h13 => ?_)
    · skip
      have h13 := bI_t h13
      rw [h5, h13] at hb; cases hb
    · skip
      have h13 := bI_f h13
      refine Exists.intro ((-1000)) (And.intro (by decide) ?_)
      exact ⟨rfl, rfl⟩
theorem c_liking_ok {G : qx_G} {σ : qx_S} {S : qS} {rf : Option qR} {e : Nat} (hI : cI σ S rf e) {p q : Nat} (hp : p < s_n S 1) (hq : q < s_n S 0) : qx_M G qc_T 4 YX11_liking [.ref 3, .int (nI p), .int (nI q)] σ (fun r s => r = some (.int (q_lk S rf p (s_at S p) q)) ∧ ql kLw σ s ∧ cI s S rf e) := by
  have hpe := hI.1.pe
  have hpl := hI.1.pl
  have a8 := hI.at8 hp
  have hW := hI.W
  have hK := hI.K
  have hk := cH_rf (S := S) (rf := rf) (kp := true)
  refine qx_M_in rfl (Nat.le_of_ble_eq_true rfl) ?_
  refine qy_wp_ok (c := CX11_liking) (cuts := []) vX11_liking wX11_liking 2000 0 _ _ _ ?_
  refine And.intro rfl (Exists.intro _ (And.intro (by decide) (qx_M_mono (c_isPerson hI.2.1.1 hI.1.1.2.1.2.1.1 (nI p)) ?_)))
  rintro _ _ ⟨rfl, rfl⟩
  refine And.intro (fun h5 => ?_) (fun h5 => ?_)
  · skip
    have h5 := bI_f h5
    exact absurd (h5.symm.trans (q_is_ok hp (by omega))) (by decide)
  · skip
    have h5 := bI_t h5
    refine And.intro rfl (Exists.intro _ (And.intro (by decide) (qx_M_mono (c_isPlace hI.2.1.1 hI.1.1.2.1.1.1 (nI q)) ?_)))
    rintro _ _ ⟨rfl, rfl⟩
    refine And.intro (fun h13 => ?_) (fun h13 => ?_)
    · skip
      have h13 := bI_t h13
      refine And.intro rfl (Exists.intro 156 (And.intro rfl ?_))
      refine And.intro rfl (Exists.intro 15 (And.intro rfl ?_))
      refine And.intro rfl (Exists.intro 21 (And.intro rfl ?_))
      refine And.intro rfl (Exists.intro 22 (And.intro rfl ?_))
      refine Exists.intro (p) (Exists.intro (nI (s_at S p)) (And.intro rfl (And.intro ⟨10, rfl, by omega, by decide⟩ (And.intro (hI.at hp) ?_))))
      refine And.intro rfl (Exists.intro _ (And.intro (by decide) (qx_M_mono (c_likingOf (p := p) (a := (s_at S p)) (q := q) hW hK hk (by omega) (by omega) (by omega)) ?_)))
      rintro _ σ1 ⟨rfl, fσ1, kσ1⟩
      exact ⟨rfl, fσ1, hI.lw fσ1 kσ1⟩
    · skip
      have h13 := bI_f h13
      exact absurd (h13.symm.trans (q_is_ok hq (by omega))) (by decide)
theorem c_owes_no {G : qx_G} {σ : qx_S} {S : qS} {rf : Option qR} {e : Nat} (hI : cI σ S rf e) {x y : Int32} (hb : (q_is x (s_n S 1) && q_is y (s_n S 1) && !decide (x = y)) = false) : qx_M G qc_T 1 YX11_owes [.ref 3, .int x, .int y] σ (qr (-1) σ) := by
  refine qx_M_in rfl (Nat.le_of_ble_eq_true rfl) ?_
  refine qy_wp_ok (c := CX11_owes) (cuts := []) vX11_owes wX11_owes 2000 0 _ _ _ ?_
  refine And.intro rfl (Exists.intro _ (And.intro (by decide) (qx_M_mono (c_isPerson hI.2.1.1 hI.1.1.2.1.2.1.1 x) ?_)))
  rintro _ _ ⟨rfl, rfl⟩
  refine And.intro (fun h5 => ?_) (fun h5 => ?_)
  · skip
    have h5 := bI_f h5
    refine Exists.intro ((-1)) (And.intro (by decide) ?_)
    exact ⟨rfl, rfl⟩
  · skip
    have h5 := bI_t h5
    refine And.intro rfl (Exists.intro _ (And.intro (by decide) (qx_M_mono (c_isPerson hI.2.1.1 hI.1.1.2.1.2.1.1 y) ?_)))
    rintro _ _ ⟨rfl, rfl⟩
    refine And.intro (fun h13 => ?_) (fun h13 => ?_)
    · skip
      have h13 := bI_f h13
      refine Exists.intro ((-1)) (And.intro (by decide) ?_)
      exact ⟨rfl, rfl⟩
    · skip
      have h13 := bI_t h13
      refine And.intro (fun h18 => ?_) (fun h18 => ?_)
      · skip
        rw [h5, h13, decide_eq_false h18] at hb; cases hb
      · skip
        refine Exists.intro ((-1)) (And.intro (by decide) ?_)
        exact ⟨rfl, rfl⟩
theorem c_owes_ok {G : qx_G} {σ : qx_S} {S : qS} {rf : Option qR} {e : Nat} (hI : cI σ S rf e) {p q : Nat} (hp : p < s_n S 1) (hq : q < s_n S 1) (hne : p ≠ q) : qx_M G qc_T 1 YX11_owes [.ref 3, .int (nI p), .int (nI q)] σ (qr (S (154 + 10 * p + q)) σ) := by
  have hpe := hI.1.pe
  refine qx_M_in rfl (Nat.le_of_ble_eq_true rfl) ?_
  refine qy_wp_ok (c := CX11_owes) (cuts := []) vX11_owes wX11_owes 2000 0 _ _ _ ?_
  refine And.intro rfl (Exists.intro _ (And.intro (by decide) (qx_M_mono (c_isPerson hI.2.1.1 hI.1.1.2.1.2.1.1 (nI p)) ?_)))
  rintro _ _ ⟨rfl, rfl⟩
  refine And.intro (fun h5 => ?_) (fun h5 => ?_)
  · skip
    have h5 := bI_f h5
    exact absurd (h5.symm.trans (q_is_ok (by omega) (by omega))) (by decide)
  · skip
    have h5 := bI_t h5
    refine And.intro rfl (Exists.intro _ (And.intro (by decide) (qx_M_mono (c_isPerson hI.2.1.1 hI.1.1.2.1.2.1.1 (nI q)) ?_)))
    rintro _ _ ⟨rfl, rfl⟩
    refine And.intro (fun h13 => ?_) (fun h13 => ?_)
    · skip
      have h13 := bI_f h13
      exact absurd (h13.symm.trans (q_is_ok (by omega) (by omega))) (by decide)
    · skip
      have h13 := bI_t h13
      refine And.intro (fun h18 => ?_) (fun h18 => ?_)
      · skip
        have h18 := nI_neT (a := p) (b := q) (by omega) (by omega) h18
        refine And.intro rfl (Exists.intro 15 (And.intro rfl ?_))
        refine And.intro rfl (Exists.intro 21 (And.intro rfl ?_))
        refine And.intro rfl (Exists.intro 24 (And.intro rfl ?_))
        refine Exists.intro (nI 10) (And.intro rfl ?_)
        refine Exists.intro (nI (p * 10)) (And.intro (pk_mul _ _) ?_)
        refine Exists.intro (nI (p * 10 + q)) (And.intro (nI_add _ _) ?_)
        refine Exists.intro (p * 10 + q) (Exists.intro (S (154 + 10 * p + q)) (And.intro rfl (And.intro ⟨100, rfl, by omega, by decide⟩ (And.intro (hI.ow (by omega) (by omega)) ?_))))
        exact ⟨rfl, rfl⟩
      · skip
        have h18 := nI_eqT (a := p) (b := q) (by omega) (by omega) h18
        exact absurd h18 hne

