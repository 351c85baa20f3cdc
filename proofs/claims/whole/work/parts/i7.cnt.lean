/-! THE CLASS: SITUATIONS counted, the way back -/
def q_cnQ (P : Nat → Bool) (d : Nat) (Q : q_Q) : Nat → Nat
  | 0 => 0
  | n + 1 => q_cnQ P d Q n + (if Q.2.2.2.1 n = d ∧ P (Q.2.2.1 n) = true then 1 else 0)
theorem q_cnQ_le (P : Nat → Bool) (d : Nat) (Q : q_Q) : ∀ n, q_cnQ P d Q n ≤ n
  | 0 => Nat.le_refl _
  | n + 1 => by
    show q_cnQ P d Q n + _ ≤ _
    have := q_cnQ_le P d Q n
    split <;> omega
theorem l_countOf {G : qx_G} {σ0 σ : qx_S} {S : qS} {rf : Option qR} {e b y d : Nat} {f : Nat → Int32} {Q : q_Q} (hF : cF σ0 y (s_n S 1) f) (hd : d < 2147483648) (hv : vQ σ0 S rf e b σ Q) : ∀ (m i : Nat), m + i = Q.1 → qx_K G qc_T 2 RX6 YX6_countOf 5 [.ref b, .ref y, .int (nI d), .int (nI (q_cnQ (fun w => q_af f w (s_n S 1) 0) d Q i)), .int (nI i)] [] σ (qr (nI (q_cnQ (fun w => q_af f w (s_n S 1) 0) d Q Q.1)) σ) := by
  have hz := hv.1.2.2.2.2.1
  have m7 : qx_mi σ b 7 = nI Q.1 := hv.1.2.2.1
  obtain ⟨z, ez⟩ : ∃ z, z = Q.1 := ⟨_, rfl⟩
  rw [← ez] at hz m7 ⊢
  intro m
  induction m with
  | zero =>
    intro i hi
    obtain rfl : i = z := by omega
    refine qy_wp_ok (c := CX6_countOf) (cuts := [5]) vX6_countOf wX6_countOf 2000 5 _ _ _ ?_
    refine And.intro (by rw [show qx_sh qc_T _ b = _ from hv.1.1.1]; rfl) (Exists.intro 7 (Exists.intro (nI i) (And.intro rfl (And.intro m7 ?_))))
    refine And.intro (fun h11 => ?_) (fun h11 => ?_)
    · skip
      have h11 := nI_leT (a := i) (b := i) (by omega) (by omega) h11
      exact ⟨rfl, rfl⟩
    · skip
      have h11 := nI_leF (a := i) (b := i) (by omega) (by omega) h11
      exact absurd h11 (by omega)
  | succ m ih =>
    intro i hi
    have nx := ih (i + 1) (by omega)
    have c := hv.1.2.2.2.2.2.2.1 i (by omega)
    have al := c_allF (G := G) (y := y) hv.1.1 hv.h5 hv.pe c.1.1 (by omega) c.1.2 (hv.cF hF)
    obtain ⟨B, eB⟩ : ∃ B, B = q_af f (Q.2.2.1 i) (s_n S 1) 0 := ⟨_, rfl⟩
    obtain ⟨dk, ed⟩ : ∃ dk, dk = Q.2.2.2.1 i := ⟨_, rfl⟩
    have c1 : qx_mi σ (b + 2) i = nI dk := by rw [ed]; exact c.2.1.1
    have c2 : dk ≤ i := by rw [ed]; exact c.2.1.2
    have le := q_cnQ_le (fun w => q_af f w (s_n S 1) 0) d Q i
    have st : q_cnQ (fun w => q_af f w (s_n S 1) 0) d Q (i + 1) = q_cnQ (fun w => q_af f w (s_n S 1) 0) d Q i + (if dk = d ∧ B = true then 1 else 0) := by rw [ed, eB]; rfl
    rw [← eB] at al
    rw [st] at nx
    obtain ⟨a, ea⟩ : ∃ a, a = q_cnQ (fun w => q_af f w (s_n S 1) 0) d Q i := ⟨_, rfl⟩
    rw [← ea] at nx le ⊢
    have n1 : ¬ (dk = d ∧ B = true) → qx_K G qc_T 2 RX6 YX6_countOf 5 [.ref b, .ref y, .int (nI d), .int (nI a), .int (nI (i + 1))] [] σ (qr (nI (q_cnQ (fun w => q_af f w (s_n S 1) 0) d Q z)) σ) := fun h => by rw [if_neg h] at nx; exact nx
    have n2 : dk = d ∧ B = true → qx_K G qc_T 2 RX6 YX6_countOf 5 [.ref b, .ref y, .int (nI d), .int (nI (a + 1)), .int (nI (i + 1))] [] σ (qr (nI (q_cnQ (fun w => q_af f w (s_n S 1) 0) d Q z)) σ) := fun h => by rw [if_pos h] at nx; exact nx
    refine qy_wp_ok (c := CX6_countOf) (cuts := [5]) vX6_countOf wX6_countOf 2000 5 _ _ _ ?_
    refine And.intro (by rw [show qx_sh qc_T _ b = _ from hv.1.1.1]; rfl) (Exists.intro 7 (Exists.intro (nI z) (And.intro rfl (And.intro m7 ?_))))
    refine And.intro (fun h11 => ?_) (fun h11 => ?_)
    · skip
      have h11 := nI_leT (a := z) (b := i) (by omega) (by omega) h11
      exact absurd h11 (by omega)
    · skip
      have h11 := nI_leF (a := z) (b := i) (by omega) (by omega) h11
      refine And.intro (by rw [show qx_sh qc_T _ b = _ from hv.1.1.1]; rfl) (Exists.intro (b + 2) (And.intro rfl ?_))
      refine Exists.intro (i) (Exists.intro (nI dk) (And.intro rfl (And.intro ⟨2001, (hv.1.1.2.1 2 (by decide) (by decide)), by omega, by decide⟩ (And.intro c1 ?_))))
      refine And.intro (fun h22 => ?_) (fun h22 => ?_)
      · skip
        have h22 := nI_neT (a := dk) (b := d) (by omega) (by omega) h22
        refine Exists.intro (nI (i + 1)) (And.intro (nI_add _ _) ?_)
        exact n1 (fun y => h22 y.1)
      · skip
        have h22 := nI_eqT (a := dk) (b := d) (by omega) (by omega) h22
        refine And.intro ((congrArg Prod.fst (hv.1.1.1)).trans rfl) (Exists.intro _ (And.intro (by decide) (qx_M_mono (al) ?_)))
        rintro _ _ ⟨rfl, rfl⟩
        refine And.intro (fun h32 => ?_) (fun h32 => ?_)
        · skip
          have h32 := bI_f h32
          refine Exists.intro (nI (i + 1)) (And.intro (nI_add _ _) ?_)
          exact n1 (fun y => absurd (h32.symm.trans y.2) (by decide))
        · skip
          have h32 := bI_t h32
          refine Exists.intro (nI (a + 1)) (And.intro (nI_add _ _) ?_)
          refine Exists.intro (nI (i + 1)) (And.intro (nI_add _ _) ?_)
          exact n2 ⟨h22, h32⟩
theorem c_countOf {G : qx_G} {σ0 σ : qx_S} {S : qS} {rf : Option qR} {e b y d : Nat} {f : Nat → Int32} {Q : q_Q} (hF : cF σ0 y (s_n S 1) f) (hd : d < 2147483648) (hv : vQ σ0 S rf e b σ Q) : qx_M G qc_T 2 YX6_countOf [.ref b, .ref y, .int (nI d)] σ (qr (nI (q_cnQ (fun w => q_af f w (s_n S 1) 0) d Q Q.1)) σ) := by
  have lo := l_countOf (G := G) hF hd hv Q.1 0 (by omega)
  refine qx_M_in rfl (Nat.le_of_ble_eq_true rfl) ?_
  refine qy_wp_ok (c := CX6_countOf) (cuts := [5]) vX6_countOf wX6_countOf 2000 0 _ _ _ ?_
  refine Exists.intro (nI 0) (And.intro rfl ?_)
  refine Exists.intro (nI 0) (And.intro rfl ?_)
  exact lo
def q_pls (p : Nat) (Q : q_Q) : Nat → Nat
  | 0 => 0
  | n + 1 => q_pls p Q n ||| 2 ^ q_dg (Q.2.2.1 n) p
theorem l_placesOf {G : qx_G} {σ : qx_S} {b p : Nat} {Q : q_Q} (hm : mQ σ b Q) (hp : p < 10) : ∀ (m i : Nat), m + i = Q.1 → qx_K G qc_T 1 RX6 YX6_placesOf 4 [.ref b, .int (nI p), .int (nI (q_pls p Q i)), .int (nI i)] [] σ (qr (nI (q_pls p Q Q.1)) σ) := by
  have hz := hm.2.2.2.2.1
  have m7 : qx_mi σ b 7 = nI Q.1 := hm.2.2.1
  have hc := hm.2.2.2.2.2.2.1
  obtain ⟨z, ez⟩ : ∃ z, z = Q.1 := ⟨_, rfl⟩
  rw [← ez] at hz m7 ⊢
  intro m
  induction m with
  | zero =>
    intro i hi
    obtain rfl : i = z := by omega
    refine qy_wp_ok (c := CX6_placesOf) (cuts := [4]) vX6_placesOf wX6_placesOf 2000 4 _ _ _ ?_
    refine And.intro (by rw [show qx_sh qc_T _ b = _ from hm.1.1]; rfl) (Exists.intro 7 (Exists.intro (nI i) (And.intro rfl (And.intro m7 ?_))))
    refine And.intro (fun h9 => ?_) (fun h9 => ?_)
    · skip
      have h9 := nI_leT (a := i) (b := i) (by omega) (by omega) h9
      exact ⟨rfl, rfl⟩
    · skip
      have h9 := nI_leF (a := i) (b := i) (by omega) (by omega) h9
      exact absurd h9 (by omega)
  | succ m ih =>
    intro i hi
    have nx := ih (i + 1) (by omega)
    have c := (hc i (by omega)).1
    obtain ⟨w, ew⟩ : ∃ w, w = Q.2.2.1 i := ⟨_, rfl⟩
    have st : q_pls p Q (i + 1) = q_pls p Q i ||| 2 ^ q_dg w p := by rw [ew]; rfl
    rw [← ew] at c
    rw [st] at nx
    obtain ⟨a, ea⟩ : ∃ a, a = q_pls p Q i := ⟨_, rfl⟩
    rw [← ea] at nx ⊢
    have dl := q_dg_lt w p
    refine qy_wp_ok (c := CX6_placesOf) (cuts := [4]) vX6_placesOf wX6_placesOf 2000 4 _ _ _ ?_
    refine And.intro (by rw [show qx_sh qc_T _ b = _ from hm.1.1]; rfl) (Exists.intro 7 (Exists.intro (nI z) (And.intro rfl (And.intro m7 ?_))))
    refine And.intro (fun h9 => ?_) (fun h9 => ?_)
    · skip
      have h9 := nI_leT (a := z) (b := i) (by omega) (by omega) h9
      exact absurd h9 (by omega)
    · skip
      have h9 := nI_leF (a := z) (b := i) (by omega) (by omega) h9
      refine Exists.intro (nI 1) (And.intro rfl ?_)
      refine And.intro (by rw [show qx_sh qc_T _ b = _ from hm.1.1]; rfl) (Exists.intro (b + 1) (And.intro rfl ?_))
      refine Exists.intro (i) (Exists.intro (nI w) (And.intro rfl (And.intro ⟨2001, (hm.1.2.1 1 (by decide) (by decide)), by omega, by decide⟩ (And.intro c.1 ?_))))
      refine Exists.intro _ (And.intro (by decide) (qx_M_mono (c_placeIn c.2 hp) ?_))
      rintro _ _ ⟨rfl, rfl⟩
      refine Exists.intro (nI (2 ^ (q_dg w p))) (And.intro (nI_sh1 (by omega)) ?_)
      refine Exists.intro (nI (a ||| (2 ^ (q_dg w p)))) (And.intro (nI_or _ _) ?_)
      refine Exists.intro (nI (i + 1)) (And.intro (nI_add _ _) ?_)
      exact nx
theorem c_placesOf {G : qx_G} {σ : qx_S} {b p : Nat} {Q : q_Q} (hm : mQ σ b Q) (hp : p < 10) : qx_M G qc_T 1 YX6_placesOf [.ref b, .int (nI p)] σ (qr (nI (q_pls p Q Q.1)) σ) := by
  have lo := l_placesOf (G := G) hm hp Q.1 0 (by omega)
  refine qx_M_in rfl (Nat.le_of_ble_eq_true rfl) ?_
  refine qy_wp_ok (c := CX6_placesOf) (cuts := [4]) vX6_placesOf wX6_placesOf 2000 0 _ _ _ ?_
  refine Exists.intro (nI 0) (And.intro rfl ?_)
  refine Exists.intro (nI 0) (And.intro rfl ?_)
  exact lo
/-! rows point back -/
def q_bwQ (Q : q_Q) (n : Nat) : Prop := Q.2.2.2.1 0 = 0 ∧ ∀ i, 0 < i → i < n → Q.2.2.2.2.1 i < i ∧ Q.2.2.2.1 i = Q.2.2.2.1 (Q.2.2.2.2.1 i) + 1 ∧ Q.2.2.2.2.2.1 i < 100
def q_bk1 (Q : q_Q) : Nat → Nat → Nat
  | 0, s => s
  | m + 1, s => q_bk1 Q m (Q.2.2.2.2.1 s)
theorem l_ringOn {G : qx_G} {σ : qx_S} {b k n : Nat} {Q : q_Q} (hm : mQ σ b Q) (hb : q_bwQ Q n) (hn : n ≤ Q.1) (hk : k < 2001) : ∀ (m s : Nat), s < n → Q.2.2.2.1 s = k + m + 1 → qx_K G qc_T 0 RX6 YX6_ringOnWay 12 [.ref b, .retAddr 0, .int (nI k), .int (nI s), .int (nI (k + m))] [] σ (qr (nI (Q.2.2.2.2.2.1 (q_bk1 Q m s))) σ) := by
  have hz := hm.2.2.2.2.1
  have hc := hm.2.2.2.2.2.2.1
  intro m
  induction m with
  | zero =>
    intro s hs hd
    have c := hc s (by omega)
    refine qy_wp_ok (c := CX6_ringOnWay) (cuts := [12]) vX6_ringOnWay wX6_ringOnWay 2000 12 _ _ _ ?_
    refine And.intro (fun h15 => ?_) (fun h15 => ?_)
    · skip
      have h15 := nI_leT (a := k) (b := k) (by omega) (by omega) h15
      refine And.intro (by rw [show qx_sh qc_T _ b = _ from hm.1.1]; rfl) (Exists.intro (b + 4) (And.intro rfl ?_))
      refine Exists.intro (s) (Exists.intro (nI (Q.2.2.2.2.2.1 s)) (And.intro rfl (And.intro ⟨2001, (hm.1.2.1 4 (by decide) (by decide)), by omega, by decide⟩ (And.intro c.2.2.2.1 ?_))))
      exact ⟨rfl, rfl⟩
    · skip
      have h15 := nI_leF (a := k) (b := k) (by omega) (by omega) h15
      exact absurd h15 (by omega)
  | succ m ih =>
    intro s hs hd
    have c := hc s (by omega)
    have dl := c.2.1.2
    have s0 : 0 < s := by
      rcases Nat.eq_zero_or_pos s with z | z
      · rw [z] at hd
        have := hb.1
        omega
      · exact z
    have h2 := hb.2 s s0 hs
    obtain ⟨t, et⟩ : ∃ t, t = Q.2.2.2.2.1 s := ⟨_, rfl⟩
    rw [← et] at h2
    have nx := ih t (by omega) (by omega)
    have c3 : qx_mi σ (b + 3) s = nI t := by rw [et]; exact c.2.2.1
    have e : q_bk1 Q (m + 1) s = q_bk1 Q m t := by rw [et]; rfl
    rw [e]
    refine qy_wp_ok (c := CX6_ringOnWay) (cuts := [12]) vX6_ringOnWay wX6_ringOnWay 2000 12 _ _ _ ?_
    refine And.intro (fun h15 => ?_) (fun h15 => ?_)
    · skip
      have h15 := nI_leT (a := k + (m + 1)) (b := k) (by omega) (by omega) h15
      exact absurd h15 (by omega)
    · skip
      have h15 := nI_leF (a := k + (m + 1)) (b := k) (by omega) (by omega) h15
      refine And.intro (by rw [show qx_sh qc_T _ b = _ from hm.1.1]; rfl) (Exists.intro (b + 3) (And.intro rfl ?_))
      refine Exists.intro (s) (Exists.intro (nI t) (And.intro rfl (And.intro ⟨2001, (hm.1.2.1 3 (by decide) (by decide)), by omega, by decide⟩ (And.intro c3 ?_))))
      refine Exists.intro (nI ((k + (m + 1)) - 1)) (And.intro (nI_dec 1 (by omega)) ?_)
      rw [show k + (m + 1) - 1 = k + m by omega]
      exact nx
theorem c_ringOnWay {G : qx_G} {σ : qx_S} {b k s n : Nat} {Q : q_Q} (hm : mQ σ b Q) (hb : q_bwQ Q n) (hn : n ≤ Q.1) (hs : s < n) (hk : k < Q.2.2.2.1 s) : qx_M G qc_T 0 YX6_ringOnWay [.ref b, .int (nI s), .int (nI k)] σ (qr (nI (Q.2.2.2.2.2.1 (q_bk1 Q (Q.2.2.2.1 s - 1 - k) s))) σ) := by
  have hz := hm.2.2.2.2.1
  have c := hm.2.2.2.2.2.2.1 s (by omega)
  have dl := c.2.1.2
  have lo := l_ringOn (G := G) hm hb hn (show k < 2001 by omega) (Q.2.2.2.1 s - 1 - k) s hs (by omega)
  rw [show k + (Q.2.2.2.1 s - 1 - k) = Q.2.2.2.1 s - 1 by omega] at lo
  obtain ⟨d, ed⟩ : ∃ d, d = Q.2.2.2.1 s := ⟨_, rfl⟩
  have c1 : qx_mi σ (b + 2) s = nI d := by rw [ed]; exact c.2.1.1
  rw [← ed] at lo hk dl ⊢
  refine qx_M_in rfl (Nat.le_of_ble_eq_true rfl) ?_
  refine qy_wp_ok (c := CX6_ringOnWay) (cuts := [12]) vX6_ringOnWay wX6_ringOnWay 2000 0 _ _ _ ?_
  refine And.intro (by rw [show qx_sh qc_T _ b = _ from hm.1.1]; rfl) (Exists.intro (b + 2) (And.intro rfl ?_))
  refine Exists.intro (s) (Exists.intro (nI d) (And.intro rfl (And.intro ⟨2001, (hm.1.2.1 2 (by decide) (by decide)), by omega, by decide⟩ (And.intro c1 ?_))))
  refine Exists.intro (nI 1) (And.intro rfl ?_)
  refine Exists.intro (nI (d - 1)) (And.intro (nI_sub (by omega)) ?_)
  refine qx_K_le (ls := [.ref b, .retAddr 0, .int (nI k), .int (nI s), .int (nI (d - 1))]) ⟨Or.inr rfl, Or.inl rfl, Or.inr rfl, Or.inr rfl, Or.inr rfl, trivial⟩ ?_
  exact lo

