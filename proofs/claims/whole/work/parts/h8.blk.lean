/-! THE CLASS: twos that block -/
theorem c_comesTo160 {G : qx_G} {σ : qx_S} {S : qS} {rf : Option qR} {e p x : Nat} (hI : cI σ S rf e) (hp : p < s_n S 1) (ht : qx_mi σ 161 p = nI x) (hx : x < s_n S 1) : qx_M G qc_T 0 YX10_comesTo [.ref 160, .int (nI p)] σ (qr (nI (s_at S x)) σ) := by
  have hpe := hI.1.pe
  refine qx_M_in rfl (Nat.le_of_ble_eq_true rfl) ?_
  refine qy_wp_ok (c := CX10_comesTo) (cuts := []) vX10_comesTo wX10_comesTo 2000 0 _ _ _ ?_
  refine And.intro rfl (Exists.intro 21 (And.intro rfl ?_))
  refine And.intro rfl (Exists.intro 22 (And.intro rfl ?_))
  refine And.intro rfl (Exists.intro 161 (And.intro rfl ?_))
  refine Exists.intro (p) (Exists.intro (nI x) (And.intro rfl (And.intro ⟨10, rfl, by omega, by decide⟩ (And.intro ht ?_))))
  refine Exists.intro (x) (Exists.intro (nI (s_at S x)) (And.intro rfl (And.intro ⟨10, rfl, by omega, by decide⟩ (And.intro (hI.at hx) ?_))))
  exact ⟨rfl, rfl⟩
theorem c_wouldLike160 {G : qx_G} {σ : qx_S} {S : qS} {rf : Option qR} {e a b : Nat} {t : Nat → Nat} (hI : cI σ S rf e) (hA : lkA σ 187 S rf none) (ht : ∀ i, i < s_n S 1 → qx_mi σ 161 i = nI (t i)) (hl : ∀ i, i < s_n S 1 → t i < s_n S 1) (ha : a < s_n S 1) (hb : b < s_n S 1) : qx_M G qc_T 1 YX10_wouldLike [.ref 160, .ref 187, .int (nI a), .int (nI b)] σ (qr (bI (decide (q_lk S rf a (s_at S a) (s_at S (t a)) < q_lk S rf a (s_at S a) (s_at S (t b))))) σ) := by
  have hpe := hI.1.pe
  have hpl := hI.1.pl
  have xa := (hI.1.1.2.1.2.2 (t a) (hl a ha)).2
  have xb := (hI.1.1.2.1.2.2 (t b) (hl b hb)).2
  have xa8 := hI.at8 (hl a ha)
  have xb8 := hI.at8 (hl b hb)
  obtain ⟨u, eu⟩ : ∃ u, u = s_at S (t a) := ⟨_, rfl⟩
  obtain ⟨v, ev⟩ : ∃ v, v = s_at S (t b) := ⟨_, rfl⟩
  have ca : qx_M G qc_T 0 YX10_comesTo [.ref 160, .int (nI a)] σ (qr (nI u) σ) := by rw [eu]; exact c_comesTo160 hI ha (ht a ha) (hl a ha)
  have cb : qx_M G qc_T 0 YX10_comesTo [.ref 160, .int (nI b)] σ (qr (nI v) σ) := by rw [ev]; exact c_comesTo160 hI hb (ht b hb) (hl b hb)
  have ua : qx_mi σ 187 (a * 8 + u) = q_lk S rf a (s_at S a) u := hA a u ha (by rw [eu]; exact xa)
  have ub : qx_mi σ 187 (a * 8 + v) = q_lk S rf a (s_at S a) v := hA a v ha (by rw [ev]; exact xb)
  rw [← eu, ← ev]
  rw [← eu] at xa8
  rw [← ev] at xb8
  refine qx_M_in rfl (Nat.le_of_ble_eq_true rfl) ?_
  refine qy_wp_ok (c := CX10_wouldLike) (cuts := []) vX10_wouldLike wX10_wouldLike 2000 0 _ _ _ ?_
  refine Exists.intro (nI 8) (And.intro rfl ?_)
  refine Exists.intro (nI (a * 8)) (And.intro (pk_mul _ _) ?_)
  refine Or.inr (And.intro rfl (Exists.intro _ (And.intro (by decide) (qx_M_mono (cb) ?_))))
  rintro _ _ ⟨rfl, rfl⟩
  refine Exists.intro (nI (a * 8 + v)) (And.intro (nI_add _ _) ?_)
  refine Exists.intro (a * 8 + v) (Exists.intro (q_lk S rf a (s_at S a) v) (And.intro rfl (And.intro ⟨80, rfl, by omega, by decide⟩ (And.intro ub ?_))))
  refine Or.inr (And.intro rfl (Exists.intro _ (And.intro (by decide) (qx_M_mono (ca) ?_))))
  rintro _ _ ⟨rfl, rfl⟩
  refine Exists.intro (nI (a * 8 + u)) (And.intro (nI_add _ _) ?_)
  refine Exists.intro (a * 8 + u) (Exists.intro (q_lk S rf a (s_at S a) u) (And.intro rfl (And.intro ⟨80, rfl, by omega, by decide⟩ (And.intro ua ?_))))
  refine And.intro (fun h26 => ?_) (fun h26 => ?_)
  · skip
    refine Exists.intro (nI 0) (And.intro rfl ?_)
    refine And.intro (Or.inl rfl) ?_
    first | exact ⟨by rw [decide_eq_false (Int32.not_lt.mpr h26)]; rfl, rfl⟩ | exact ⟨by rw [decide_eq_true (Int32.not_le.mp h26)]; rfl, rfl⟩
  · skip
    refine Exists.intro (nI 1) (And.intro rfl ?_)
    refine And.intro (Or.inr rfl) ?_
    first | exact ⟨by rw [decide_eq_false (Int32.not_lt.mpr h26)]; rfl, rfl⟩ | exact ⟨by rw [decide_eq_true (Int32.not_le.mp h26)]; rfl, rfl⟩
theorem l_bt2160 {G : qx_G} {σ : qx_S} {S : qS} {rf : Option qR} {e a : Nat} {t : Nat → Nat} (hI : cI σ S rf e) (hA : lkA σ 187 S rf none) (ht : ∀ i, i < s_n S 1 → qx_mi σ 161 i = nI (t i)) (hl : ∀ i, i < s_n S 1 → t i < s_n S 1) (ha : a < s_n S 1) {Φ : qx_F} {N : Nat} (key : qx_K G qc_T 2 RX10 YX10_blockingTwos 69 [.ref 160, .ref 187, .int (nI N), .int (nI a), .retAddr 0] [] σ Φ) : ∀ (m b n : Nat), m + b = s_n S 1 → q_b1 (q_bf S rf t) a m b n = N → qx_K G qc_T 2 RX10 YX10_blockingTwos 23 [.ref 160, .ref 187, .int (nI n), .int (nI a), .int (nI b)] [] σ Φ := by
  have hpe := hI.1.pe
  have e5 := hI.2.1.1.2.1.trans hI.1.1.2.1.2.1.1
  intro m
  induction m with
  | zero =>
    intro b n hm hN
    have hN : n = N := hN
    rw [show b = s_n S 1 by omega, hN]
    refine qy_wp_ok (c := CX10_blockingTwos) (cuts := [23, 69]) vX10_blockingTwos wX10_blockingTwos 2000 23 _ _ _ ?_
    refine And.intro rfl (Exists.intro 156 (And.intro rfl ?_))
    refine And.intro rfl (Exists.intro 16 (And.intro rfl ?_))
    refine And.intro rfl (Exists.intro 5 (Exists.intro (nI (s_n S 1)) (And.intro rfl (And.intro e5 ?_))))
    refine And.intro (fun h35 => ?_) (fun h35 => ?_)
    · skip
      have h35 := nI_leT (a := s_n S 1) (b := s_n S 1) (by omega) (by omega) h35
      refine qx_K_le (ls := [.ref 160, .ref 187, .int (nI N), .int (nI a), .retAddr 0]) ⟨Or.inr rfl, Or.inr rfl, Or.inr rfl, Or.inr rfl, Or.inl rfl, trivial⟩ ?_
      exact key
    · skip
      have h35 := nI_leF (a := s_n S 1) (b := s_n S 1) (by omega) (by omega) h35
      exact absurd h35 (by omega)
  | succ m ih =>
    intro b n hm hN
    have hb : b < s_n S 1 := by omega
    have hN : q_b1 (q_bf S rf t) a m (b + 1) (if q_bf S rf t a b = true then n + 1 else n) = N := hN
    have f0 : decide (q_lk S rf a (s_at S a) (s_at S (t a)) < q_lk S rf a (s_at S a) (s_at S (t b))) = false → q_bf S rf t a b = false := fun h => by unfold q_bf; rw [h]; rfl
    have f1 : decide (q_lk S rf b (s_at S b) (s_at S (t b)) < q_lk S rf b (s_at S b) (s_at S (t a))) = false → q_bf S rf t a b = false := fun h => by unfold q_bf; rw [h]; exact Bool.and_false _
    have f2 : decide (q_lk S rf a (s_at S a) (s_at S (t a)) < q_lk S rf a (s_at S a) (s_at S (t b))) = true → decide (q_lk S rf b (s_at S b) (s_at S (t b)) < q_lk S rf b (s_at S b) (s_at S (t a))) = true → q_bf S rf t a b = true := fun h h' => by unfold q_bf; rw [h, h']; rfl
    refine qy_wp_ok (c := CX10_blockingTwos) (cuts := [23, 69]) vX10_blockingTwos wX10_blockingTwos 2000 23 _ _ _ ?_
    refine And.intro rfl (Exists.intro 156 (And.intro rfl ?_))
    refine And.intro rfl (Exists.intro 16 (And.intro rfl ?_))
    refine And.intro rfl (Exists.intro 5 (Exists.intro (nI (s_n S 1)) (And.intro rfl (And.intro e5 ?_))))
    refine And.intro (fun h35 => ?_) (fun h35 => ?_)
    · skip
      have h35 := nI_leT (a := s_n S 1) (b := b) (by omega) (by omega) h35
      exact absurd h35 (by omega)
    · skip
      have h35 := nI_leF (a := s_n S 1) (b := b) (by omega) (by omega) h35
      refine Or.inr (And.intro rfl (Exists.intro _ (And.intro (by decide) (qx_M_mono (c_wouldLike160 hI hA ht hl ha hb) ?_))))
      rintro _ _ ⟨rfl, rfl⟩
      refine And.intro (fun h46 => ?_) (fun h46 => ?_)
      · skip
        have h46 := bI_f h46
        refine Exists.intro (nI (b + 1)) (And.intro (nI_add _ _) ?_)
        exact ih (b + 1) n (by omega) (by rw [if_neg (by rw [f0 h46]; decide)] at hN; exact hN)
      · skip
        have h46 := bI_t h46
        refine Or.inr (And.intro rfl (Exists.intro _ (And.intro (by decide) (qx_M_mono (c_wouldLike160 hI hA ht hl hb ha) ?_))))
        rintro _ _ ⟨rfl, rfl⟩
        refine And.intro (fun h57 => ?_) (fun h57 => ?_)
        · skip
          have h57 := bI_f h57
          refine Exists.intro (nI (b + 1)) (And.intro (nI_add _ _) ?_)
          exact ih (b + 1) n (by omega) (by rw [if_neg (by rw [f1 h57]; decide)] at hN; exact hN)
        · skip
          have h57 := bI_t h57
          refine Exists.intro (nI (n + 1)) (And.intro (nI_add _ _) ?_)
          refine Exists.intro (nI (b + 1)) (And.intro (nI_add _ _) ?_)
          exact ih (b + 1) (n + 1) (by omega) (by rw [if_pos (f2 h46 h57)] at hN; exact hN)
theorem l_bt1160 {G : qx_G} {σ : qx_S} {S : qS} {rf : Option qR} {e : Nat} {t : Nat → Nat} (hI : cI σ S rf e) (hA : lkA σ 187 S rf none) (ht : ∀ i, i < s_n S 1 → qx_mi σ 161 i = nI (t i)) (hl : ∀ i, i < s_n S 1 → t i < s_n S 1) : ∀ (m a n : Nat), m + a = s_n S 1 → qx_K G qc_T 2 RX10 YX10_blockingTwos 4 [.ref 160, .ref 187, .int (nI n), .int (nI a), .retAddr 0] [] σ (qr (nI (q_b2 (q_bf S rf t) (s_n S 1) m a n)) σ) := by
  have hpe := hI.1.pe
  have e5 := hI.2.1.1.2.1.trans hI.1.1.2.1.2.1.1
  intro m
  induction m with
  | zero =>
    intro a n hm
    rw [show a = s_n S 1 by omega]
    refine qy_wp_ok (c := CX10_blockingTwos) (cuts := [4, 23]) vX10_blockingTwos wX10_blockingTwos 2000 4 _ _ _ ?_
    refine And.intro rfl (Exists.intro 156 (And.intro rfl ?_))
    refine And.intro rfl (Exists.intro 16 (And.intro rfl ?_))
    refine And.intro rfl (Exists.intro 5 (Exists.intro (nI (s_n S 1)) (And.intro rfl (And.intro e5 ?_))))
    refine And.intro (fun h15 => ?_) (fun h15 => ?_)
    · skip
      have h15 := nI_leT (a := s_n S 1) (b := s_n S 1) (by omega) (by omega) h15
      exact ⟨rfl, rfl⟩
    · skip
      have h15 := nI_leF (a := s_n S 1) (b := s_n S 1) (by omega) (by omega) h15
      exact absurd h15 (by omega)
  | succ m ih =>
    intro a n hm
    have ha : a < s_n S 1 := by omega
    obtain ⟨N, eN⟩ : ∃ N, q_b1 (q_bf S rf t) a (s_n S 1 - (a + 1)) (a + 1) n = N := ⟨_, rfl⟩
    have st : q_b2 (q_bf S rf t) (s_n S 1) (m + 1) a n = q_b2 (q_bf S rf t) (s_n S 1) m (a + 1) N := by rw [← eN]; rfl
    rw [st]
    have k69 : qx_K G qc_T 2 RX10 YX10_blockingTwos 69 [.ref 160, .ref 187, .int (nI N), .int (nI a), .retAddr 0] [] σ (qr (nI (q_b2 (q_bf S rf t) (s_n S 1) m (a + 1) N)) σ) := by
      refine qy_wp_ok (c := CX10_blockingTwos) (cuts := [4]) vX10_blockingTwos wX10_blockingTwos 2000 69 _ _ _ ?_
      refine Exists.intro (nI (a + 1)) (And.intro (nI_add _ _) ?_)
      exact ih (a + 1) N (by omega)
    refine qy_wp_ok (c := CX10_blockingTwos) (cuts := [4, 23]) vX10_blockingTwos wX10_blockingTwos 2000 4 _ _ _ ?_
    refine And.intro rfl (Exists.intro 156 (And.intro rfl ?_))
    refine And.intro rfl (Exists.intro 16 (And.intro rfl ?_))
    refine And.intro rfl (Exists.intro 5 (Exists.intro (nI (s_n S 1)) (And.intro rfl (And.intro e5 ?_))))
    refine And.intro (fun h15 => ?_) (fun h15 => ?_)
    · skip
      have h15 := nI_leT (a := s_n S 1) (b := a) (by omega) (by omega) h15
      exact absurd h15 (by omega)
    · skip
      have h15 := nI_leF (a := s_n S 1) (b := a) (by omega) (by omega) h15
      refine Exists.intro (nI 1) (And.intro rfl ?_)
      refine Exists.intro (nI (a + 1)) (And.intro (nI_add _ _) ?_)
      exact l_bt2160 hI hA ht hl ha k69 (s_n S 1 - (a + 1)) (a + 1) n (by omega) eN
theorem c_blockingTwos160 {G : qx_G} {σ : qx_S} {S : qS} {rf : Option qR} {e : Nat} {t : Nat → Nat} (hI : cI σ S rf e) (hA : lkA σ 187 S rf none) (ht : ∀ i, i < s_n S 1 → qx_mi σ 161 i = nI (t i)) (hl : ∀ i, i < s_n S 1 → t i < s_n S 1) : qx_M G qc_T 2 YX10_blockingTwos [.ref 160, .ref 187] σ (qr (nI (q_b2 (q_bf S rf t) (s_n S 1) (s_n S 1) 0 0)) σ) := by
  refine qx_M_in rfl (Nat.le_of_ble_eq_true rfl) ?_
  refine qy_wp_ok (c := CX10_blockingTwos) (cuts := [4]) vX10_blockingTwos wX10_blockingTwos 2000 0 _ _ _ ?_
  refine Exists.intro (nI 0) (And.intro rfl ?_)
  refine Exists.intro (nI 0) (And.intro rfl ?_)
  exact l_bt1160 hI hA ht hl (s_n S 1) 0 0 (by omega)
theorem c_comesTo174 {G : qx_G} {σ : qx_S} {S : qS} {rf : Option qR} {e p x : Nat} (hI : cI σ S rf e) (hp : p < s_n S 1) (ht : qx_mi σ 175 p = nI x) (hx : x < s_n S 1) : qx_M G qc_T 0 YX10_comesTo [.ref 174, .int (nI p)] σ (qr (nI (s_at S x)) σ) := by
  have hpe := hI.1.pe
  refine qx_M_in rfl (Nat.le_of_ble_eq_true rfl) ?_
  refine qy_wp_ok (c := CX10_comesTo) (cuts := []) vX10_comesTo wX10_comesTo 2000 0 _ _ _ ?_
  refine And.intro rfl (Exists.intro 21 (And.intro rfl ?_))
  refine And.intro rfl (Exists.intro 22 (And.intro rfl ?_))
  refine And.intro rfl (Exists.intro 175 (And.intro rfl ?_))
  refine Exists.intro (p) (Exists.intro (nI x) (And.intro rfl (And.intro ⟨10, rfl, by omega, by decide⟩ (And.intro ht ?_))))
  refine Exists.intro (x) (Exists.intro (nI (s_at S x)) (And.intro rfl (And.intro ⟨10, rfl, by omega, by decide⟩ (And.intro (hI.at hx) ?_))))
  exact ⟨rfl, rfl⟩
theorem c_wouldLike174 {G : qx_G} {σ : qx_S} {S : qS} {rf : Option qR} {e a b : Nat} {t : Nat → Nat} (hI : cI σ S rf e) (hA : lkA σ 187 S rf none) (ht : ∀ i, i < s_n S 1 → qx_mi σ 175 i = nI (t i)) (hl : ∀ i, i < s_n S 1 → t i < s_n S 1) (ha : a < s_n S 1) (hb : b < s_n S 1) : qx_M G qc_T 1 YX10_wouldLike [.ref 174, .ref 187, .int (nI a), .int (nI b)] σ (qr (bI (decide (q_lk S rf a (s_at S a) (s_at S (t a)) < q_lk S rf a (s_at S a) (s_at S (t b))))) σ) := by
  have hpe := hI.1.pe
  have hpl := hI.1.pl
  have xa := (hI.1.1.2.1.2.2 (t a) (hl a ha)).2
  have xb := (hI.1.1.2.1.2.2 (t b) (hl b hb)).2
  have xa8 := hI.at8 (hl a ha)
  have xb8 := hI.at8 (hl b hb)
  obtain ⟨u, eu⟩ : ∃ u, u = s_at S (t a) := ⟨_, rfl⟩
  obtain ⟨v, ev⟩ : ∃ v, v = s_at S (t b) := ⟨_, rfl⟩
  have ca : qx_M G qc_T 0 YX10_comesTo [.ref 174, .int (nI a)] σ (qr (nI u) σ) := by rw [eu]; exact c_comesTo174 hI ha (ht a ha) (hl a ha)
  have cb : qx_M G qc_T 0 YX10_comesTo [.ref 174, .int (nI b)] σ (qr (nI v) σ) := by rw [ev]; exact c_comesTo174 hI hb (ht b hb) (hl b hb)
  have ua : qx_mi σ 187 (a * 8 + u) = q_lk S rf a (s_at S a) u := hA a u ha (by rw [eu]; exact xa)
  have ub : qx_mi σ 187 (a * 8 + v) = q_lk S rf a (s_at S a) v := hA a v ha (by rw [ev]; exact xb)
  rw [← eu, ← ev]
  rw [← eu] at xa8
  rw [← ev] at xb8
  refine qx_M_in rfl (Nat.le_of_ble_eq_true rfl) ?_
  refine qy_wp_ok (c := CX10_wouldLike) (cuts := []) vX10_wouldLike wX10_wouldLike 2000 0 _ _ _ ?_
  refine Exists.intro (nI 8) (And.intro rfl ?_)
  refine Exists.intro (nI (a * 8)) (And.intro (pk_mul _ _) ?_)
  refine Or.inl (And.intro rfl (Exists.intro _ (And.intro (by decide) (qx_M_mono (cb) ?_))))
  rintro _ _ ⟨rfl, rfl⟩
  refine Exists.intro (nI (a * 8 + v)) (And.intro (nI_add _ _) ?_)
  refine Exists.intro (a * 8 + v) (Exists.intro (q_lk S rf a (s_at S a) v) (And.intro rfl (And.intro ⟨80, rfl, by omega, by decide⟩ (And.intro ub ?_))))
  refine Or.inl (And.intro rfl (Exists.intro _ (And.intro (by decide) (qx_M_mono (ca) ?_))))
  rintro _ _ ⟨rfl, rfl⟩
  refine Exists.intro (nI (a * 8 + u)) (And.intro (nI_add _ _) ?_)
  refine Exists.intro (a * 8 + u) (Exists.intro (q_lk S rf a (s_at S a) u) (And.intro rfl (And.intro ⟨80, rfl, by omega, by decide⟩ (And.intro ua ?_))))
  refine And.intro (fun h26 => ?_) (fun h26 => ?_)
  · skip
    refine Exists.intro (nI 0) (And.intro rfl ?_)
    refine And.intro (Or.inl rfl) ?_
    first | exact ⟨by rw [decide_eq_false (Int32.not_lt.mpr h26)]; rfl, rfl⟩ | exact ⟨by rw [decide_eq_true (Int32.not_le.mp h26)]; rfl, rfl⟩
  · skip
    refine Exists.intro (nI 1) (And.intro rfl ?_)
    refine And.intro (Or.inr rfl) ?_
    first | exact ⟨by rw [decide_eq_false (Int32.not_lt.mpr h26)]; rfl, rfl⟩ | exact ⟨by rw [decide_eq_true (Int32.not_le.mp h26)]; rfl, rfl⟩
theorem l_bt2174 {G : qx_G} {σ : qx_S} {S : qS} {rf : Option qR} {e a : Nat} {t : Nat → Nat} (hI : cI σ S rf e) (hA : lkA σ 187 S rf none) (ht : ∀ i, i < s_n S 1 → qx_mi σ 175 i = nI (t i)) (hl : ∀ i, i < s_n S 1 → t i < s_n S 1) (ha : a < s_n S 1) {Φ : qx_F} {N : Nat} (key : qx_K G qc_T 2 RX10 YX10_blockingTwos 69 [.ref 174, .ref 187, .int (nI N), .int (nI a), .retAddr 0] [] σ Φ) : ∀ (m b n : Nat), m + b = s_n S 1 → q_b1 (q_bf S rf t) a m b n = N → qx_K G qc_T 2 RX10 YX10_blockingTwos 23 [.ref 174, .ref 187, .int (nI n), .int (nI a), .int (nI b)] [] σ Φ := by
  have hpe := hI.1.pe
  have e5 := hI.2.1.1.2.1.trans hI.1.1.2.1.2.1.1
  intro m
  induction m with
  | zero =>
    intro b n hm hN
    have hN : n = N := hN
    rw [show b = s_n S 1 by omega, hN]
    refine qy_wp_ok (c := CX10_blockingTwos) (cuts := [23, 69]) vX10_blockingTwos wX10_blockingTwos 2000 23 _ _ _ ?_
    refine And.intro rfl (Exists.intro 156 (And.intro rfl ?_))
    refine And.intro rfl (Exists.intro 16 (And.intro rfl ?_))
    refine And.intro rfl (Exists.intro 5 (Exists.intro (nI (s_n S 1)) (And.intro rfl (And.intro e5 ?_))))
    refine And.intro (fun h35 => ?_) (fun h35 => ?_)
    · skip
      have h35 := nI_leT (a := s_n S 1) (b := s_n S 1) (by omega) (by omega) h35
      refine qx_K_le (ls := [.ref 174, .ref 187, .int (nI N), .int (nI a), .retAddr 0]) ⟨Or.inr rfl, Or.inr rfl, Or.inr rfl, Or.inr rfl, Or.inl rfl, trivial⟩ ?_
      exact key
    · skip
      have h35 := nI_leF (a := s_n S 1) (b := s_n S 1) (by omega) (by omega) h35
      exact absurd h35 (by omega)
  | succ m ih =>
    intro b n hm hN
    have hb : b < s_n S 1 := by omega
    have hN : q_b1 (q_bf S rf t) a m (b + 1) (if q_bf S rf t a b = true then n + 1 else n) = N := hN
    have f0 : decide (q_lk S rf a (s_at S a) (s_at S (t a)) < q_lk S rf a (s_at S a) (s_at S (t b))) = false → q_bf S rf t a b = false := fun h => by unfold q_bf; rw [h]; rfl
    have f1 : decide (q_lk S rf b (s_at S b) (s_at S (t b)) < q_lk S rf b (s_at S b) (s_at S (t a))) = false → q_bf S rf t a b = false := fun h => by unfold q_bf; rw [h]; exact Bool.and_false _
    have f2 : decide (q_lk S rf a (s_at S a) (s_at S (t a)) < q_lk S rf a (s_at S a) (s_at S (t b))) = true → decide (q_lk S rf b (s_at S b) (s_at S (t b)) < q_lk S rf b (s_at S b) (s_at S (t a))) = true → q_bf S rf t a b = true := fun h h' => by unfold q_bf; rw [h, h']; rfl
    refine qy_wp_ok (c := CX10_blockingTwos) (cuts := [23, 69]) vX10_blockingTwos wX10_blockingTwos 2000 23 _ _ _ ?_
    refine And.intro rfl (Exists.intro 156 (And.intro rfl ?_))
    refine And.intro rfl (Exists.intro 16 (And.intro rfl ?_))
    refine And.intro rfl (Exists.intro 5 (Exists.intro (nI (s_n S 1)) (And.intro rfl (And.intro e5 ?_))))
    refine And.intro (fun h35 => ?_) (fun h35 => ?_)
    · skip
      have h35 := nI_leT (a := s_n S 1) (b := b) (by omega) (by omega) h35
      exact absurd h35 (by omega)
    · skip
      have h35 := nI_leF (a := s_n S 1) (b := b) (by omega) (by omega) h35
      refine Or.inl (And.intro rfl (Exists.intro _ (And.intro (by decide) (qx_M_mono (c_wouldLike174 hI hA ht hl ha hb) ?_))))
      rintro _ _ ⟨rfl, rfl⟩
      refine And.intro (fun h46 => ?_) (fun h46 => ?_)
      · skip
        have h46 := bI_f h46
        refine Exists.intro (nI (b + 1)) (And.intro (nI_add _ _) ?_)
        exact ih (b + 1) n (by omega) (by rw [if_neg (by rw [f0 h46]; decide)] at hN; exact hN)
      · skip
        have h46 := bI_t h46
        refine Or.inl (And.intro rfl (Exists.intro _ (And.intro (by decide) (qx_M_mono (c_wouldLike174 hI hA ht hl hb ha) ?_))))
        rintro _ _ ⟨rfl, rfl⟩
        refine And.intro (fun h57 => ?_) (fun h57 => ?_)
        · skip
          have h57 := bI_f h57
          refine Exists.intro (nI (b + 1)) (And.intro (nI_add _ _) ?_)
          exact ih (b + 1) n (by omega) (by rw [if_neg (by rw [f1 h57]; decide)] at hN; exact hN)
        · skip
          have h57 := bI_t h57
          refine Exists.intro (nI (n + 1)) (And.intro (nI_add _ _) ?_)
          refine Exists.intro (nI (b + 1)) (And.intro (nI_add _ _) ?_)
          exact ih (b + 1) (n + 1) (by omega) (by rw [if_pos (f2 h46 h57)] at hN; exact hN)
theorem l_bt1174 {G : qx_G} {σ : qx_S} {S : qS} {rf : Option qR} {e : Nat} {t : Nat → Nat} (hI : cI σ S rf e) (hA : lkA σ 187 S rf none) (ht : ∀ i, i < s_n S 1 → qx_mi σ 175 i = nI (t i)) (hl : ∀ i, i < s_n S 1 → t i < s_n S 1) : ∀ (m a n : Nat), m + a = s_n S 1 → qx_K G qc_T 2 RX10 YX10_blockingTwos 4 [.ref 174, .ref 187, .int (nI n), .int (nI a), .retAddr 0] [] σ (qr (nI (q_b2 (q_bf S rf t) (s_n S 1) m a n)) σ) := by
  have hpe := hI.1.pe
  have e5 := hI.2.1.1.2.1.trans hI.1.1.2.1.2.1.1
  intro m
  induction m with
  | zero =>
    intro a n hm
    rw [show a = s_n S 1 by omega]
    refine qy_wp_ok (c := CX10_blockingTwos) (cuts := [4, 23]) vX10_blockingTwos wX10_blockingTwos 2000 4 _ _ _ ?_
    refine And.intro rfl (Exists.intro 156 (And.intro rfl ?_))
    refine And.intro rfl (Exists.intro 16 (And.intro rfl ?_))
    refine And.intro rfl (Exists.intro 5 (Exists.intro (nI (s_n S 1)) (And.intro rfl (And.intro e5 ?_))))
    refine And.intro (fun h15 => ?_) (fun h15 => ?_)
    · skip
      have h15 := nI_leT (a := s_n S 1) (b := s_n S 1) (by omega) (by omega) h15
      exact ⟨rfl, rfl⟩
    · skip
      have h15 := nI_leF (a := s_n S 1) (b := s_n S 1) (by omega) (by omega) h15
      exact absurd h15 (by omega)
  | succ m ih =>
    intro a n hm
    have ha : a < s_n S 1 := by omega
    obtain ⟨N, eN⟩ : ∃ N, q_b1 (q_bf S rf t) a (s_n S 1 - (a + 1)) (a + 1) n = N := ⟨_, rfl⟩
    have st : q_b2 (q_bf S rf t) (s_n S 1) (m + 1) a n = q_b2 (q_bf S rf t) (s_n S 1) m (a + 1) N := by rw [← eN]; rfl
    rw [st]
    have k69 : qx_K G qc_T 2 RX10 YX10_blockingTwos 69 [.ref 174, .ref 187, .int (nI N), .int (nI a), .retAddr 0] [] σ (qr (nI (q_b2 (q_bf S rf t) (s_n S 1) m (a + 1) N)) σ) := by
      refine qy_wp_ok (c := CX10_blockingTwos) (cuts := [4]) vX10_blockingTwos wX10_blockingTwos 2000 69 _ _ _ ?_
      refine Exists.intro (nI (a + 1)) (And.intro (nI_add _ _) ?_)
      exact ih (a + 1) N (by omega)
    refine qy_wp_ok (c := CX10_blockingTwos) (cuts := [4, 23]) vX10_blockingTwos wX10_blockingTwos 2000 4 _ _ _ ?_
    refine And.intro rfl (Exists.intro 156 (And.intro rfl ?_))
    refine And.intro rfl (Exists.intro 16 (And.intro rfl ?_))
    refine And.intro rfl (Exists.intro 5 (Exists.intro (nI (s_n S 1)) (And.intro rfl (And.intro e5 ?_))))
    refine And.intro (fun h15 => ?_) (fun h15 => ?_)
    · skip
      have h15 := nI_leT (a := s_n S 1) (b := a) (by omega) (by omega) h15
      exact absurd h15 (by omega)
    · skip
      have h15 := nI_leF (a := s_n S 1) (b := a) (by omega) (by omega) h15
      refine Exists.intro (nI 1) (And.intro rfl ?_)
      refine Exists.intro (nI (a + 1)) (And.intro (nI_add _ _) ?_)
      exact l_bt2174 hI hA ht hl ha k69 (s_n S 1 - (a + 1)) (a + 1) n (by omega) eN
theorem c_blockingTwos174 {G : qx_G} {σ : qx_S} {S : qS} {rf : Option qR} {e : Nat} {t : Nat → Nat} (hI : cI σ S rf e) (hA : lkA σ 187 S rf none) (ht : ∀ i, i < s_n S 1 → qx_mi σ 175 i = nI (t i)) (hl : ∀ i, i < s_n S 1 → t i < s_n S 1) : qx_M G qc_T 2 YX10_blockingTwos [.ref 174, .ref 187] σ (qr (nI (q_b2 (q_bf S rf t) (s_n S 1) (s_n S 1) 0 0)) σ) := by
  refine qx_M_in rfl (Nat.le_of_ble_eq_true rfl) ?_
  refine qy_wp_ok (c := CX10_blockingTwos) (cuts := [4]) vX10_blockingTwos wX10_blockingTwos 2000 0 _ _ _ ?_
  refine Exists.intro (nI 0) (And.intro rfl ?_)
  refine Exists.intro (nI 0) (And.intro rfl ?_)
  exact l_bt1174 hI hA ht hl (s_n S 1) 0 0 (by omega)
theorem c_blocks_no {G : qx_G} {σ : qx_S} {S : qS} {rf : Option qR} {e : Nat} (hI : cI σ S rf e) {x : Int32} (hb : (decide (0 < s_n S 0) && (decide (x = 0) || q_in64 x.toInt64 (lN 2) (lN 4))) = false) : qx_M G qc_T 9 YX11_blocks [.ref 3, .int x] σ (qr (-1) σ) := by
  refine qx_M_in rfl (Nat.le_of_ble_eq_true rfl) ?_
  refine qy_wp_ok (c := CX11_blocks) (cuts := [23]) vX11_blocks wX11_blocks 2000 0 _ _ _ ?_
  refine And.intro rfl (Exists.intro _ (And.intro (by decide) (qx_M_mono (c_hasCountry hI.2.1.1 hI.1.1.2.1.1.1 hI.1.1.2.1.1.2) ?_)))
  rintro _ _ ⟨rfl, rfl⟩
  refine And.intro (fun h4 => ?_) (fun h4 => ?_)
  · skip
    have h4 := bI_f h4
    refine Exists.intro ((-1)) (And.intro (by decide) ?_)
    exact ⟨rfl, rfl⟩
  · skip
    have h4 := bI_t h4
    refine And.intro (fun h8 => ?_) (fun h8 => ?_)
    · skip
      exfalso; rw [h4] at hb
      first
        | (rw [decide_eq_true h8] at hb; cases hb)
        | (rw [q_in_iff x (by decide) (by decide), decide_eq_true (show nI 2 ≤ x ∧ x ≤ nI 4 from ⟨Int32.not_lt.mp h13, h18⟩), Bool.or_true] at hb; cases hb)
    · skip
      refine Exists.intro (nI 2) (And.intro rfl ?_)
      refine And.intro (fun h13 => ?_) (fun h13 => ?_)
      · skip
        refine Exists.intro ((-1)) (And.intro (by decide) ?_)
        exact ⟨rfl, rfl⟩
      · skip
        refine Exists.intro (nI 4) (And.intro rfl ?_)
        refine And.intro (fun h18 => ?_) (fun h18 => ?_)
        · skip
          exfalso; rw [h4] at hb
          first
            | (rw [decide_eq_true h8] at hb; cases hb)
            | (rw [q_in_iff x (by decide) (by decide), decide_eq_true (show nI 2 ≤ x ∧ x ≤ nI 4 from ⟨Int32.not_lt.mp h13, h18⟩), Bool.or_true] at hb; cases hb)
        · skip
          refine Exists.intro ((-1)) (And.intro (by decide) ?_)
          exact ⟨rfl, rfl⟩
abbrev kBl : List (Nat × Option Nat) := (175, none) :: (179, none) :: kMn
theorem c_blocks_0 {G : qx_G} {σ : qx_S} {S : qS} {rf : Option qR} {e : Nat} (hI : cI σ S rf e) (hL : cLk σ S rf e) (hS : cMs σ S rf e) (hc : 0 < s_n S 0) : qx_M G qc_T 9 YX11_blocks [.ref 3, .int (nI 0)] σ (fun r s => r = some (.int (nI (q_b2 (q_bf S rf (q_ct S rf none)) (s_n S 1) (s_n S 1) 0 0))) ∧ ql kBl σ s ∧ cI s S rf e ∧ cLk s S rf e ∧ cMs s S rf e) := by
  obtain ⟨v, ev⟩ : ∃ v, v = q_b2 (q_bf S rf (q_ct S rf none)) (s_n S 1) (s_n S 1) 0 0 := ⟨_, rfl⟩
  rw [← ev]
  have cb : ∀ s, cI s S rf e → lkA s 187 S rf none → (∀ i, i < s_n S 1 → qx_mi s 175 i = nI (q_ct S rf none i)) → qx_M G qc_T 2 YX10_blockingTwos [.ref 174, .ref 187] s (qr (nI v) s) := fun s a b c => by rw [ev]; exact c_blockingTwos174 a b c q_ct_lt
  refine qx_M_in rfl (Nat.le_of_ble_eq_true rfl) ?_
  refine qy_wp_ok (c := CX11_blocks) (cuts := []) vX11_blocks wX11_blocks 2000 0 _ _ _ ?_
  refine And.intro rfl (Exists.intro _ (And.intro (by decide) (qx_M_mono (c_hasCountry hI.2.1.1 hI.1.1.2.1.1.1 hI.1.1.2.1.1.2) ?_)))
  rintro _ _ ⟨rfl, rfl⟩
  refine And.intro (fun h4 => ?_) (fun h4 => ?_)
  · skip
    have h4 := bI_f h4
    exact absurd (h4.symm.trans (decide_eq_true hc)) (by decide)
  · skip
    have h4 := bI_t h4
    refine And.intro (fun h8 => ?_) (fun h8 => ?_)
    · skip
      refine And.intro (fun h24 => ?_) (fun h24 => ?_)
      · skip
        exact absurd (by decide) h24
      · skip
        refine And.intro rfl (Exists.intro 174 (And.intro rfl ?_))
        refine And.intro rfl (Exists.intro _ (And.intro (by decide) (qx_M_mono (c_likesNow hI hL) ?_)))
        rintro _ ρ ⟨rfl, fρ, iρ, aρ, lρ⟩
        refine Exists.intro (nI 10) (And.intro rfl ?_)
        refine And.intro rfl (Exists.intro _ (And.intro (by decide) (qx_M_mono (c_coreSettle iρ (by decide) rfl aρ) ?_)))
        rintro _ τ ⟨rfl, fτ, tτ⟩
        refine And.intro rfl (Exists.intro 174 (And.intro rfl ?_))
        refine And.intro rfl (Exists.intro _ (And.intro (by decide) (qx_M_mono (c_likesNow (iρ.fr fτ rfl rfl) (lρ.fr fτ rfl (fun _ => rfl))) ?_)))
        rintro _ μ ⟨rfl, fμ, iμ, aμ, lμ⟩
        refine And.intro rfl (Exists.intro _ (And.intro (by decide) (qx_M_mono (cb _ iμ aμ (fun i hi => (fμ.i _ _ rfl).trans (tτ i hi))) ?_)))
        rintro _ _ ⟨rfl, rfl⟩
        exact ⟨rfl, ((fρ.mn rfl).tr (fτ.mn rfl)).tr (fμ.mn rfl), iμ, lμ, ((hS.fr fρ (fun x j h => pL_ne (by simp; omega))).fr fτ (fun x j h => pL_ne (by simp; omega))).fr fμ (fun x j h => pL_ne (by simp; omega))⟩
    · skip
      exact absurd (by decide) h8
theorem c_blocks_k {G : qx_G} {σ : qx_S} {S : qS} {rf : Option qR} {e : Nat} (hI : cI σ S rf e) (hL : cLk σ S rf e) (hS : cMs σ S rf e) (hc : 0 < s_n S 0) {k : Nat} (hk2 : 2 ≤ k) (hk4 : k ≤ 4) : qx_M G qc_T 9 YX11_blocks [.ref 3, .int (nI k)] σ (fun r s => r = some (.int (nI (q_b2 (q_bf S rf (q_tk S rf none k)) (s_n S 1) (s_n S 1) 0 0))) ∧ ql kBl σ s ∧ cI s S rf e ∧ cLk s S rf e ∧ cMs s S rf e) := by
  have hpe := hI.1.pe
  obtain ⟨v, ev⟩ : ∃ v, v = q_b2 (q_bf S rf (q_tk S rf none k)) (s_n S 1) (s_n S 1) 0 0 := ⟨_, rfl⟩
  rw [← ev]
  have cb : ∀ s, cI s S rf e → lkA s 187 S rf none → (∀ i, i < s_n S 1 → qx_mi s 161 i = nI (q_tk S rf none k i)) → qx_M G qc_T 2 YX10_blockingTwos [.ref 160, .ref 187] s (qr (nI v) s) := fun s a b c => by rw [ev]; exact c_blockingTwos160 a b c (q_tk_lt hpe)
  refine qx_M_in rfl (Nat.le_of_ble_eq_true rfl) ?_
  refine qy_wp_ok (c := CX11_blocks) (cuts := []) vX11_blocks wX11_blocks 2000 0 _ _ _ ?_
  refine And.intro rfl (Exists.intro _ (And.intro (by decide) (qx_M_mono (c_hasCountry hI.2.1.1 hI.1.1.2.1.1.1 hI.1.1.2.1.1.2) ?_)))
  rintro _ _ ⟨rfl, rfl⟩
  refine And.intro (fun h4 => ?_) (fun h4 => ?_)
  · skip
    have h4 := bI_f h4
    exact absurd (h4.symm.trans (decide_eq_true hc)) (by decide)
  · skip
    have h4 := bI_t h4
    refine And.intro (fun h8 => ?_) (fun h8 => ?_)
    · skip
      have h8 := nI_eqT (a := k) (b := 0) (by omega) (by decide) h8
      exact absurd h8 (by omega)
    · skip
      have h8 := nI_neT (a := k) (b := 0) (by omega) (by decide) h8
      refine Exists.intro (nI 2) (And.intro rfl ?_)
      refine And.intro (fun h13 => ?_) (fun h13 => ?_)
      · skip
        have h13 := nI_ltT (a := k) (b := 2) (by omega) (by decide) h13
        exact absurd h13 (by omega)
      · skip
        have h13 := nI_ltF (a := k) (b := 2) (by omega) (by decide) h13
        refine Exists.intro (nI 4) (And.intro rfl ?_)
        refine And.intro (fun h18 => ?_) (fun h18 => ?_)
        · skip
          have h18 := nI_leT (a := k) (b := 4) (by omega) (by decide) h18
          refine And.intro (fun h24 => ?_) (fun h24 => ?_)
          · skip
            have h24 := nI_neT (a := k) (b := 0) (by omega) (by decide) h24
            refine And.intro rfl (Exists.intro 160 (And.intro rfl ?_))
            refine And.intro rfl (Exists.intro _ (And.intro (by decide) (qx_M_mono (c_likesNow hI hL) ?_)))
            rintro _ ρ ⟨rfl, fρ, iρ, aρ, lρ⟩
            refine And.intro rfl (Exists.intro _ (And.intro (by decide) (qx_M_mono (c_settleOnce hk2 hk4 iρ (hS.fr fρ (fun x j h => pL_ne (by simp; omega))) (by decide) rfl aρ) ?_)))
            rintro _ τ ⟨rfl, fτ, iτ, sτ, tτ, gτ⟩
            refine And.intro rfl (Exists.intro 160 (And.intro rfl ?_))
            refine And.intro rfl (Exists.intro _ (And.intro (by decide) (qx_M_mono (c_likesNow iτ (lρ.fr fτ rfl (fun _ => rfl))) ?_)))
            rintro _ μ ⟨rfl, fμ, iμ, aμ, lμ⟩
            refine And.intro rfl (Exists.intro _ (And.intro (by decide) (qx_M_mono (cb _ iμ aμ (fun i hi => (fμ.i _ _ rfl).trans (tτ i hi))) ?_)))
            rintro _ _ ⟨rfl, rfl⟩
            exact ⟨rfl, ((fρ.mn rfl).tr (fτ.mn rfl)).tr (fμ.mn rfl), iμ, lμ, sτ.fr fμ (fun x j h => pL_ne (by simp; omega))⟩
          · skip
            have h24 := nI_eqT (a := k) (b := 0) (by omega) (by decide) h24
            exact absurd h24 (by omega)
        · skip
          have h18 := nI_leF (a := k) (b := 4) (by omega) (by decide) h18
          exact absurd h18 (by omega)

