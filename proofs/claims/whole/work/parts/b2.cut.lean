/-! THE CLASS: pieces of the tape -/
/-- the text's length and its letters, at their places in the code -/
def kLen (G : qx_G) : Prop := ∀ (pc : Nat) (ls : List Value) (x : Int32) (σ : qx_S) (Φ : qx_F), (pc = 44 ∨ pc = 54) → qx_K G qc_T 9 RX9 YX9_cutWord (pc + 3) ls [.int (nI 101), .int x] σ Φ → qx_K G qc_T 9 RX9 YX9_cutWord pc ls [.ref 1, .int x] σ Φ
def kCh1 (G : qx_G) : Prop := ∀ (i : Nat) (ls : List Value) (σ : qx_S) (Φ : qx_F), i < 101 → qx_K G qc_T 9 RX9 YX9_cutWord 67 ls [.int (nI (q_tx i))] σ Φ → qx_K G qc_T 9 RX9 YX9_cutWord 64 ls [.int (nI i), .ref 1] σ Φ
def kCh2 (G : qx_G) : Prop := ∀ (i : Nat) (ls : List Value) (x : Int32) (σ : qx_S) (Φ : qx_F), i < 101 → qx_K G qc_T 8 RX9 YX9_matches 26 ls [.int (nI (q_tx i)), .int x] σ Φ → qx_K G qc_T 8 RX9 YX9_matches 23 ls [.int (nI i), .ref 1, .int x] σ Φ
def kStr (G : qx_G) : Prop := kLen G ∧ kCh1 G ∧ kCh2 G
theorem l_matches {G : qx_G} (hG : kCh2 G) {σ : qx_S} {T : q_T} (hT : tC σ T) {s b e : Nat} (hs : s ≤ 400) (he : e ≤ 101) : ∀ (m i : Nat), m + i = e → b ≤ i → (∀ x, x < i - b → q_see T (s + x) = nI (q_tx (b + x))) →
    qx_K G qc_T 8 RX9 YX9_matches 3 [.ref 4, .int (nI s), .int (nI b), .int (nI e), .int (nI i)] [] σ (qr (bI (q_mtw T s b e)) σ) := by
  intro m
  induction m with
  | zero =>
    intro i hi hb hx
    obtain rfl : i = e := by omega
    have ed : q_mtw T s b i = true := decide_eq_true hx
    rw [ed]
    refine qy_wp_ok (c := CX9_matches) (cuts := [3, 9]) vX9_matches wX9_matches 2000 3 _ _ _ ?_
    refine And.intro (fun h6 => ?_) (fun h6 => ?_)
    · skip
      have h6 := nI_leT (a := i) (b := i) (by omega) (by omega) h6
      refine Exists.intro (nI 1) (And.intro rfl ?_)
      refine And.intro (Or.inr rfl) ?_
      exact ⟨rfl, rfl⟩
    · skip
      have h6 := nI_leF (a := i) (b := i) (by omega) (by omega) h6
      exact absurd h6 (by omega)
  | succ m ih =>
    intro i hi hb hx
    have mb := c_byteAt (G := G) hT (k := s + (i - b)) (by omega)
    have k26 : qx_K G qc_T 8 RX9 YX9_matches 26 [.ref 4, .int (nI s), .int (nI b), .int (nI e), .int (nI i)] [.int (nI (q_tx i)), .int (q_see T (s + (i - b)))] σ (qr (bI (q_mtw T s b e)) σ) := by
      by_cases z : q_see T (s + (i - b)) = nI (q_tx i)
      · have nx := ih (i + 1) (by omega) (by omega) (fun x hxx => by
          rcases Nat.lt_or_ge x (i - b) with y | y
          · exact hx x y
          · obtain rfl : x = i - b := by omega
            rw [z, show b + (i - b) = i by omega])
        refine qy_wp_ok (c := CX9_matches) (cuts := [3]) vX9_matches wX9_matches 2000 26 _ _ _ ?_
        refine And.intro (fun h26 => ?_) (fun h26 => ?_)
        · skip
          refine Exists.intro (nI (i + 1)) (And.intro (nI_add _ _) ?_)
          exact nx
        · skip
          exact absurd z h26
      · have ed : q_mtw T s b e = false := decide_eq_false (fun y => z (by
          have := y (i - b) (by omega)
          rw [show b + (i - b) = i by omega] at this
          exact this))
        rw [ed]
        refine qy_wp_ok (c := CX9_matches) (cuts := [3]) vX9_matches wX9_matches 2000 26 _ _ _ ?_
        refine And.intro (fun h26 => ?_) (fun h26 => ?_)
        · skip
          refine Exists.intro (nI (i + 1)) (And.intro (nI_add _ _) ?_)
          exact absurd h26 z
        · skip
          refine Exists.intro (nI 0) (And.intro rfl ?_)
          refine And.intro (Or.inl rfl) ?_
          exact ⟨rfl, rfl⟩
    refine qy_wp_ok (c := CX9_matches) (cuts := [23]) vX9_matches wX9_matches 2000 3 _ _ _ ?_
    refine And.intro (fun h6 => ?_) (fun h6 => ?_)
    · skip
      have h6 := nI_leT (a := e) (b := i) (by omega) (by omega) h6
      exact absurd h6 (by omega)
    · skip
      have h6 := nI_leF (a := e) (b := i) (by omega) (by omega) h6
      refine Exists.intro (nI (s + i)) (And.intro (nI_add _ _) ?_)
      refine Exists.intro (nI (s + (i - b))) (And.intro ((nI_sub (a := s + i) (b := b) (by omega)).trans (congrArg nI (by omega))) ?_)
      refine And.intro rfl (Exists.intro _ (And.intro (by decide) (qx_M_mono (mb) ?_)))
      rintro _ _ ⟨rfl, rfl⟩
      exact hG i _ _ _ _ (by omega) k26
theorem c_matches {G : qx_G} (hG : kCh2 G) {σ : qx_S} {T : q_T} (hT : tC σ T) {s b e : Nat} (hs : s ≤ 400) (hb : b ≤ e) (he : e ≤ 101) : qx_M G qc_T 8 YX9_matches [.ref 4, .int (nI s), .int (nI b), .int (nI e)] σ (qr (bI (q_mtw T s b e)) σ) := by
  refine qx_M_in rfl (Nat.le_of_ble_eq_true rfl) ?_
  refine qy_wp_ok (c := CX9_matches) (cuts := [3]) vX9_matches wX9_matches 2000 0 _ _ _ ?_
  exact l_matches hG hT hs he (e - b) b (by omega) (Nat.le_refl _) (fun x hx => absurd hx (by omega))
theorem l_cwE {G : qx_G} (hG : kStr G) {σ : qx_S} {T : q_T} {s n : Nat} {b w : Int32} (hn : n ≤ 400) (e5 : qx_mi σ 4 5 = nI n) : qx_K G qc_T 9 RX9 YX9_cutWord 40 [.ref 4, .int (nI s), .int (nI (q_le T s)), .int (nI (q_ks T s 21)), .int b, .int w, .int (nI 102)] [] σ (fun r s' => r = some (.int (nI (q_le T s))) ∧ ql kK σ s' ∧ q_kp σ s' n (nI (q_ks T s 21)) (nI s) (nI 0)) := by
  have k47 : qx_K G qc_T 9 RX9 YX9_cutWord 47 [.ref 4, .int (nI s), .int (nI (q_le T s)), .int (nI (q_ks T s 21)), .retAddr 0, .retAddr 0, .retAddr 0] [.int (nI 101), .int (nI 102)] σ (fun r s' => r = some (.int (nI (q_le T s))) ∧ ql kK σ s' ∧ q_kp σ s' n (nI (q_ks T s 21)) (nI s) (nI 0)) := by
    refine qy_wp_ok (c := CX9_cutWord) (cuts := []) vX9_cutWord wX9_cutWord 2000 47 _ _ _ ?_
    refine And.intro (fun h47 => ?_) (fun h47 => ?_)
    · skip
      refine Exists.intro (nI 0) (And.intro rfl ?_)
      refine And.intro rfl (Exists.intro _ (And.intro (by decide) (qx_M_mono (c_keep hn e5 (nI (q_ks T s 21)) (nI s) (nI 0)) ?_)))
      rintro _ σ1 ⟨rfl, fσ1, kσ1⟩
      exact ⟨rfl, fσ1, kσ1⟩
    · skip
      exact absurd (by decide) h47
  refine qy_wp_ok (c := CX9_cutWord) (cuts := [44]) vX9_cutWord wX9_cutWord 2000 40 _ _ _ ?_
  exact hG.1 44 _ _ _ _ (Or.inl rfl) (qx_K_le (ls := [.ref 4, .int (nI s), .int (nI (q_le T s)), .int (nI (q_ks T s 21)), .retAddr 0, .retAddr 0, .retAddr 0]) ⟨Or.inr rfl, Or.inr rfl, Or.inr rfl, Or.inr rfl, Or.inl rfl, Or.inl rfl, Or.inl rfl, trivial⟩ k47)
theorem l_cw {G : qx_G} (hG : kStr G) {σ : qx_S} {T : q_T} (hT : tC σ T) {s n : Nat} (hs : s ≤ T.1) (hn : n ≤ 400) (e5 : qx_mi σ 4 5 = nI n) : ∀ (m i : Nat), m + i = 101 →
    qx_K G qc_T 9 RX9 YX9_cutWord 40 [.ref 4, .int (nI s), .int (nI (q_le T s)), .int (nI (q_ks T s (q_bw2 i).2)), .int (nI (q_bw2 i).1), .int (nI (q_bw2 i).2), .int (nI i)] [] σ (fun r s' => r = some (.int (nI (q_le T s))) ∧ ql kK σ s' ∧ q_kp σ s' n (nI (q_ks T s 21)) (nI s) (nI 0)) := by
  have h4 := hT.2.1
  have hby : ∀ k, k < T.1 → T.2 k < 256 := fun k hk => (hT.2.2 k hk).2
  have hge : s ≤ q_le T s := q_rn_ge _ _ _
  have hle : q_le T s ≤ T.1 := q_rn_le _ hs
  intro m
  induction m with
  | zero =>
    intro i hi
    obtain rfl : i = 101 := by omega
    obtain ⟨t1, t2, t3, -, -⟩ := q_wtab 101 (by omega) (Or.inl rfl)
    have key := q_mt_w (T := T) (s := s) hby hs (i := 101) (by omega) (Or.inl rfl)
    have e20 := q_bw2_end
    have es := q_ks_s (T := T) (s := s) (n := (q_bw2 101).2) t3
    have fin : ∀ (b w : Int32) (kd : Nat), kd = q_ks T s 21 → qx_K G qc_T 9 RX9 YX9_cutWord 40 [.ref 4, .int (nI s), .int (nI (q_le T s)), .int (nI kd), .int b, .int w, .int (nI 102)] [] σ (fun r s' => r = some (.int (nI (q_le T s))) ∧ ql kK σ s' ∧ q_kp σ s' n (nI (q_ks T s 21)) (nI s) (nI 0)) := by
      intro b w kd e
      rw [e]
      exact l_cwE hG hn e5
    rw [show (q_bw2 101).2 + 1 = 21 by omega] at es
    have k57 : qx_K G qc_T 9 RX9 YX9_cutWord 57 [.ref 4, .int (nI s), .int (nI (q_le T s)), .int (nI (q_ks T s (q_bw2 101).2)), .int (nI (q_bw2 101).1), .int (nI (q_bw2 101).2), .int (nI 101)] [.int (nI 101), .int (nI 101)] σ (fun r s' => r = some (.int (nI (q_le T s))) ∧ ql kK σ s' ∧ q_kp σ s' n (nI (q_ks T s 21)) (nI s) (nI 0)) := by
      refine qy_wp_ok (c := CX9_cutWord) (cuts := [40]) vX9_cutWord wX9_cutWord 2000 57 _ _ _ ?_
      refine And.intro (fun h57 => ?_) (fun h57 => ?_)
      · skip
        refine Exists.intro (nI (101 - (q_bw2 101).1)) (And.intro (nI_sub (by omega)) ?_)
        refine Exists.intro (nI (q_wn T s)) (And.intro (nI_sub hge) ?_)
        refine And.intro (fun h80 => ?_) (fun h80 => ?_)
        · skip
          have h80 := nI_neT (a := 101 - (q_bw2 101).1) (b := q_wn T s) (by omega) (by unfold q_wn; omega) h80
          refine Exists.intro (nI 1) (And.intro rfl ?_)
          refine Exists.intro (nI 102) (And.intro rfl ?_)
          refine Exists.intro (nI ((q_bw2 101).2 + 1)) (And.intro (nI_add _ _) ?_)
          refine Exists.intro (nI 102) (And.intro rfl ?_)
          first | exact fin _ _ _ (by rw [es, if_pos (key.mp ⟨h80, h92⟩)]) | exact fin _ _ _ (by rw [es, if_neg (fun z => by rw [(key.mpr z).2] at h92; cases h92)]) | exact fin _ _ _ (by rw [es, if_neg (fun z => h80 (key.mpr z).1)])
        · skip
          have h80 := nI_eqT (a := 101 - (q_bw2 101).1) (b := q_wn T s) (by omega) (by unfold q_wn; omega) h80
          refine And.intro rfl (Exists.intro _ (And.intro (by decide) (qx_M_mono (c_matches hG.2.2 hT (by omega) (by omega) (by omega)) ?_)))
          rintro _ _ ⟨rfl, rfl⟩
          refine And.intro (fun h92 => ?_) (fun h92 => ?_)
          · skip
            have h92 := bI_f h92
            refine Exists.intro (nI 1) (And.intro rfl ?_)
            refine Exists.intro (nI 102) (And.intro rfl ?_)
            refine Exists.intro (nI ((q_bw2 101).2 + 1)) (And.intro (nI_add _ _) ?_)
            refine Exists.intro (nI 102) (And.intro rfl ?_)
            first | exact fin _ _ _ (by rw [es, if_pos (key.mp ⟨h80, h92⟩)]) | exact fin _ _ _ (by rw [es, if_neg (fun z => by rw [(key.mpr z).2] at h92; cases h92)]) | exact fin _ _ _ (by rw [es, if_neg (fun z => h80 (key.mpr z).1)])
          · skip
            have h92 := bI_t h92
            refine Exists.intro (nI 300) (And.intro rfl ?_)
            refine Exists.intro (nI (300 + ((q_bw2 101).2))) (And.intro (nI_add _ _) ?_)
            refine Exists.intro (nI 1) (And.intro rfl ?_)
            refine Exists.intro (nI 102) (And.intro rfl ?_)
            refine Exists.intro (nI ((q_bw2 101).2 + 1)) (And.intro (nI_add _ _) ?_)
            refine Exists.intro (nI 102) (And.intro rfl ?_)
            first | exact fin _ _ _ (by rw [es, if_pos (key.mp ⟨h80, h92⟩)]) | exact fin _ _ _ (by rw [es, if_neg (fun z => by rw [(key.mpr z).2] at h92; cases h92)]) | exact fin _ _ _ (by rw [es, if_neg (fun z => h80 (key.mpr z).1)])
      · skip
        exact absurd (by decide) h57
    have k47 : qx_K G qc_T 9 RX9 YX9_cutWord 47 [.ref 4, .int (nI s), .int (nI (q_le T s)), .int (nI (q_ks T s (q_bw2 101).2)), .int (nI (q_bw2 101).1), .int (nI (q_bw2 101).2), .int (nI 101)] [.int (nI 101), .int (nI 101)] σ (fun r s' => r = some (.int (nI (q_le T s))) ∧ ql kK σ s' ∧ q_kp σ s' n (nI (q_ks T s 21)) (nI s) (nI 0)) := by
      refine qy_wp_ok (c := CX9_cutWord) (cuts := [54]) vX9_cutWord wX9_cutWord 2000 47 _ _ _ ?_
      refine And.intro (fun h47 => ?_) (fun h47 => ?_)
      · skip
        exact absurd h47 (by decide)
      · skip
        exact hG.1 54 _ _ _ _ (Or.inr rfl) k57
    refine qy_wp_ok (c := CX9_cutWord) (cuts := [44]) vX9_cutWord wX9_cutWord 2000 40 _ _ _ ?_
    exact hG.1 44 _ _ _ _ (Or.inl rfl) k47
  | succ m ih =>
    intro i hi
    have nx := ih (i + 1) (by omega)
    obtain ⟨b1, b2⟩ := q_wtab2 i (by omega)
    have htx := q_tx_lt i (by omega)
    have k67 : qx_K G qc_T 9 RX9 YX9_cutWord 67 [.ref 4, .int (nI s), .int (nI (q_le T s)), .int (nI (q_ks T s (q_bw2 i).2)), .int (nI (q_bw2 i).1), .int (nI (q_bw2 i).2), .int (nI i)] [.int (nI (q_tx i))] σ (fun r s' => r = some (.int (nI (q_le T s))) ∧ ql kK σ s' ∧ q_kp σ s' n (nI (q_ks T s 21)) (nI s) (nI 0)) := by
      by_cases z : q_tx i = 32
      · obtain ⟨t1, t2, t3, -, -⟩ := q_wtab i (by omega) (Or.inr z)
        have key := q_mt_w (T := T) (s := s) hby hs (i := i) (by omega) (Or.inr z)
        have es := q_ks_s (T := T) (s := s) (n := (q_bw2 i).2) t3
        have eb : q_bw2 (i + 1) = (i + 1, (q_bw2 i).2 + 1) := if_pos z
        rw [eb] at nx
        have fin : ∀ (kd : Nat), kd = q_ks T s ((q_bw2 i).2 + 1) → qx_K G qc_T 9 RX9 YX9_cutWord 40 [.ref 4, .int (nI s), .int (nI (q_le T s)), .int (nI kd), .int (nI (i + 1)), .int (nI ((q_bw2 i).2 + 1)), .int (nI (i + 1))] [] σ (fun r s' => r = some (.int (nI (q_le T s))) ∧ ql kK σ s' ∧ q_kp σ s' n (nI (q_ks T s 21)) (nI s) (nI 0)) := by
          intro kd e
          rw [e]
          exact nx
        refine qy_wp_ok (c := CX9_cutWord) (cuts := [40]) vX9_cutWord wX9_cutWord 2000 67 _ _ _ ?_
        refine Exists.intro (nI 32) (And.intro rfl ?_)
        refine And.intro (fun h69 => ?_) (fun h69 => ?_)
        · skip
          have h69 := nI_neT (a := q_tx i) (b := 32) (by omega) (by decide) h69
          exact absurd z h69
        · skip
          have h69 := nI_eqT (a := q_tx i) (b := 32) (by omega) (by decide) h69
          refine Exists.intro (nI (i - (q_bw2 i).1)) (And.intro (nI_sub (by omega)) ?_)
          refine Exists.intro (nI (q_wn T s)) (And.intro (nI_sub hge) ?_)
          refine And.intro (fun h80 => ?_) (fun h80 => ?_)
          · skip
            have h80 := nI_neT (a := i - (q_bw2 i).1) (b := q_wn T s) (by omega) (by unfold q_wn; omega) h80
            refine Exists.intro (nI 1) (And.intro rfl ?_)
            refine Exists.intro (nI (i + 1)) (And.intro (nI_add _ _) ?_)
            refine Exists.intro (nI ((q_bw2 i).2 + 1)) (And.intro (nI_add _ _) ?_)
            refine Exists.intro (nI (i + 1)) (And.intro (nI_add _ _) ?_)
            first | exact fin _ (by rw [es, if_pos (key.mp ⟨h80, h92⟩)]) | exact fin _ (by rw [es, if_neg (fun z => by rw [(key.mpr z).2] at h92; cases h92)]) | exact fin _ (by rw [es, if_neg (fun z => h80 (key.mpr z).1)])
          · skip
            have h80 := nI_eqT (a := i - (q_bw2 i).1) (b := q_wn T s) (by omega) (by unfold q_wn; omega) h80
            refine And.intro rfl (Exists.intro _ (And.intro (by decide) (qx_M_mono (c_matches hG.2.2 hT (by omega) (by omega) (by omega)) ?_)))
            rintro _ _ ⟨rfl, rfl⟩
            refine And.intro (fun h92 => ?_) (fun h92 => ?_)
            · skip
              have h92 := bI_f h92
              refine Exists.intro (nI 1) (And.intro rfl ?_)
              refine Exists.intro (nI (i + 1)) (And.intro (nI_add _ _) ?_)
              refine Exists.intro (nI ((q_bw2 i).2 + 1)) (And.intro (nI_add _ _) ?_)
              refine Exists.intro (nI (i + 1)) (And.intro (nI_add _ _) ?_)
              first | exact fin _ (by rw [es, if_pos (key.mp ⟨h80, h92⟩)]) | exact fin _ (by rw [es, if_neg (fun z => by rw [(key.mpr z).2] at h92; cases h92)]) | exact fin _ (by rw [es, if_neg (fun z => h80 (key.mpr z).1)])
            · skip
              have h92 := bI_t h92
              refine Exists.intro (nI 300) (And.intro rfl ?_)
              refine Exists.intro (nI (300 + ((q_bw2 i).2))) (And.intro (nI_add _ _) ?_)
              refine Exists.intro (nI 1) (And.intro rfl ?_)
              refine Exists.intro (nI (i + 1)) (And.intro (nI_add _ _) ?_)
              refine Exists.intro (nI ((q_bw2 i).2 + 1)) (And.intro (nI_add _ _) ?_)
              refine Exists.intro (nI (i + 1)) (And.intro (nI_add _ _) ?_)
              first | exact fin _ (by rw [es, if_pos (key.mp ⟨h80, h92⟩)]) | exact fin _ (by rw [es, if_neg (fun z => by rw [(key.mpr z).2] at h92; cases h92)]) | exact fin _ (by rw [es, if_neg (fun z => h80 (key.mpr z).1)])
      · have eb : q_bw2 (i + 1) = q_bw2 i := if_neg z
        rw [eb] at nx
        refine qy_wp_ok (c := CX9_cutWord) (cuts := [40]) vX9_cutWord wX9_cutWord 2000 67 _ _ _ ?_
        refine Exists.intro (nI 32) (And.intro rfl ?_)
        refine And.intro (fun h69 => ?_) (fun h69 => ?_)
        · skip
          have h69 := nI_neT (a := q_tx i) (b := 32) (by omega) (by decide) h69
          refine Exists.intro (nI (i + 1)) (And.intro (nI_add _ _) ?_)
          exact nx
        · skip
          have h69 := nI_eqT (a := q_tx i) (b := 32) (by omega) (by decide) h69
          exact absurd h69 z
    have k57 : qx_K G qc_T 9 RX9 YX9_cutWord 57 [.ref 4, .int (nI s), .int (nI (q_le T s)), .int (nI (q_ks T s (q_bw2 i).2)), .int (nI (q_bw2 i).1), .int (nI (q_bw2 i).2), .int (nI i)] [.int (nI 101), .int (nI i)] σ (fun r s' => r = some (.int (nI (q_le T s))) ∧ ql kK σ s' ∧ q_kp σ s' n (nI (q_ks T s 21)) (nI s) (nI 0)) := by
      refine qy_wp_ok (c := CX9_cutWord) (cuts := [64, 72]) vX9_cutWord wX9_cutWord 2000 57 _ _ _ ?_
      refine And.intro (fun h57 => ?_) (fun h57 => ?_)
      · skip
        have h57 := nI_eqT (a := i) (b := 101) (by omega) (by decide) h57
        exact absurd h57 (by omega)
      · skip
        have h57 := nI_neT (a := i) (b := 101) (by omega) (by decide) h57
        exact hG.2.1 i _ _ _ (by omega) k67
    have k47 : qx_K G qc_T 9 RX9 YX9_cutWord 47 [.ref 4, .int (nI s), .int (nI (q_le T s)), .int (nI (q_ks T s (q_bw2 i).2)), .int (nI (q_bw2 i).1), .int (nI (q_bw2 i).2), .int (nI i)] [.int (nI 101), .int (nI i)] σ (fun r s' => r = some (.int (nI (q_le T s))) ∧ ql kK σ s' ∧ q_kp σ s' n (nI (q_ks T s 21)) (nI s) (nI 0)) := by
      refine qy_wp_ok (c := CX9_cutWord) (cuts := [54, 117]) vX9_cutWord wX9_cutWord 2000 47 _ _ _ ?_
      refine And.intro (fun h47 => ?_) (fun h47 => ?_)
      · skip
        have h47 := nI_ltT (a := 101) (b := i) (by decide) (by omega) h47
        exact absurd h47 (by omega)
      · skip
        have h47 := nI_ltF (a := 101) (b := i) (by decide) (by omega) h47
        exact hG.1 54 _ _ _ _ (Or.inr rfl) k57
    refine qy_wp_ok (c := CX9_cutWord) (cuts := [44]) vX9_cutWord wX9_cutWord 2000 40 _ _ _ ?_
    exact hG.1 44 _ _ _ _ (Or.inl rfl) k47
theorem l_cwL {G : qx_G} (hG : kStr G) {σ : qx_S} {T : q_T} (hT : tC σ T) {s n : Nat} (hs : s ≤ T.1) (hn : n ≤ 400) (e5 : qx_mi σ 4 5 = nI n) : ∀ (m k : Nat), m = T.1 - (s + k) → s + k ≤ T.1 → (∀ j, j < k → isL T (s + j) = true) →
    qx_K G qc_T 9 RX9 YX9_cutWord 2 [.ref 4, .int (nI s), .int (nI (s + k)), .retAddr 0, .retAddr 0, .retAddr 0, .retAddr 0] [] σ (fun r s' => r = some (.int (nI (q_le T s))) ∧ ql kK σ s' ∧ q_kp σ s' n (nI (q_ks T s 21)) (nI s) (nI 0)) := by
  have h4 := hT.2.1
  have hb : ∀ k, k < T.1 → T.2 k < 256 := fun k hk => (hT.2.2 k hk).2
  have t1 := hT.1
  intro m
  induction m using Nat.strongRecOn with
  | _ m ih =>
    intro k hm hk hl
    have mb2 := c_byteAt (G := G) hT (k := s + k) (by omega)
    cases hD : isL T (s + k) with
    | true =>
      have a := isL_lt hD
      have nx := ih (T.1 - (s + (k + 1))) (by omega) (k + 1) rfl (by omega) (fun j hj => by
        rcases Nat.lt_or_ge j k with z | z
        · exact hl j z
        · obtain rfl : j = k := by omega
          exact hD)
      refine qy_wp_ok (c := CX9_cutWord) (cuts := [2, 27]) vX9_cutWord wX9_cutWord 2000 2 _ _ _ ?_
      refine And.intro rfl (Exists.intro 4 (Exists.intro (nI T.1) (And.intro rfl (And.intro t1 ?_))))
      refine And.intro (fun h7 => ?_) (fun h7 => ?_)
      · skip
        have h7 := nI_leT (a := T.1) (b := s + k) (by omega) (by omega) h7
        exact absurd h7 (by omega)
      · skip
        have h7 := nI_leF (a := T.1) (b := s + k) (by omega) (by omega) h7
        refine And.intro rfl (Exists.intro _ (And.intro (by decide) (qx_M_mono (mb2) ?_)))
        rintro _ _ ⟨rfl, rfl⟩
        refine Exists.intro _ (And.intro (by decide) (qx_M_mono (c_isLetter hb (s + k)) ?_))
        rintro _ _ ⟨rfl, rfl⟩
        refine And.intro (fun h18 => ?_) (fun h18 => ?_)
        · skip
          have h18 := bI_f h18
          exact absurd (h18.symm.trans (hD)) (by decide)
        · skip
          have h18 := bI_t h18
          refine Exists.intro (nI (s + k + 1)) (And.intro (nI_add _ _) ?_)
          exact nx
    | false =>
      have g : s ≤ q_le T s := q_rn_ge (isL T) T.1 s
      have ew : q_le T s = s + k := by
        have h1 : s + k ≤ q_le T s := by
          rcases Nat.lt_or_ge (q_le T s) (s + k) with z | z
          · have y := hl (q_le T s - s) (by omega)
            rw [show s + (q_le T s - s) = q_le T s by omega, q_rn_end (isL_n T) hs] at y
            cases y
          · exact z
        have h2 : q_le T s ≤ s + k := by
          rcases Nat.lt_or_ge (s + k) (q_le T s) with z | z
          · rw [q_rn_in (f := isL T) (n := T.1) (i := s) (by omega) z] at hD
            cases hD
          · exact z
        omega
      have nx := l_cw hG hT hs hn e5 101 0 rfl
      rw [ew] at nx ⊢
      refine qy_wp_ok (c := CX9_cutWord) (cuts := [40]) vX9_cutWord wX9_cutWord 2000 2 _ _ _ ?_
      refine And.intro rfl (Exists.intro 4 (Exists.intro (nI T.1) (And.intro rfl (And.intro t1 ?_))))
      refine And.intro (fun h7 => ?_) (fun h7 => ?_)
      · skip
        have h7 := nI_leT (a := T.1) (b := s + k) (by omega) (by omega) h7
        refine Exists.intro (nI 260) (And.intro rfl ?_)
        refine Exists.intro (nI 0) (And.intro rfl ?_)
        refine Exists.intro (nI 0) (And.intro rfl ?_)
        refine Exists.intro (nI 0) (And.intro rfl ?_)
        exact nx
      · skip
        have h7 := nI_leF (a := T.1) (b := s + k) (by omega) (by omega) h7
        refine And.intro rfl (Exists.intro _ (And.intro (by decide) (qx_M_mono (mb2) ?_)))
        rintro _ _ ⟨rfl, rfl⟩
        refine Exists.intro _ (And.intro (by decide) (qx_M_mono (c_isLetter hb (s + k)) ?_))
        rintro _ _ ⟨rfl, rfl⟩
        refine And.intro (fun h18 => ?_) (fun h18 => ?_)
        · skip
          have h18 := bI_f h18
          refine Exists.intro (nI 260) (And.intro rfl ?_)
          refine Exists.intro (nI 0) (And.intro rfl ?_)
          refine Exists.intro (nI 0) (And.intro rfl ?_)
          refine Exists.intro (nI 0) (And.intro rfl ?_)
          exact nx
        · skip
          have h18 := bI_t h18
          exact absurd (h18.symm.trans (hD)) (by decide)
theorem c_cutWord {G : qx_G} (hG : kStr G) {σ : qx_S} {T : q_T} (hT : tC σ T) {s n : Nat} (hs : s ≤ T.1) (hn : n ≤ 400) (e5 : qx_mi σ 4 5 = nI n) : qx_M G qc_T 9 YX9_cutWord [.ref 4, .int (nI s)] σ (fun r s' => r = some (.int (nI (q_le T s))) ∧ ql kK σ s' ∧ q_kp σ s' n (nI (q_ks T s 21)) (nI s) (nI 0)) := by
  refine qx_M_in rfl (Nat.le_of_ble_eq_true rfl) ?_
  refine qy_wp_ok (c := CX9_cutWord) (cuts := [2]) vX9_cutWord wX9_cutWord 2000 0 _ _ _ ?_
  exact l_cwL hG hT hs hn e5 _ 0 rfl (by omega) (fun j hj => absurd hj (by omega))
theorem kI_lt {k : Nat} (h : k < 999) : kI k = nI k := if_neg (by omega)
/-- where the j-th piece begins -/
def q_tkn (T : q_T) : Nat → Nat
  | 0 => q_sk T 0
  | j + 1 => q_nx T (q_tkn T j)
/-- a piece's number -/
def q_tn (T : q_T) (p : Nat) : Nat := if q_kd T p = 256 ∨ q_kd T p = 257 then q_nu T p else 0
/-- n pieces are kept -/
def mTk (σ : qx_S) (T : q_T) (n : Nat) : Prop := qx_mi σ 4 5 = nI n ∧ n ≤ 401 ∧ ∀ j, j < n → qx_mi σ 6 j = kI (q_kd T (q_tkn T j)) ∧ qx_mi σ 7 j = nI (q_tkn T j) ∧ qx_mi σ 8 j = nI (q_tn T (q_tkn T j))
theorem mTk.add {σ s : qx_S} {T : q_T} {n : Nat} {k p v : Int32} (h : mTk σ T n) (hn : n ≤ 400) (w : q_kp σ s n k p v) (ek : k = kI (q_kd T (q_tkn T n))) (ep : p = nI (q_tkn T n)) (ev : v = nI (q_tn T (q_tkn T n))) : mTk s T (n + 1) := by
  obtain ⟨w1, w2, w3, w4⟩ := w
  refine ⟨w1, by omega, fun j hj => ?_⟩
  rw [w2, w3, w4]
  by_cases z : j = n
  · rw [z, va_up_self, va_up_self, va_up_self]
    exact ⟨ek, ep, ev⟩
  · rw [va_up_ne _ _ z, va_up_ne _ _ z, va_up_ne _ _ z]
    exact h.2.2 j (by omega)
theorem q_tn_L {T : q_T} {p : Nat} (h : isD T p = false) (hb : ∀ k, k < T.1 → T.2 k < 256) : q_tn T p = 0 := by
  have := q_kd_nD hb h
  exact if_neg (by omega)
theorem q_tn_D {T : q_T} {p : Nat} (h : isD T p = true) : q_tn T p = q_nu T p := by
  refine if_pos ?_
  rw [q_kd_D h]
  split <;> omega
abbrev kCt : List (Nat × Option Nat) := [(4, some 5), (6, none), (7, none), (8, none), (4, some 6), (4, some 7)]
/-- behind cut -/
def rCut (σ0 s : qx_S) (T : q_T) : Prop := ∃ n, 0 < n ∧ mTk s T n ∧ q_tkn T (n - 1) = T.1 ∧ (∀ j, j + 1 < n → q_tkn T j < T.1) ∧ qx_mi s 4 6 = nI 0 ∧ qx_mi s 4 7 = nI 0 ∧ ql kCt σ0 s
theorem l_cut {G : qx_G} (hG : kStr G) {σ0 : qx_S} {T : q_T} (hT0 : tC σ0 T) : ∀ (m a i n : Nat) (σ : qx_S), m = T.1 - a → a ≤ T.1 → i ≤ a → n ≤ a → mTk σ T n → q_sk T a = q_tkn T n → (∀ j, j < n → q_tkn T j < T.1) → qx_mi σ 4 6 = nI 0 → qx_mi σ 4 7 = nI 0 → ql kCt σ0 σ →
    qx_K G qc_T 10 RX9 YX9_cut 19 [.ref 4, .int (nI a), .int (nI i), .retAddr 0] [] σ (fun r s => r = none ∧ rCut σ0 s T) := by
  have h4 := hT0.2.1
  have hb : ∀ k, k < T.1 → T.2 k < 256 := fun k hk => (hT0.2.2 k hk).2
  intro m
  induction m using Nat.strongRecOn with
  | _ m ih =>
    intro a i n σ hm ha hi hn hk hsk hall e6 e7 hf
    have hT := hT0.fr hf rfl (fun _ => rfl)
    have t1 := hT.1
    have e5 := hk.1
    rcases Nat.lt_or_ge a T.1 with hlt | hge
    · have mb := c_byteAt (G := G) hT (k := a) (by omega)
      have es : q_see T a = nI (T.2 a) := if_pos hlt
      have bb := hb a hlt
      have e5' : qx_mi σ 4 5 = nI n := e5
      -- a piece was kept: the rest
      have nx : ∀ (a' : Nat) (s' : qx_S), a < a' → a' ≤ T.1 → q_te T a = a' → q_sk T a = a → mTk s' T (n + 1) → ql kK σ s' → qx_K G qc_T 10 RX9 YX9_cut 19 [.ref 4, .int (nI a'), .int (nI (i + 1)), .retAddr 0] [] s' (fun r s => r = none ∧ rCut σ0 s T) := by
        intro a' s' h1 h2 h3 h5 h6 f
        have ea : q_tkn T n = a := hsk.symm.trans h5
        refine ih (T.1 - a') (by omega) a' (i + 1) (n + 1) s' rfl h2 (by omega) (by omega) h6 ?_ (fun j hj => ?_) ((f.i _ _ rfl).trans e6) ((f.i _ _ rfl).trans e7) (hf.tr (f.mn (by decide)))
        · show q_sk T a' = q_sk T (q_te T (q_tkn T n))
          rw [ea, h3]
        · rcases Nat.lt_or_ge j n with z | z
          · exact hall j z
          · obtain rfl : j = n := by omega
            rw [ea]
            exact hlt
      cases hL : isL T a with
      | true =>
        have hska : q_sk T a = a := q_rn_f (decide_eq_false (fun z => by have := isL_lt hL; omega))
        have ea : q_tkn T n = a := hsk.symm.trans hska
        have mw := c_cutWord hG hT (s := a) ha (show n ≤ 400 by omega) e5
        have fin : ∀ s', q_kp σ s' n (nI (q_ks T a 21)) (nI a) (nI 0) → mTk s' T (n + 1) := by
          intro s' w
          refine hk.add (by omega) w ?_ (by rw [ea]) ?_
          · rw [ea, q_kd_L hL, q_ks_21]
            exact (kI_lt (by split <;> omega)).symm
          · rw [ea, q_tn_L (isLD hL) hb]
        refine qy_wp_ok (c := CX9_cut) (cuts := [19]) vX9_cut wX9_cut 2000 19 _ _ _ ?_
        refine Exists.intro (nI 400) (And.intro rfl ?_)
        refine And.intro (fun h23 => ?_) (fun h23 => ?_)
        · skip
          have h23 := nI_leT (a := 400) (b := i) (by decide) (by omega) h23
          exact absurd h23 (by omega)
        · skip
          have h23 := nI_leF (a := 400) (b := i) (by decide) (by omega) h23
          refine And.intro rfl (Exists.intro 4 (Exists.intro (nI T.1) (And.intro rfl (And.intro t1 ?_))))
          refine And.intro (fun h31 => ?_) (fun h31 => ?_)
          · skip
            have h31 := nI_leT (a := T.1) (b := a) (by omega) (by omega) h31
            exact absurd h31 (by omega)
          · skip
            have h31 := nI_leF (a := T.1) (b := a) (by omega) (by omega) h31
            refine And.intro rfl (Exists.intro _ (And.intro (by decide) (qx_M_mono (mb) ?_)))
            rintro _ _ ⟨rfl, rfl⟩
            refine Exists.intro _ (And.intro (by decide) (qx_M_mono (c_isLetter hb a) ?_))
            rintro _ _ ⟨rfl, rfl⟩
            refine And.intro (fun h44 => ?_) (fun h44 => ?_)
            · skip
              have h44 := bI_f h44
              exact absurd (h44.symm.trans (hL)) (by decide)
            · skip
              have h44 := bI_t h44
              refine And.intro rfl (Exists.intro _ (And.intro (by decide) (qx_M_mono (mw) ?_)))
              rintro _ σ1 ⟨rfl, fσ1, kσ1⟩
              refine Exists.intro (nI (i + 1)) (And.intro (nI_add _ _) ?_)
              refine qx_K_le (ls := [.ref 4, .int (nI (q_le T a)), .int (nI (i + 1)), .retAddr 0]) ⟨Or.inr rfl, Or.inr rfl, Or.inr rfl, Or.inl rfl, trivial⟩ ?_
              exact nx _ _ (q_le_gt hL) (q_rn_le _ ha) (q_te_L hL) hska (fin _ kσ1) fσ1
      | false =>
        cases hD : isD T a with
        | true =>
          have hska : q_sk T a = a := q_rn_f (decide_eq_false (fun z => by have := isD_lt hD; omega))
          have ea : q_tkn T n = a := hsk.symm.trans hska
          have mw := c_cutNumber (G := G) hT (s := a) ha (show n ≤ 400 by omega) e5
          have fin : ∀ s', q_kp σ s' n (nI (if q_de T a - a ≤ 5 then 256 else 257)) (nI a) (nI (q_nu T a)) → mTk s' T (n + 1) := by
            intro s' w
            refine hk.add (by omega) w ?_ (by rw [ea]) ?_
            · rw [ea, q_kd_D hD]
              exact (kI_lt (by split <;> omega)).symm
            · rw [ea, q_tn_D hD]
          refine qy_wp_ok (c := CX9_cut) (cuts := [19]) vX9_cut wX9_cut 2000 19 _ _ _ ?_
          refine Exists.intro (nI 400) (And.intro rfl ?_)
          refine And.intro (fun h23 => ?_) (fun h23 => ?_)
          · skip
            have h23 := nI_leT (a := 400) (b := i) (by decide) (by omega) h23
            exact absurd h23 (by omega)
          · skip
            have h23 := nI_leF (a := 400) (b := i) (by decide) (by omega) h23
            refine And.intro rfl (Exists.intro 4 (Exists.intro (nI T.1) (And.intro rfl (And.intro t1 ?_))))
            refine And.intro (fun h31 => ?_) (fun h31 => ?_)
            · skip
              have h31 := nI_leT (a := T.1) (b := a) (by omega) (by omega) h31
              exact absurd h31 (by omega)
            · skip
              have h31 := nI_leF (a := T.1) (b := a) (by omega) (by omega) h31
              refine And.intro rfl (Exists.intro _ (And.intro (by decide) (qx_M_mono (mb) ?_)))
              rintro _ _ ⟨rfl, rfl⟩
              refine Exists.intro _ (And.intro (by decide) (qx_M_mono (c_isLetter hb a) ?_))
              rintro _ _ ⟨rfl, rfl⟩
              refine And.intro (fun h44 => ?_) (fun h44 => ?_)
              · skip
                have h44 := bI_f h44
                refine Exists.intro _ (And.intro (by decide) (qx_M_mono (c_isDigit hb a) ?_))
                rintro _ _ ⟨rfl, rfl⟩
                refine And.intro (fun h60 => ?_) (fun h60 => ?_)
                · skip
                  have h60 := bI_f h60
                  exact absurd (h60.symm.trans (hD)) (by decide)
                · skip
                  have h60 := bI_t h60
                  refine And.intro rfl (Exists.intro _ (And.intro (by decide) (qx_M_mono (mw) ?_)))
                  rintro _ σ1 ⟨rfl, fσ1, kσ1⟩
                  refine Exists.intro (nI (i + 1)) (And.intro (nI_add _ _) ?_)
                  refine qx_K_le (ls := [.ref 4, .int (nI (q_de T a)), .int (nI (i + 1)), .retAddr 0]) ⟨Or.inr rfl, Or.inr rfl, Or.inr rfl, Or.inl rfl, trivial⟩ ?_
                  exact nx _ _ (q_de_gt hD) (q_rn_le _ ha) (q_te_D hD) hska (fin _ kσ1) fσ1
              · skip
                have h44 := bI_t h44
                exact absurd (h44.symm.trans (hL)) (by decide)
        | false =>
          obtain ⟨ekd, ete⟩ := q_kd_S hlt hL hD
          rw [es] at mb
          have il : qx_M G qc_T 0 YX9_isLetter [.int (nI (T.2 a))] σ (qr (bI (isL T a)) σ) := by
            have := c_isLetter (G := G) (σ := σ) hb a
            rw [es] at this
            exact this
          have id : qx_M G qc_T 0 YX9_isDigit [.int (nI (T.2 a))] σ (qr (bI (isD T a)) σ) := by
            have := c_isDigit (G := G) (σ := σ) hb a
            rw [es] at this
            exact this
          cases h2 : q_two2 T a with
          | true =>
            obtain ⟨y1, y2, y3⟩ := of_decide_eq_true h2
            rw [if_pos h2] at ekd ete
            have hska : q_sk T a = a := q_rn_f (decide_eq_false (fun z => by omega))
            have ea : q_tkn T n = a := hsk.symm.trans hska
            have mb1 := c_byteAt (G := G) hT (k := a + 1) (by omega)
            rw [show q_see T (a + 1) = nI 61 by unfold q_see; rw [if_pos y2, y3]] at mb1
            have fin : ∀ s' k, k = q_kd T a → q_kp σ s' n (nI k) (nI a) (nI 0) → mTk s' T (n + 1) := by
              intro s' k e w
              refine hk.add (by omega) w ?_ (by rw [ea]) (by rw [ea, q_tn_L hD hb])
              rw [ea, e, ekd]
              exact (kI_lt (by split <;> omega)).symm
            rcases y1 with y1 | y1
            · rw [if_pos y1] at ekd
              rw [y1] at mb il id
              refine qy_wp_ok (c := CX9_cut) (cuts := [19]) vX9_cut wX9_cut 2000 19 _ _ _ ?_
              refine Exists.intro (nI 400) (And.intro rfl ?_)
              refine And.intro (fun h23 => ?_) (fun h23 => ?_)
              · skip
                have h23 := nI_leT (a := 400) (b := i) (by decide) (by omega) h23
                exact absurd h23 (by omega)
              · skip
                have h23 := nI_leF (a := 400) (b := i) (by decide) (by omega) h23
                refine And.intro rfl (Exists.intro 4 (Exists.intro (nI T.1) (And.intro rfl (And.intro t1 ?_))))
                refine And.intro (fun h31 => ?_) (fun h31 => ?_)
                · skip
                  have h31 := nI_leT (a := T.1) (b := a) (by omega) (by omega) h31
                  exact absurd h31 (by omega)
                · skip
                  have h31 := nI_leF (a := T.1) (b := a) (by omega) (by omega) h31
                  refine And.intro rfl (Exists.intro _ (And.intro (by decide) (qx_M_mono (mb) ?_)))
                  rintro _ _ ⟨rfl, rfl⟩
                  refine Exists.intro _ (And.intro (by decide) (qx_M_mono (il) ?_))
                  rintro _ _ ⟨rfl, rfl⟩
                  refine And.intro (fun h44 => ?_) (fun h44 => ?_)
                  · skip
                    have h44 := bI_f h44
                    refine Exists.intro _ (And.intro (by decide) (qx_M_mono (id) ?_))
                    rintro _ _ ⟨rfl, rfl⟩
                    refine And.intro (fun h60 => ?_) (fun h60 => ?_)
                    · skip
                      have h60 := bI_f h60
                      refine Exists.intro (nI 60) (And.intro rfl ?_)
                      refine And.intro (fun h75 => ?_) (fun h75 => ?_)
                      · skip
                        refine Exists.intro (nI 1) (And.intro rfl ?_)
                        refine Exists.intro (nI (a + 1)) (And.intro (nI_add _ _) ?_)
                        refine And.intro rfl (Exists.intro _ (And.intro (by decide) (qx_M_mono (mb1) ?_)))
                        rintro _ _ ⟨rfl, rfl⟩
                        refine Exists.intro (nI 61) (And.intro rfl ?_)
                        refine And.intro (fun h93 => ?_) (fun h93 => ?_)
                        · skip
                          exact absurd (by decide) h93
                        · skip
                          refine Exists.intro (nI 60) (And.intro rfl ?_)
                          refine And.intro (fun h100 => ?_) (fun h100 => ?_)
                          · skip
                            exact absurd (by decide) h100
                          · skip
                            refine Exists.intro (nI 258) (And.intro rfl ?_)
                            refine Exists.intro (nI 0) (And.intro rfl ?_)
                            refine And.intro rfl (Exists.intro _ (And.intro (by decide) (qx_M_mono (c_keep (by omega) e5' (nI 258) (nI a) (nI 0)) ?_)))
                            rintro _ σ1 ⟨rfl, fσ1, kσ1⟩
                            refine Exists.intro (nI (a + 2)) (And.intro (nI_add _ _) ?_)
                            refine Exists.intro (nI (i + 1)) (And.intro (nI_add _ _) ?_)
                            refine qx_K_le (ls := [.ref 4, .int (nI (a + 2)), .int (nI (i + 1)), .retAddr 0]) ⟨Or.inr rfl, Or.inr rfl, Or.inr rfl, Or.inl rfl, trivial⟩ ?_
                            exact nx _ _ (by omega) (by omega) ete hska (fin _ 258 ekd.symm kσ1) fσ1
                      · skip
                        exact absurd (by decide) h75
                    · skip
                      have h60 := bI_t h60
                      exact absurd (h60.symm.trans (hD)) (by decide)
                  · skip
                    have h44 := bI_t h44
                    exact absurd (h44.symm.trans (hL)) (by decide)
            · rw [if_neg (by omega)] at ekd
              rw [y1] at mb il id
              refine qy_wp_ok (c := CX9_cut) (cuts := [19]) vX9_cut wX9_cut 2000 19 _ _ _ ?_
              refine Exists.intro (nI 400) (And.intro rfl ?_)
              refine And.intro (fun h23 => ?_) (fun h23 => ?_)
              · skip
                have h23 := nI_leT (a := 400) (b := i) (by decide) (by omega) h23
                exact absurd h23 (by omega)
              · skip
                have h23 := nI_leF (a := 400) (b := i) (by decide) (by omega) h23
                refine And.intro rfl (Exists.intro 4 (Exists.intro (nI T.1) (And.intro rfl (And.intro t1 ?_))))
                refine And.intro (fun h31 => ?_) (fun h31 => ?_)
                · skip
                  have h31 := nI_leT (a := T.1) (b := a) (by omega) (by omega) h31
                  exact absurd h31 (by omega)
                · skip
                  have h31 := nI_leF (a := T.1) (b := a) (by omega) (by omega) h31
                  refine And.intro rfl (Exists.intro _ (And.intro (by decide) (qx_M_mono (mb) ?_)))
                  rintro _ _ ⟨rfl, rfl⟩
                  refine Exists.intro _ (And.intro (by decide) (qx_M_mono (il) ?_))
                  rintro _ _ ⟨rfl, rfl⟩
                  refine And.intro (fun h44 => ?_) (fun h44 => ?_)
                  · skip
                    have h44 := bI_f h44
                    refine Exists.intro _ (And.intro (by decide) (qx_M_mono (id) ?_))
                    rintro _ _ ⟨rfl, rfl⟩
                    refine And.intro (fun h60 => ?_) (fun h60 => ?_)
                    · skip
                      have h60 := bI_f h60
                      refine Exists.intro (nI 60) (And.intro rfl ?_)
                      refine And.intro (fun h75 => ?_) (fun h75 => ?_)
                      · skip
                        exact absurd h75 (by decide)
                      · skip
                        refine Exists.intro (nI 62) (And.intro rfl ?_)
                        refine And.intro (fun h81 => ?_) (fun h81 => ?_)
                        · skip
                          exact absurd (by decide) h81
                        · skip
                          refine Exists.intro (nI 1) (And.intro rfl ?_)
                          refine Exists.intro (nI (a + 1)) (And.intro (nI_add _ _) ?_)
                          refine And.intro rfl (Exists.intro _ (And.intro (by decide) (qx_M_mono (mb1) ?_)))
                          rintro _ _ ⟨rfl, rfl⟩
                          refine Exists.intro (nI 61) (And.intro rfl ?_)
                          refine And.intro (fun h93 => ?_) (fun h93 => ?_)
                          · skip
                            exact absurd (by decide) h93
                          · skip
                            refine Exists.intro (nI 60) (And.intro rfl ?_)
                            refine And.intro (fun h100 => ?_) (fun h100 => ?_)
                            · skip
                              refine Exists.intro (nI 259) (And.intro rfl ?_)
                              refine Exists.intro (nI 0) (And.intro rfl ?_)
                              refine And.intro rfl (Exists.intro _ (And.intro (by decide) (qx_M_mono (c_keep (by omega) e5' (nI 259) (nI a) (nI 0)) ?_)))
                              rintro _ σ1 ⟨rfl, fσ1, kσ1⟩
                              refine Exists.intro (nI (a + 2)) (And.intro (nI_add _ _) ?_)
                              refine Exists.intro (nI (i + 1)) (And.intro (nI_add _ _) ?_)
                              refine qx_K_le (ls := [.ref 4, .int (nI (a + 2)), .int (nI (i + 1)), .retAddr 0]) ⟨Or.inr rfl, Or.inr rfl, Or.inr rfl, Or.inl rfl, trivial⟩ ?_
                              exact nx _ _ (by omega) (by omega) ete hska (fin _ 259 ekd.symm kσ1) fσ1
                            · skip
                              exact absurd h100 (by decide)
                    · skip
                      have h60 := bI_t h60
                      exact absurd (h60.symm.trans (hD)) (by decide)
                  · skip
                    have h44 := bI_t h44
                    exact absurd (h44.symm.trans (hL)) (by decide)
          | false =>
            have n2 : ¬ q_two2 T a = true := by rw [h2]; decide
            rw [if_neg n2] at ekd ete
            have mb1 := c_byteAt (G := G) hT (k := a + 1) (by omega)
            have no1 : (T.2 a = 60 ∨ T.2 a = 62) → q_see T (a + 1) ≠ nI 61 := by
              intro y z
              refine n2 (decide_eq_true ⟨y, ?_⟩)
              unfold q_see at z
              split at z
              · next w =>
                have := hb _ w
                rw [nI_eq (by omega) (by decide)] at z
                exact ⟨w, z⟩
              · exact absurd z (by decide)
            by_cases h32 : T.2 a = 32
            · have hB : isB T a = true := decide_eq_true ⟨hlt, h32⟩
              have nx2 := fun s' (f : ql [] σ s') => ih (T.1 - (a + 1)) (by omega) (a + 1) (i + 1) n σ rfl hlt (by omega) (by omega) hk ((q_rn_t hlt hB).symm.trans hsk) hall e6 e7 hf
              rw [h32] at mb il id
              refine qy_wp_ok (c := CX9_cut) (cuts := [19]) vX9_cut wX9_cut 2000 19 _ _ _ ?_
              refine Exists.intro (nI 400) (And.intro rfl ?_)
              refine And.intro (fun h23 => ?_) (fun h23 => ?_)
              · skip
                have h23 := nI_leT (a := 400) (b := i) (by decide) (by omega) h23
                exact absurd h23 (by omega)
              · skip
                have h23 := nI_leF (a := 400) (b := i) (by decide) (by omega) h23
                refine And.intro rfl (Exists.intro 4 (Exists.intro (nI T.1) (And.intro rfl (And.intro t1 ?_))))
                refine And.intro (fun h31 => ?_) (fun h31 => ?_)
                · skip
                  have h31 := nI_leT (a := T.1) (b := a) (by omega) (by omega) h31
                  exact absurd h31 (by omega)
                · skip
                  have h31 := nI_leF (a := T.1) (b := a) (by omega) (by omega) h31
                  refine And.intro rfl (Exists.intro _ (And.intro (by decide) (qx_M_mono (mb) ?_)))
                  rintro _ _ ⟨rfl, rfl⟩
                  refine Exists.intro _ (And.intro (by decide) (qx_M_mono (il) ?_))
                  rintro _ _ ⟨rfl, rfl⟩
                  refine And.intro (fun h44 => ?_) (fun h44 => ?_)
                  · skip
                    have h44 := bI_f h44
                    refine Exists.intro _ (And.intro (by decide) (qx_M_mono (id) ?_))
                    rintro _ _ ⟨rfl, rfl⟩
                    refine And.intro (fun h60 => ?_) (fun h60 => ?_)
                    · skip
                      have h60 := bI_f h60
                      refine Exists.intro (nI 60) (And.intro rfl ?_)
                      refine And.intro (fun h75 => ?_) (fun h75 => ?_)
                      · skip
                        exact absurd h75 (by decide)
                      · skip
                        refine Exists.intro (nI 62) (And.intro rfl ?_)
                        refine And.intro (fun h81 => ?_) (fun h81 => ?_)
                        · skip
                          refine Exists.intro (nI 32) (And.intro rfl ?_)
                          refine And.intro (fun h126 => ?_) (fun h126 => ?_)
                          · skip
                            refine Exists.intro (nI (a + 1)) (And.intro (nI_add _ _) ?_)
                            refine Exists.intro (nI (i + 1)) (And.intro (nI_add _ _) ?_)
                            refine qx_K_le (ls := [.ref 4, .int (nI (a + 1)), .int (nI (i + 1)), .retAddr 0]) ⟨Or.inr rfl, Or.inr rfl, Or.inr rfl, Or.inl rfl, trivial⟩ ?_
                            exact nx2 σ qf.rf
                          · skip
                            exact absurd (by decide) h126
                        · skip
                          exact absurd h81 (by decide)
                    · skip
                      have h60 := bI_t h60
                      exact absurd (h60.symm.trans (hD)) (by decide)
                  · skip
                    have h44 := bI_t h44
                    exact absurd (h44.symm.trans (hL)) (by decide)
            · have hska : q_sk T a = a := q_rn_f (decide_eq_false (fun z => h32 z.2))
              have ea : q_tkn T n = a := hsk.symm.trans hska
              have fin : ∀ s', q_kp σ s' n (nI (T.2 a)) (nI a) (nI 0) → mTk s' T (n + 1) := by
                intro s' w
                refine hk.add (by omega) w ?_ (by rw [ea]) (by rw [ea, q_tn_L hD hb])
                rw [ea, ekd]
                exact (kI_lt (by omega)).symm
              refine qy_wp_ok (c := CX9_cut) (cuts := [19]) vX9_cut wX9_cut 2000 19 _ _ _ ?_
              refine Exists.intro (nI 400) (And.intro rfl ?_)
              refine And.intro (fun h23 => ?_) (fun h23 => ?_)
              · skip
                have h23 := nI_leT (a := 400) (b := i) (by decide) (by omega) h23
                exact absurd h23 (by omega)
              · skip
                have h23 := nI_leF (a := 400) (b := i) (by decide) (by omega) h23
                refine And.intro rfl (Exists.intro 4 (Exists.intro (nI T.1) (And.intro rfl (And.intro t1 ?_))))
                refine And.intro (fun h31 => ?_) (fun h31 => ?_)
                · skip
                  have h31 := nI_leT (a := T.1) (b := a) (by omega) (by omega) h31
                  exact absurd h31 (by omega)
                · skip
                  have h31 := nI_leF (a := T.1) (b := a) (by omega) (by omega) h31
                  refine And.intro rfl (Exists.intro _ (And.intro (by decide) (qx_M_mono (mb) ?_)))
                  rintro _ _ ⟨rfl, rfl⟩
                  refine Exists.intro _ (And.intro (by decide) (qx_M_mono (il) ?_))
                  rintro _ _ ⟨rfl, rfl⟩
                  refine And.intro (fun h44 => ?_) (fun h44 => ?_)
                  · skip
                    have h44 := bI_f h44
                    refine Exists.intro _ (And.intro (by decide) (qx_M_mono (id) ?_))
                    rintro _ _ ⟨rfl, rfl⟩
                    refine And.intro (fun h60 => ?_) (fun h60 => ?_)
                    · skip
                      have h60 := bI_f h60
                      refine Exists.intro (nI 60) (And.intro rfl ?_)
                      refine And.intro (fun h75 => ?_) (fun h75 => ?_)
                      · skip
                        have h75 := nI_eqT (a := T.2 a) (b := 60) (by omega) (by decide) h75
                        refine Exists.intro (nI 1) (And.intro rfl ?_)
                        refine Exists.intro (nI (a + 1)) (And.intro (nI_add _ _) ?_)
                        refine And.intro rfl (Exists.intro _ (And.intro (by decide) (qx_M_mono (mb1) ?_)))
                        rintro _ _ ⟨rfl, rfl⟩
                        refine Exists.intro (nI 61) (And.intro rfl ?_)
                        refine And.intro (fun h93 => ?_) (fun h93 => ?_)
                        · skip
                          refine Exists.intro (nI 32) (And.intro rfl ?_)
                          refine And.intro (fun h126 => ?_) (fun h126 => ?_)
                          · skip
                            have h126 := nI_eqT (a := T.2 a) (b := 32) (by omega) (by decide) h126
                            exact absurd (by first | exact h126 | exact h126_1) h32
                          · skip
                            have h126 := nI_neT (a := T.2 a) (b := 32) (by omega) (by decide) h126
                            refine Exists.intro (nI 0) (And.intro rfl ?_)
                            refine And.intro rfl (Exists.intro _ (And.intro (by decide) (qx_M_mono (c_keep (by omega) e5' (nI (T.2 a)) (nI a) (nI 0)) ?_)))
                            rintro _ σ1 ⟨rfl, fσ1, kσ1⟩
                            refine Exists.intro (nI (a + 1)) (And.intro (nI_add _ _) ?_)
                            refine Exists.intro (nI (i + 1)) (And.intro (nI_add _ _) ?_)
                            refine qx_K_le (ls := [.ref 4, .int (nI (a + 1)), .int (nI (i + 1)), .retAddr 0]) ⟨Or.inr rfl, Or.inr rfl, Or.inr rfl, Or.inl rfl, trivial⟩ ?_
                            exact nx _ _ (by omega) (by omega) ete hska (fin _ kσ1) fσ1
                        · skip
                          first | exact absurd h93 (no1 (Or.inl h75)) | exact absurd h93 (no1 (Or.inr h81))
                      · skip
                        have h75 := nI_neT (a := T.2 a) (b := 60) (by omega) (by decide) h75
                        refine Exists.intro (nI 62) (And.intro rfl ?_)
                        refine And.intro (fun h81 => ?_) (fun h81 => ?_)
                        · skip
                          have h81 := nI_neT (a := T.2 a) (b := 62) (by omega) (by decide) h81
                          refine Exists.intro (nI 32) (And.intro rfl ?_)
                          refine And.intro (fun h126 => ?_) (fun h126 => ?_)
                          · skip
                            have h126 := nI_eqT (a := T.2 a) (b := 32) (by omega) (by decide) h126
                            exact absurd (by first | exact h126 | exact h126_1) h32
                          · skip
                            have h126 := nI_neT (a := T.2 a) (b := 32) (by omega) (by decide) h126
                            refine Exists.intro (nI 0) (And.intro rfl ?_)
                            refine And.intro rfl (Exists.intro _ (And.intro (by decide) (qx_M_mono (c_keep (by omega) e5' (nI (T.2 a)) (nI a) (nI 0)) ?_)))
                            rintro _ σ1 ⟨rfl, fσ1, kσ1⟩
                            refine Exists.intro (nI (a + 1)) (And.intro (nI_add _ _) ?_)
                            refine Exists.intro (nI (i + 1)) (And.intro (nI_add _ _) ?_)
                            refine qx_K_le (ls := [.ref 4, .int (nI (a + 1)), .int (nI (i + 1)), .retAddr 0]) ⟨Or.inr rfl, Or.inr rfl, Or.inr rfl, Or.inl rfl, trivial⟩ ?_
                            exact nx _ _ (by omega) (by omega) ete hska (fin _ kσ1) fσ1
                        · skip
                          have h81 := nI_eqT (a := T.2 a) (b := 62) (by omega) (by decide) h81
                          refine Exists.intro (nI 1) (And.intro rfl ?_)
                          refine Exists.intro (nI (a + 1)) (And.intro (nI_add _ _) ?_)
                          refine And.intro rfl (Exists.intro _ (And.intro (by decide) (qx_M_mono (mb1) ?_)))
                          rintro _ _ ⟨rfl, rfl⟩
                          refine Exists.intro (nI 61) (And.intro rfl ?_)
                          refine And.intro (fun h93 => ?_) (fun h93 => ?_)
                          · skip
                            refine Exists.intro (nI 32) (And.intro rfl ?_)
                            refine And.intro (fun h126 => ?_) (fun h126 => ?_)
                            · skip
                              have h126 := nI_eqT (a := T.2 a) (b := 32) (by omega) (by decide) h126
                              exact absurd (by first | exact h126 | exact h126_1) h32
                            · skip
                              have h126 := nI_neT (a := T.2 a) (b := 32) (by omega) (by decide) h126
                              refine Exists.intro (nI 0) (And.intro rfl ?_)
                              refine And.intro rfl (Exists.intro _ (And.intro (by decide) (qx_M_mono (c_keep (by omega) e5' (nI (T.2 a)) (nI a) (nI 0)) ?_)))
                              rintro _ σ1 ⟨rfl, fσ1, kσ1⟩
                              refine Exists.intro (nI (a + 1)) (And.intro (nI_add _ _) ?_)
                              refine Exists.intro (nI (i + 1)) (And.intro (nI_add _ _) ?_)
                              refine qx_K_le (ls := [.ref 4, .int (nI (a + 1)), .int (nI (i + 1)), .retAddr 0]) ⟨Or.inr rfl, Or.inr rfl, Or.inr rfl, Or.inl rfl, trivial⟩ ?_
                              exact nx _ _ (by omega) (by omega) ete hska (fin _ kσ1) fσ1
                          · skip
                            first | exact absurd h93 (no1 (Or.inl h75)) | exact absurd h93 (no1 (Or.inr h81))
                    · skip
                      have h60 := bI_t h60
                      exact absurd (h60.symm.trans (hD)) (by decide)
                  · skip
                    have h44 := bI_t h44
                    exact absurd (h44.symm.trans (hL)) (by decide)
    · obtain rfl : a = T.1 := by omega
      have hend : q_tkn T n = T.1 := hsk.symm.trans (q_rn_f (isB_n T))
      have kd9 := q_kd_E (T := T) (s := T.1) (Nat.le_refl _)
      have fin : ∀ s', q_kp σ s' n (-1) (nI T.1) (nI 0) → mTk s' T (n + 1) := by
        intro s' w
        refine hk.add (by omega) w ?_ (by rw [hend]) ?_
        · rw [hend, kd9.1]
          rfl
        · rw [hend]
          have : q_tn T T.1 = 0 := if_neg (by rw [kd9.1]; omega)
          rw [this]
      refine qy_wp_ok (c := CX9_cut) (cuts := [34]) vX9_cut wX9_cut 2000 19 _ _ _ ?_
      refine Exists.intro (nI 400) (And.intro rfl ?_)
      refine And.intro (fun h23 => ?_) (fun h23 => ?_)
      · skip
        have h23 := nI_leT (a := 400) (b := i) (by decide) (by omega) h23
        refine Exists.intro ((-1)) (And.intro (by decide) ?_)
        refine And.intro rfl (Exists.intro 4 (Exists.intro (nI T.1) (And.intro rfl (And.intro t1 ?_))))
        refine Exists.intro (nI 0) (And.intro rfl ?_)
        refine And.intro rfl (Exists.intro _ (And.intro (by decide) (qx_M_mono (c_keep (by omega) e5 (-1) (nI T.1) (nI 0)) ?_)))
        rintro _ σ1 ⟨rfl, fσ1, kσ1⟩
        exact ⟨rfl, n + 1, by omega, fin _ kσ1, hend, fun j hj => hall j (by omega), (fσ1.i _ _ rfl).trans e6, (fσ1.i _ _ rfl).trans e7, hf.tr (fσ1.mn (by decide))⟩
      · skip
        have h23 := nI_leF (a := 400) (b := i) (by decide) (by omega) h23
        refine And.intro rfl (Exists.intro 4 (Exists.intro (nI T.1) (And.intro rfl (And.intro t1 ?_))))
        refine And.intro (fun h31 => ?_) (fun h31 => ?_)
        · skip
          have h31 := nI_leT (a := T.1) (b := T.1) (by omega) (by omega) h31
          refine Exists.intro ((-1)) (And.intro (by decide) ?_)
          refine And.intro rfl (Exists.intro 4 (Exists.intro (nI T.1) (And.intro rfl (And.intro t1 ?_))))
          refine Exists.intro (nI 0) (And.intro rfl ?_)
          refine And.intro rfl (Exists.intro _ (And.intro (by decide) (qx_M_mono (c_keep (by omega) e5 (-1) (nI T.1) (nI 0)) ?_)))
          rintro _ σ1 ⟨rfl, fσ1, kσ1⟩
          exact ⟨rfl, n + 1, by omega, fin _ kσ1, hend, fun j hj => hall j (by omega), (fσ1.i _ _ rfl).trans e6, (fσ1.i _ _ rfl).trans e7, hf.tr (fσ1.mn (by decide))⟩
        · skip
          have h31 := nI_leF (a := T.1) (b := T.1) (by omega) (by omega) h31
          exact absurd h31 (by omega)
theorem c_cut {G : qx_G} (hG : kStr G) {σ : qx_S} {T : q_T} (hT : tC σ T) : qx_M G qc_T 10 YX9_cut [.ref 4] σ (fun r s => r = none ∧ rCut σ s T) := by
  refine qx_M_in rfl (Nat.le_of_ble_eq_true rfl) ?_
  refine qy_wp_ok (c := CX9_cut) (cuts := [19]) vX9_cut wX9_cut 2000 0 _ _ _ ?_
  refine Exists.intro (nI 0) (And.intro rfl ?_)
  obtain ⟨σ1, eσ1⟩ : ∃ zs, zs = (qx_wi σ 4 5 (nI 0)) := ⟨_, rfl⟩
  have fσ1 := qn_wif eσ1
  refine And.intro rfl (Exists.intro 5 (Exists.intro σ1 (And.intro rfl (And.intro eσ1.symm ?_))))
  refine Exists.intro (nI 0) (And.intro rfl ?_)
  obtain ⟨σ2, eσ2⟩ : ∃ zs, zs = (qx_wi σ1 4 6 (nI 0)) := ⟨_, rfl⟩
  have fσ2 := qn_wif eσ2
  refine And.intro rfl (Exists.intro 6 (Exists.intro σ2 (And.intro rfl (And.intro eσ2.symm ?_))))
  refine Exists.intro (nI 0) (And.intro rfl ?_)
  obtain ⟨σ3, eσ3⟩ : ∃ zs, zs = (qx_wi σ2 4 7 (nI 0)) := ⟨_, rfl⟩
  have fσ3 := qn_wif eσ3
  refine And.intro rfl (Exists.intro 7 (Exists.intro σ3 (And.intro rfl (And.intro eσ3.symm ?_))))
  refine Exists.intro (nI 0) (And.intro rfl ?_)
  refine Exists.intro (nI 0) (And.intro rfl ?_)
  exact l_cut hG hT _ 0 0 0 _ rfl (Nat.zero_le _) (Nat.le_refl _) (Nat.le_refl _) ⟨(fσ3.i _ _ rfl).trans ((fσ2.i _ _ rfl).trans (qn_eq eσ1)), by omega, fun j hj => absurd hj (by omega)⟩ rfl (fun j hj => absurd hj (by omega)) ((fσ3.i _ _ rfl).trans (qn_eq eσ2)) (qn_eq eσ3) ((fσ1.mn (by decide)).tr ((fσ2.mn (by decide)).tr (fσ3.mn (by decide))))

