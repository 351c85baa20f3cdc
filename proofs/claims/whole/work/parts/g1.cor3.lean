/-! THE CLASS: CORE, round by round -/
abbrev kCo : List (Nat × Option Nat) := [(175, none), (179, none)]
theorem q_pt_l {S : qS} {rf : Option qR} {ly : Option (Nat × Nat)} {left p : Nat} (h : left.testBit p = true) : q_pt S rf ly left p = q_pa S rf ly left p := if_pos h
theorem l_s1 {G : qx_G} {σ0 : qx_S} {S : qS} {rf : Option qR} {ly : Option (Nat × Nat)} {e L left rd : Nat} (hL : L ≠ 175 ∧ L ≠ 179) (hl : left < 1024) {Φ : qx_F} (key : ∀ s, cI s S rf e → qx_sh qc_T s L = (0, 80) → lkA s L S rf ly → ql [(179, none)] σ0 s → (∀ x, x < s_n S 1 → left.testBit x = true → qx_mi s 179 x = nI (q_pt S rf ly left x)) → qx_K G qc_T 1 RX0 YX0_settle 73 [.ref 174, .ref L, .retAddr 0, .int (nI (s_n S 1)), .int (nI left), .int (nI rd), .retAddr 0, .retAddr 0] [] s Φ) : ∀ (m k : Nat) (σ : qx_S), m + k = s_n S 1 → cI σ S rf e → qx_sh qc_T σ L = (0, 80) → lkA σ L S rf ly → ql [(179, none)] σ0 σ → (∀ x, x < k → left.testBit x = true → qx_mi σ 179 x = nI (q_pt S rf ly left x)) → qx_K G qc_T 1 RX0 YX0_settle 35 [.ref 174, .ref L, .retAddr 0, .int (nI (s_n S 1)), .int (nI left), .int (nI rd), .int (nI k), .retAddr 0] [] σ Φ := by
  intro m
  induction m with
  | zero =>
    intro k σ hk hI hs hA hf hp
    have hpe := hI.1.pe
    rw [show k = s_n S 1 by omega] at hp ⊢
    refine qy_wp_ok (c := CX0_settle) (cuts := [35, 73]) vX0_settle wX0_settle 2000 35 _ _ _ ?_
    refine And.intro (fun h38 => ?_) (fun h38 => ?_)
    · skip
      have h38 := nI_leT (a := s_n S 1) (b := s_n S 1) (by omega) (by omega) h38
      refine qx_K_le (ls := [.ref 174, .ref L, .retAddr 0, .int (nI (s_n S 1)), .int (nI left), .int (nI rd), .retAddr 0, .retAddr 0]) ⟨Or.inr rfl, Or.inr rfl, Or.inr rfl, Or.inr rfl, Or.inr rfl, Or.inr rfl, Or.inl rfl, Or.inr rfl, trivial⟩ ?_
      exact key _ hI hs hA hf hp
    · skip
      have h38 := nI_leF (a := s_n S 1) (b := s_n S 1) (by omega) (by omega) h38
      exact absurd h38 (by omega)
  | succ m ih =>
    intro k σ hk hI hs hA hf hp
    have hpe := hI.1.pe
    have hl1 : left / 2 ^ k &&& 1 ≤ 1 := Nat.and_le_right
    have hl2 : ¬ left / 2 ^ k &&& 1 = 0 → left.testBit k = true := fun h => q_tb.mp (by omega)
    refine qy_wp_ok (c := CX0_settle) (cuts := [35, 73]) vX0_settle wX0_settle 2000 35 _ _ _ ?_
    refine And.intro (fun h38 => ?_) (fun h38 => ?_)
    · skip
      have h38 := nI_leT (a := s_n S 1) (b := k) (by omega) (by omega) h38
      exact absurd h38 (by omega)
    · skip
      have h38 := nI_leF (a := s_n S 1) (b := k) (by omega) (by omega) h38
      refine Exists.intro (nI (left / 2 ^ k)) (And.intro (nI_shr (by omega) (by omega)) ?_)
      refine Exists.intro (nI 1) (And.intro rfl ?_)
      refine Exists.intro (nI ((left / 2 ^ k) &&& 1)) (And.intro (nI_and _ _) ?_)
      refine And.intro (fun h48 => ?_) (fun h48 => ?_)
      · skip
        have h48 := nI_eqT (a := (left / 2 ^ k) &&& 1) (b := 0) (by omega) (by decide) h48
        refine Exists.intro (nI (k + 1)) (And.intro (nI_add _ _) ?_)
        refine ih (k + 1) _ (by omega) hI hs hA hf (fun x hx hb => ?_)
        by_cases z : x = k
        · rw [z] at hb; exact absurd (q_tb.mpr hb) (by omega)
        · exact hp x (by omega) hb
      · skip
        have h48 := nI_neT (a := (left / 2 ^ k) &&& 1) (b := 0) (by omega) (by decide) h48
        refine And.intro rfl (Exists.intro 179 (And.intro rfl ?_))
        refine And.intro rfl (Exists.intro _ (And.intro (by decide) (qx_M_mono (c_pointsAt hI hs hA (by omega) hl) ?_)))
        rintro _ _ ⟨rfl, rfl⟩
        obtain ⟨σ1, eσ1⟩ : ∃ zs, zs = (qx_wi σ 179 k (nI (q_pa S rf ly left k))) := ⟨_, rfl⟩
        have fσ1 := qn_wi eσ1
        refine Exists.intro (k) (Exists.intro σ1 (And.intro rfl (And.intro ⟨10, rfl, by omega, by decide⟩ (And.intro eσ1.symm ?_))))
        refine Exists.intro (nI (k + 1)) (And.intro (nI_add _ _) ?_)
        refine ih (k + 1) _ (by omega) (hI.fr fσ1 rfl rfl) ((fσ1.s _).trans hs) (hA.fr fσ1 (fun j => pL_ne (by simp; omega))) (hf.tr fσ1) (fun x hx hb => ?_)
        by_cases z : x = k
        · rw [z] at hb ⊢; rw [q_pt_l hb]; exact qn_eq eσ1
        · exact (qn_ne eσ1 (Or.inr z)).trans (hp x (by omega) hb)
theorem l_s2 {G : qx_G} {σ0 : qx_S} {S : qS} {rf : Option qR} {ly : Option (Nat × Nat)} {e L left rd : Nat} {tr : Nat → Nat} (hL : L ≠ 175 ∧ L ≠ 179) (hl : left < 2 ^ s_n S 1) {Φ : qx_F} (key : ∀ s, cI s S rf e → qx_sh qc_T s L = (0, 80) → lkA s L S rf ly → ql kCo σ0 s → (∀ i, i < s_n S 1 → (left.testBit i = false → qx_mi s 175 i = nI (tr i)) ∧ (q_gone S rf ly left i = true → qx_mi s 175 i = nI (q_pt S rf ly left i))) → qx_K G qc_T 1 RX0 YX0_settle 133 [.ref 174, .ref L, .retAddr 0, .int (nI (s_n S 1)), .int (nI left), .int (nI rd), .int (nI (q_set (q_gone S rf ly left) (s_n S 1))), .retAddr 0] [] s Φ) : ∀ (m k : Nat) (σ : qx_S), m + k = s_n S 1 → cI σ S rf e → qx_sh qc_T σ L = (0, 80) → lkA σ L S rf ly → ql kCo σ0 σ → (∀ x, x < s_n S 1 → left.testBit x = true → qx_mi σ 179 x = nI (q_pt S rf ly left x)) → (∀ i, i < s_n S 1 → (left.testBit i = false → qx_mi σ 175 i = nI (tr i)) ∧ (i < k → q_gone S rf ly left i = true → qx_mi σ 175 i = nI (q_pt S rf ly left i))) → qx_K G qc_T 1 RX0 YX0_settle 79 [.ref 174, .ref L, .retAddr 0, .int (nI (s_n S 1)), .int (nI left), .int (nI rd), .int (nI (q_set (q_gone S rf ly left) k)), .int (nI k)] [] σ Φ := by
  intro m
  induction m with
  | zero =>
    intro k σ hk hI hs hA hf hp ht
    have hpe := hI.1.pe
    rw [show k = s_n S 1 by omega] at ht ⊢
    refine qy_wp_ok (c := CX0_settle) (cuts := [79, 133]) vX0_settle wX0_settle 2000 79 _ _ _ ?_
    refine And.intro (fun h82 => ?_) (fun h82 => ?_)
    · skip
      have h82 := nI_leT (a := s_n S 1) (b := s_n S 1) (by omega) (by omega) h82
      refine qx_K_le (ls := [.ref 174, .ref L, .retAddr 0, .int (nI (s_n S 1)), .int (nI left), .int (nI rd), .int (nI (q_set (q_gone S rf ly left) (s_n S 1))), .retAddr 0]) ⟨Or.inr rfl, Or.inr rfl, Or.inr rfl, Or.inr rfl, Or.inr rfl, Or.inr rfl, Or.inr rfl, Or.inl rfl, trivial⟩ ?_
      exact key _ hI hs hA hf (fun i hi => ⟨(ht i hi).1, (ht i hi).2 hi⟩)
    · skip
      have h82 := nI_leF (a := s_n S 1) (b := s_n S 1) (by omega) (by omega) h82
      exact absurd h82 (by omega)
  | succ m ih =>
    intro k σ hk hI hs hA hf hp ht
    have hpe := hI.1.pe
    have h1024 : 2 ^ s_n S 1 ≤ 1024 := Nat.pow_le_pow_right (by decide) hpe
    have hl1 : left / 2 ^ k &&& 1 ≤ 1 := Nat.and_le_right
    have hl2 : ¬ left / 2 ^ k &&& 1 = 0 → left.testBit k = true := fun h => q_tb.mp (by omega)
    have hk1 : k < s_n S 1 := by omega
    have hpt : ∀ x, left.testBit x = true → x < s_n S 1 ∧ qx_mi σ 179 x = nI (q_pt S rf ly left x) ∧ left.testBit (q_pt S rf ly left x) = true := fun x hx => ⟨q_tb_lt hl hx, hp x (q_tb_lt hl hx) hx, q_pt_in hx⟩
    have cbk : left.testBit k = true → qx_M G qc_T 0 YX0_comesBack [.ref 174, .int (nI k)] σ (qr (bI (q_gone S rf ly left k)) σ) := fun h => by
      unfold q_gone
      rw [h, Bool.true_and]
      exact c_comesBack hI hpt h
    have g0 : left / 2 ^ k &&& 1 = 0 → q_gone S rf ly left k = false := fun h => by
      unfold q_gone
      rw [show left.testBit k = false from Bool.eq_false_iff.mpr (fun w => by have := q_tb.mpr w; omega)]
      rfl
    refine qy_wp_ok (c := CX0_settle) (cuts := [79, 133]) vX0_settle wX0_settle 2000 79 _ _ _ ?_
    refine And.intro (fun h82 => ?_) (fun h82 => ?_)
    · skip
      have h82 := nI_leT (a := s_n S 1) (b := k) (by omega) (by omega) h82
      exact absurd h82 (by omega)
    · skip
      have h82 := nI_leF (a := s_n S 1) (b := k) (by omega) (by omega) h82
      refine Exists.intro (nI (left / 2 ^ k)) (And.intro (nI_shr (by omega) (by omega)) ?_)
      refine Exists.intro (nI 1) (And.intro rfl ?_)
      refine Exists.intro (nI ((left / 2 ^ k) &&& 1)) (And.intro (nI_and _ _) ?_)
      refine And.intro (fun h92 => ?_) (fun h92 => ?_)
      · skip
        have h92 := nI_eqT (a := (left / 2 ^ k) &&& 1) (b := 0) (by omega) (by decide) h92
        refine Exists.intro (nI (k + 1)) (And.intro (nI_add _ _) ?_)
        rw [← q_set_f (g0 h92)]
        exact ih (k + 1) _ (by omega) hI hs hA hf hp (fun i hi => ⟨(ht i hi).1, fun h1 h2 => (ht i hi).2 (Nat.lt_of_le_of_ne (by omega) (fun z => by rw [z, g0 h92] at h2; cases h2)) h2⟩)
      · skip
        have h92 := nI_neT (a := (left / 2 ^ k) &&& 1) (b := 0) (by omega) (by decide) h92
        refine And.intro rfl (Exists.intro _ (And.intro (by decide) (qx_M_mono (cbk (hl2 h92)) ?_)))
        rintro _ _ ⟨rfl, rfl⟩
        refine And.intro (fun h101 => ?_) (fun h101 => ?_)
        · skip
          have h101 := bI_f h101
          refine Exists.intro (nI (k + 1)) (And.intro (nI_add _ _) ?_)
          rw [← q_set_f h101]
          exact ih (k + 1) _ (by omega) hI hs hA hf hp (fun i hi => ⟨(ht i hi).1, fun h1 h2 => (ht i hi).2 (Nat.lt_of_le_of_ne (by omega) (fun z => by rw [z, h101] at h2; cases h2)) h2⟩)
        · skip
          have h101 := bI_t h101
          refine And.intro rfl (Exists.intro 175 (And.intro rfl ?_))
          refine And.intro rfl (Exists.intro 179 (And.intro rfl ?_))
          refine Exists.intro (k) (Exists.intro (nI (q_pt S rf ly left k)) (And.intro rfl (And.intro ⟨10, rfl, by omega, by decide⟩ (And.intro ((hpt k (hl2 h92)).2.1) ?_))))
          obtain ⟨σ1, eσ1⟩ : ∃ zs, zs = (qx_wi σ 175 k (nI (q_pt S rf ly left k))) := ⟨_, rfl⟩
          have fσ1 := qn_wi eσ1
          refine Exists.intro (k) (Exists.intro σ1 (And.intro rfl (And.intro ⟨10, rfl, by omega, by decide⟩ (And.intro eσ1.symm ?_))))
          refine Exists.intro (nI 1) (And.intro rfl ?_)
          refine Exists.intro (nI (2 ^ k)) (And.intro (nI_sh1 (by omega)) ?_)
          refine Exists.intro (nI ((q_set (q_gone S rf ly left) k) ||| (2 ^ k))) (And.intro (nI_or _ _) ?_)
          refine Exists.intro (nI (k + 1)) (And.intro (nI_add _ _) ?_)
          rw [← q_set_t h101]
          refine ih (k + 1) _ (by omega) (hI.fr fσ1 rfl rfl) ((fσ1.s _).trans hs) (hA.fr fσ1 (fun j => pL_ne (by simp; omega))) (hf.tr (fσ1.mn rfl)) (fun x hx hb => (fσ1.i _ _ rfl).trans (hp x hx hb)) (fun i hi => ⟨fun hb => ?_, fun h1 h2 => ?_⟩)
          · exact (qn_ne eσ1 (Or.inr (fun z => by rw [z, hl2 h92] at hb; cases hb))).trans ((ht i hi).1 hb)
          · by_cases z : i = k
            · rw [z]; exact qn_eq eσ1
            · exact (qn_ne eσ1 (Or.inr z)).trans ((ht i hi).2 (by omega) h2)
theorem l_s0 {G : qx_G} {σ0 : qx_S} {S : qS} {rf : Option qR} {ly : Option (Nat × Nat)} {e L : Nat} {T : Nat → Nat} (hL : L ≠ 175 ∧ L ≠ 179) : ∀ (m rd : Nat) (σ : qx_S) (left : Nat) (tr : Nat → Nat), m + rd = s_n S 1 → q_nb left (s_n S 1) ≤ m → left < 2 ^ s_n S 1 → q_cr S rf ly left left tr = T → cI σ S rf e → qx_sh qc_T σ L = (0, 80) → lkA σ L S rf ly → ql kCo σ0 σ → (∀ i, i < s_n S 1 → left.testBit i = false → qx_mi σ 175 i = nI (tr i)) → qx_K G qc_T 1 RX0 YX0_settle 21 [.ref 174, .ref L, .retAddr 0, .int (nI (s_n S 1)), .int (nI left), .int (nI rd), .retAddr 0, .retAddr 0] [] σ (fun r s => r = none ∧ ql kCo σ0 s ∧ ∀ i, i < s_n S 1 → qx_mi s 175 i = nI (T i)) := by
  intro m
  have z0 : ∀ (σ : qx_S) (tr : Nat → Nat), q_cr S rf ly 0 0 tr = T → ql kCo σ0 σ → (∀ i, i < s_n S 1 → (0 : Nat).testBit i = false → qx_mi σ 175 i = nI (tr i)) → ql kCo σ0 σ ∧ ∀ i, i < s_n S 1 → qx_mi σ 175 i = nI (T i) := fun σ tr h1 h2 h3 => ⟨h2, fun i hi => by rw [← h1]; exact h3 i hi (Nat.zero_testBit i)⟩
  induction m with
  | zero =>
    intro rd σ left tr hrd hn hl hT hI hs hA hf ht
    have hpe := hI.1.pe
    have e0 : left = 0 := q_nb_0 hl (by omega)
    subst e0
    rw [show rd = s_n S 1 by omega]
    refine qy_wp_ok (c := CX0_settle) (cuts := [21, 35]) vX0_settle wX0_settle 2000 21 _ _ _ ?_
    refine And.intro (fun h24 => ?_) (fun h24 => ?_)
    · skip
      have h24 := nI_leT (a := s_n S 1) (b := s_n S 1) (by omega) (by omega) h24
      exact ⟨rfl, z0 _ _ hT hf ht⟩
    · skip
      have h24 := nI_leF (a := s_n S 1) (b := s_n S 1) (by omega) (by omega) h24
      exact absurd h24 (by omega)
  | succ m ih =>
    intro rd σ left tr hrd hn hl hT hI hs hA hf ht
    have hpe := hI.1.pe
    have h1024 : 2 ^ s_n S 1 ≤ 1024 := Nat.pow_le_pow_right (by decide) hpe
    rcases Nat.eq_zero_or_pos left with e0 | e0
    · subst e0
      refine qy_wp_ok (c := CX0_settle) (cuts := [21, 35]) vX0_settle wX0_settle 2000 21 _ _ _ ?_
      refine And.intro (fun h24 => ?_) (fun h24 => ?_)
      · skip
        have h24 := nI_leT (a := s_n S 1) (b := rd) (by omega) (by omega) h24
        exact absurd h24 (by omega)
      · skip
        have h24 := nI_leF (a := s_n S 1) (b := rd) (by omega) (by omega) h24
        refine And.intro (fun h29 => ?_) (fun h29 => ?_)
        · skip
          exact ⟨rfl, z0 _ _ hT hf ht⟩
        · skip
          exact absurd (by decide) h29
    · have hd := q_gone_dec (rf := rf) (ly := ly) e0 hl
      have hn2 := q_nb_gone (rf := rf) (ly := ly) e0 hl
      have st : q_cr S rf ly (q_wo left (q_set (q_gone S rf ly left) (s_n S 1))) (q_wo left (q_set (q_gone S rf ly left) (s_n S 1))) (fun i => if i < s_n S 1 ∧ q_gone S rf ly left i = true then q_pt S rf ly left i else tr i) = T := by
        rw [← hT]
        have key : ∀ f, q_cr S rf ly (f + 1) left tr = q_cr S rf ly f (q_wo left (q_set (q_gone S rf ly left) (s_n S 1))) (fun i => if i < s_n S 1 ∧ q_gone S rf ly left i = true then q_pt S rf ly left i else tr i) := fun f => by
          show (if left = 0 then tr else _) = _
          rw [if_neg (by omega)]
        have k1 := key (left - 1)
        rw [Nat.sub_add_cancel e0] at k1
        rw [k1]
        exact q_cr_f S rf ly _ _ _ _ (Nat.le_refl _) (by omega) (by omega)
      have k133 : ∀ s, cI s S rf e → qx_sh qc_T s L = (0, 80) → lkA s L S rf ly → ql kCo σ0 s → (∀ i, i < s_n S 1 → (left.testBit i = false → qx_mi s 175 i = nI (tr i)) ∧ (q_gone S rf ly left i = true → qx_mi s 175 i = nI (q_pt S rf ly left i))) → qx_K G qc_T 1 RX0 YX0_settle 133 [.ref 174, .ref L, .retAddr 0, .int (nI (s_n S 1)), .int (nI left), .int (nI rd), .int (nI (q_set (q_gone S rf ly left) (s_n S 1))), .retAddr 0] [] s (fun r s => r = none ∧ ql kCo σ0 s ∧ ∀ i, i < s_n S 1 → qx_mi s 175 i = nI (T i)) := by
        intro s i1 s1 a1 f1 t1
        refine qy_wp_ok (c := CX0_settle) (cuts := [21]) vX0_settle wX0_settle 2000 133 _ _ _ ?_
        refine Exists.intro ((-1)) (And.intro (by decide) ?_)
        refine Exists.intro ((nI (q_set (q_gone S rf ly left) (s_n S 1))) ^^^ (-1)) (And.intro rfl ?_)
        refine Exists.intro (nI (q_wo left (q_set (q_gone S rf ly left) (s_n S 1)))) (And.intro (nI_andn _ _ (by omega)) ?_)
        refine Exists.intro (nI (rd + 1)) (And.intro (nI_add _ _) ?_)
        refine qx_K_le (ls := [.ref 174, .ref L, .retAddr 0, .int (nI (s_n S 1)), .int (nI (q_wo left (q_set (q_gone S rf ly left) (s_n S 1)))), .int (nI (rd + 1)), .retAddr 0, .retAddr 0]) ⟨Or.inr rfl, Or.inr rfl, Or.inr rfl, Or.inr rfl, Or.inr rfl, Or.inr rfl, Or.inl rfl, Or.inr rfl, trivial⟩ ?_
        refine ih (rd + 1) _ _ _ (by omega) (by omega) (by omega) st i1 s1 a1 f1 (fun i hi hb => ?_)
        by_cases z : q_gone S rf ly left i = true
        · rw [if_pos ⟨hi, z⟩]; exact (t1 i hi).2 z
        · rw [if_neg (fun w => z w.2)]
          refine (t1 i hi).1 ?_
          rw [q_wo_bit, q_set_bit, Bool.eq_false_iff.mpr z, Bool.and_false, Bool.not_false, Bool.and_true] at hb
          exact hb
      have k73 : ∀ s, cI s S rf e → qx_sh qc_T s L = (0, 80) → lkA s L S rf ly → ql [(179, none)] σ s → (∀ x, x < s_n S 1 → left.testBit x = true → qx_mi s 179 x = nI (q_pt S rf ly left x)) → qx_K G qc_T 1 RX0 YX0_settle 73 [.ref 174, .ref L, .retAddr 0, .int (nI (s_n S 1)), .int (nI left), .int (nI rd), .retAddr 0, .retAddr 0] [] s (fun r s => r = none ∧ ql kCo σ0 s ∧ ∀ i, i < s_n S 1 → qx_mi s 175 i = nI (T i)) := by
        intro s i1 s1 a1 f1 p1
        refine qy_wp_ok (c := CX0_settle) (cuts := [79]) vX0_settle wX0_settle 2000 73 _ _ _ ?_
        refine Exists.intro (nI 0) (And.intro rfl ?_)
        refine Exists.intro (nI 0) (And.intro rfl ?_)
        exact l_s2 hL hl k133 (s_n S 1) 0 _ (by omega) i1 s1 a1 (hf.tr (f1.mn rfl)) p1 (fun i hi => ⟨fun hb => (f1.i _ _ rfl).trans (ht i hi hb), fun h => absurd h (Nat.not_lt_zero i)⟩)
      refine qy_wp_ok (c := CX0_settle) (cuts := [21, 35]) vX0_settle wX0_settle 2000 21 _ _ _ ?_
      refine And.intro (fun h24 => ?_) (fun h24 => ?_)
      · skip
        have h24 := nI_leT (a := s_n S 1) (b := rd) (by omega) (by omega) h24
        exact absurd h24 (by omega)
      · skip
        have h24 := nI_leF (a := s_n S 1) (b := rd) (by omega) (by omega) h24
        refine And.intro (fun h29 => ?_) (fun h29 => ?_)
        · skip
          have h29 := nI_eqT (a := left) (b := 0) (by omega) (by decide) h29
          exact absurd h29 (by omega)
        · skip
          have h29 := nI_neT (a := left) (b := 0) (by omega) (by decide) h29
          refine Exists.intro (nI 0) (And.intro rfl ?_)
          exact l_s1 hL (by omega) k73 (s_n S 1) 0 _ (by omega) hI hs hA qf.rf (fun x hx => absurd hx (Nat.not_lt_zero x))
theorem c_coreSettle {G : qx_G} {σ : qx_S} {S : qS} {rf : Option qR} {ly : Option (Nat × Nat)} {e L : Nat} {lg : Int32} (hI : cI σ S rf e) (hL : L ≠ 175 ∧ L ≠ 179) (hs : qx_sh qc_T σ L = (0, 80)) (hA : lkA σ L S rf ly) : qx_M G qc_T 1 YX0_settle [.ref 174, .ref L, .int lg] σ (fun r s => r = none ∧ ql kCo σ s ∧ ∀ i, i < s_n S 1 → qx_mi s 175 i = nI (q_ct S rf ly i)) := by
  have hpe := hI.1.pe
  have hp : 0 < 2 ^ s_n S 1 := Nat.two_pow_pos _
  have e5 := hI.2.1.1.2.1.trans hI.1.1.2.1.2.1.1
  have h1024 : 2 ^ s_n S 1 ≤ 1024 := Nat.pow_le_pow_right (by decide) hpe
  refine qx_M_in rfl (Nat.le_of_ble_eq_true rfl) ?_
  refine qy_wp_ok (c := CX0_settle) (cuts := [21]) vX0_settle wX0_settle 2000 0 _ _ _ ?_
  refine And.intro rfl (Exists.intro 156 (And.intro rfl ?_))
  refine And.intro rfl (Exists.intro 16 (And.intro rfl ?_))
  refine And.intro rfl (Exists.intro 5 (Exists.intro (nI (s_n S 1)) (And.intro rfl (And.intro e5 ?_))))
  refine Exists.intro (nI 1) (And.intro rfl ?_)
  refine Exists.intro (nI (2 ^ (s_n S 1))) (And.intro (nI_sh1 (by omega)) ?_)
  refine Exists.intro (nI 1) (And.intro rfl ?_)
  refine Exists.intro (nI ((2 ^ (s_n S 1)) - 1)) (And.intro (nI_sub (by omega)) ?_)
  refine Exists.intro (nI 0) (And.intro rfl ?_)
  refine qx_K_le (ls := [.ref 174, .ref L, .retAddr 0, .int (nI (s_n S 1)), .int (nI ((2 ^ (s_n S 1)) - 1)), .int (nI 0), .retAddr 0, .retAddr 0]) ⟨Or.inr rfl, Or.inr rfl, Or.inl rfl, Or.inr rfl, Or.inr rfl, Or.inr rfl, Or.inr rfl, Or.inr rfl, trivial⟩ ?_
  refine l_s0 hL (s_n S 1) 0 _ _ (fun i => i) (by omega) (q_nb_le _ _) (by omega) rfl hI hs hA qf.rf (fun i hi hb => ?_)
  rw [Nat.testBit_two_pow_sub_one, decide_eq_true hi] at hb
  cases hb
theorem cLk.fr {σ s : qx_S} {S : qS} {rf : Option qR} {e : Nat} {l : List (Nat × Option Nat)} (h : cLk σ S rf e) (f : ql l σ s) (h1 : pL l 3 16 = false) (h2 : ∀ j, pL l 187 j = false) : cLk s S rf e := by
  obtain ⟨el, a, b, c⟩ := h
  exact ⟨el, (f.i _ _ h1).trans a, b, fun z => (c z).fr f h2⟩
theorem c_core_no {G : qx_G} {σ : qx_S} {S : qS} {rf : Option qR} {e : Nat} (hI : cI σ S rf e) {x : Int32} (hb : q_is x (s_n S 1) = false) : qx_M G qc_T 4 YX11_core [.ref 3, .int x] σ (qr (-1) σ) := by
  refine qx_M_in rfl (Nat.le_of_ble_eq_true rfl) ?_
  refine qy_wp_ok (c := CX11_core) (cuts := []) vX11_core wX11_core 2000 0 _ _ _ ?_
  refine And.intro rfl (Exists.intro _ (And.intro (by decide) (qx_M_mono (c_isPerson hI.2.1.1 hI.1.1.2.1.2.1.1 x) ?_)))
  rintro _ _ ⟨rfl, rfl⟩
  refine And.intro (fun h5 => ?_) (fun h5 => ?_)
  · skip
    have h5 := bI_t h5
    exact absurd (h5.symm.trans (hb)) (by decide)
  · skip
    have h5 := bI_f h5
    refine Exists.intro ((-1)) (And.intro (by decide) ?_)
    exact ⟨rfl, rfl⟩
abbrev kCn : List (Nat × Option Nat) := (175, none) :: (179, none) :: kLn
theorem c_core_ok {G : qx_G} {σ : qx_S} {S : qS} {rf : Option qR} {e : Nat} (hI : cI σ S rf e) (hL : cLk σ S rf e) {p : Nat} (hp : p < s_n S 1) : qx_M G qc_T 4 YX11_core [.ref 3, .int (nI p)] σ (fun r s => r = some (.int (nI (q_ct S rf none p))) ∧ ql kCn σ s ∧ cI s S rf e ∧ cLk s S rf e) := by
  have hpe := hI.1.pe
  refine qx_M_in rfl (Nat.le_of_ble_eq_true rfl) ?_
  refine qy_wp_ok (c := CX11_core) (cuts := []) vX11_core wX11_core 2000 0 _ _ _ ?_
  refine And.intro rfl (Exists.intro _ (And.intro (by decide) (qx_M_mono (c_isPerson hI.2.1.1 hI.1.1.2.1.2.1.1 (nI p)) ?_)))
  rintro _ _ ⟨rfl, rfl⟩
  refine And.intro (fun h5 => ?_) (fun h5 => ?_)
  · skip
    have h5 := bI_t h5
    refine And.intro rfl (Exists.intro 174 (And.intro rfl ?_))
    refine And.intro rfl (Exists.intro _ (And.intro (by decide) (qx_M_mono (c_likesNow hI hL) ?_)))
    rintro _ ρ ⟨rfl, fρ, iρ, aρ, lρ⟩
    refine Exists.intro (nI 10) (And.intro rfl ?_)
    refine And.intro rfl (Exists.intro _ (And.intro (by decide) (qx_M_mono (c_coreSettle iρ (by decide) rfl aρ) ?_)))
    rintro _ τ ⟨rfl, fτ, tτ⟩
    refine And.intro rfl (Exists.intro 174 (And.intro rfl ?_))
    refine And.intro rfl (Exists.intro 175 (And.intro rfl ?_))
    refine Exists.intro (p) (Exists.intro (nI (q_ct S rf none p)) (And.intro rfl (And.intro ⟨10, rfl, by omega, by decide⟩ (And.intro (tτ p hp) ?_))))
    exact ⟨rfl, (fρ.mn rfl).tr (fτ.mn rfl), iρ.fr fτ rfl rfl, lρ.fr fτ rfl (fun _ => rfl)⟩
  · skip
    have h5 := bI_f h5
    exact absurd (h5.symm.trans (q_is_ok hp (by omega))) (by decide)

