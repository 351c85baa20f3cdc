/-! THE CLASS: LAWS -/
theorem c_likesMore {G : qx_G} {σ : qx_S} {S : qS} {rf : Option qR} {e st : Nat} {kp : Bool} {lk : Nat → Nat → Nat → Int32} {p a q : Nat} (hW : cW σ S rf st) (hK : cK σ e kp (s_n S 1) lk) (hk : cH S rf kp lk) (hp : p < s_n S 1) (ha : a < 8) (hq : q < 8) : qx_M G qc_T 3 YX2_likesMore [.ref 156, .int (nI p), .int (nI a), .int (nI q)] σ (fun r s => r = some (.int (bI (decide (q_lk S rf p a a < q_lk S rf p a q)))) ∧ ql kLw σ s ∧ cK s e kp (s_n S 1) lk) := by
  refine qx_M_in rfl (Nat.le_of_ble_eq_true rfl) ?_
  refine qy_wp_ok (c := CX2_likesMore) (cuts := []) vX2_likesMore wX2_likesMore 2000 0 _ _ _ ?_
  refine And.intro rfl (Exists.intro _ (And.intro (by decide) (qx_M_mono (c_likingOf (p := p) (a := a) (q := q) hW hK hk (by omega) (by omega) (by omega)) ?_)))
  rintro _ σ1 ⟨rfl, fσ1, kσ1⟩
  have hW_σ1 : cW σ1 S rf st := hW.fr fσ1 rfl rfl
  have hK_σ1 : cK σ1 e kp (s_n S 1) lk := kσ1
  refine And.intro rfl (Exists.intro _ (And.intro (by decide) (qx_M_mono (c_likingOf (p := p) (a := a) (q := a) hW_σ1 hK_σ1 hk (by omega) (by omega) (by omega)) ?_)))
  rintro _ σ2 ⟨rfl, fσ2, kσ2⟩
  have hW_σ2 : cW σ2 S rf st := hW_σ1.fr fσ2 rfl rfl
  have hK_σ2 : cK σ2 e kp (s_n S 1) lk := kσ2
  refine And.intro (fun h14 => ?_) (fun h14 => ?_)
  · skip
    refine Exists.intro (nI 0) (And.intro rfl ?_)
    refine And.intro (Or.inl rfl) ?_
    refine ⟨congrArg (fun z => some (Value.int z)) ?_, fσ1.tr fσ2, hK_σ2⟩
    first | exact (bI_true (decide_eq_true (Int32.not_le.mp h14))).symm | exact (bI_false (decide_eq_false (Int32.not_lt.mpr h14))).symm
  · skip
    refine Exists.intro (nI 1) (And.intro rfl ?_)
    refine And.intro (Or.inr rfl) ?_
    refine ⟨congrArg (fun z => some (Value.int z)) ?_, fσ1.tr fσ2, hK_σ2⟩
    first | exact (bI_true (decide_eq_true (Int32.not_le.mp h14))).symm | exact (bI_false (decide_eq_false (Int32.not_lt.mpr h14))).symm
theorem l_content {G : qx_G} {σ0 : qx_S} {S : qS} {rf : Option qR} {e st : Nat} {kp : Bool} {lk : Nat → Nat → Nat → Int32} {p a : Nat} (hk : cH S rf kp lk) (hp : p < s_n S 1) (ha : a < 8) : ∀ (m k : Nat) (σ : qx_S), m + k = s_n S 0 → cW σ S rf st → cK σ e kp (s_n S 1) lk → ql kLw σ0 σ → qx_K G qc_T 4 RX2 YX2_content 2 [.ref 156, .int (nI p), .int (nI a), .int (nI k)] [] σ (fun r s => r = some (.int (bI (!q_ex (fun q => decide (q_lk S rf p a a < q_lk S rf p a q)) m k))) ∧ ql kLw σ0 s ∧ cK s e kp (s_n S 1) lk) := by
  intro m
  induction m with
  | zero =>
    intro k σ hm hW hK hf
    have h0 := hW.1.1.1
    obtain rfl : k = s_n S 0 := by omega
    refine qy_wp_ok (c := CX2_content) (cuts := [2]) vX2_content wX2_content 2000 2 _ _ _ ?_
    refine And.intro rfl (Exists.intro 16 (And.intro rfl ?_))
    refine And.intro rfl (Exists.intro 4 (Exists.intro (nI (s_n S 0)) (And.intro rfl (And.intro (hW.2.1.2.2.1.1.trans h0.1) ?_))))
    refine And.intro (fun h10 => ?_) (fun h10 => ?_)
    · skip
      have h10 := nI_leT (a := s_n S 0) (b := s_n S 0) (by omega) (by omega) h10
      refine Exists.intro (nI 1) (And.intro rfl ?_)
      refine And.intro (Or.inr rfl) ?_
      exact ⟨rfl, hf, hK⟩
    · skip
      have h10 := nI_leF (a := s_n S 0) (b := s_n S 0) (by omega) (by omega) h10
      exact absurd h10 (by omega)
  | succ m ih =>
    intro k σ hm hW hK hf
    have h0 := hW.1.1.1
    refine qy_wp_ok (c := CX2_content) (cuts := [2]) vX2_content wX2_content 2000 2 _ _ _ ?_
    refine And.intro rfl (Exists.intro 16 (And.intro rfl ?_))
    refine And.intro rfl (Exists.intro 4 (Exists.intro (nI (s_n S 0)) (And.intro rfl (And.intro (hW.2.1.2.2.1.1.trans h0.1) ?_))))
    refine And.intro (fun h10 => ?_) (fun h10 => ?_)
    · skip
      have h10 := nI_leT (a := s_n S 0) (b := k) (by omega) (by omega) h10
      exact absurd h10 (by omega)
    · skip
      have h10 := nI_leF (a := s_n S 0) (b := k) (by omega) (by omega) h10
      refine And.intro rfl (Exists.intro _ (And.intro (by decide) (qx_M_mono (c_likesMore (p := p) (a := a) (q := k) hW hK hk (by omega) (by omega) (by omega)) ?_)))
      rintro _ σ1 ⟨rfl, fσ1, kσ1⟩
      have hW_σ1 : cW σ1 S rf st := hW.fr fσ1 rfl rfl
      have hf_σ1 : ql kLw σ0 σ1 := hf.tr fσ1
      have hK_σ1 : cK σ1 e kp (s_n S 1) lk := kσ1
      refine And.intro (fun h20 => ?_) (fun h20 => ?_)
      · skip
        have h20 := bI_f h20
        refine Exists.intro (nI (k + 1)) (And.intro (nI_add _ _) ?_)
        have z := ih (k + 1) _ (by omega) hW_σ1 hK_σ1 hf_σ1
        rw [q_ex_f (f := fun q => decide (q_lk S rf p a a < q_lk S rf p a q)) h20]
        exact z
      · skip
        have h20 := bI_t h20
        refine Exists.intro (nI 0) (And.intro rfl ?_)
        refine And.intro (Or.inl rfl) ?_
        exact ⟨by rw [q_ex_t (f := fun q => decide (q_lk S rf p a a < q_lk S rf p a q)) h20]; rfl, hf_σ1, hK_σ1⟩
theorem c_content {G : qx_G} {σ : qx_S} {S : qS} {rf : Option qR} {e st : Nat} {kp : Bool} {lk : Nat → Nat → Nat → Int32} {p a : Nat} (hW : cW σ S rf st) (hK : cK σ e kp (s_n S 1) lk) (hk : cH S rf kp lk) (hp : p < s_n S 1) (ha : a < 8) : qx_M G qc_T 4 YX2_content [.ref 156, .int (nI p), .int (nI a)] σ (fun r s => r = some (.int (bI (!q_aw S rf none p a))) ∧ ql kLw σ s ∧ cK s e kp (s_n S 1) lk) := by
  refine qx_M_in rfl (Nat.le_of_ble_eq_true rfl) ?_
  refine qy_wp_ok (c := CX2_content) (cuts := [2]) vX2_content wX2_content 2000 0 _ _ _ ?_
  refine Exists.intro (nI 0) (And.intro rfl ?_)
  exact qx_K_mono (l_content hk hp ha (s_n S 0) 0 σ (by omega) hW hK qf.rf) (fun r s h => h)
theorem c_onBench {G : qx_G} {σ : qx_S} {S : qS} (g : gL S) (hd : dR σ 16 S) {p : Nat} (hp : p < s_n S 1) : qx_M G qc_T 0 YX1_onBench [.ref 16, .int (nI p)] σ (qr (bI (decide (¬ S (10 + 5 * p + 3) = nI 0))) σ) := by
  obtain ⟨a1, a2, a3, a4, a5, a6, a7, bn, a8, a9, a10⟩ := hd
  have hpe := g.1.2.1.2
  have hbn : bn < 1024 := Nat.lt_of_lt_of_le a9 (Nat.pow_le_pow_right (n := 2) (by decide) hpe)
  have hl : bn / 2 ^ p &&& 1 ≤ 1 := Nat.and_le_right
  have hl2 : bn / 2 ^ p &&& 1 = 0 ∨ bn / 2 ^ p &&& 1 = 1 := by omega
  have e1 : bn.testBit p = decide (¬ S (10 + 5 * p + 3) = nI 0) := by
    have k := a10 p hp
    rcases (g.2.2 p hp).2 with z | z
    · rw [decide_eq_false (show ¬ ¬ S (10 + 5 * p + 3) = nI 0 from fun w => w z)]
      exact Bool.eq_false_iff.mpr (fun w => absurd (z.symm.trans (k.mp w)) (by decide))
    · rw [decide_eq_true (show ¬ S (10 + 5 * p + 3) = nI 0 from fun w => absurd (z.symm.trans w) (by decide))]
      exact k.mpr z
  rw [← e1]
  refine qx_M_in rfl (Nat.le_of_ble_eq_true rfl) ?_
  refine qy_wp_ok (c := CX1_onBench) (cuts := []) vX1_onBench wX1_onBench 2000 0 _ _ _ ?_
  refine And.intro rfl (Exists.intro 7 (Exists.intro (nI bn) (And.intro rfl (And.intro a8 ?_))))
  refine Exists.intro (nI (bn / 2 ^ p)) (And.intro (nI_shr (by omega) (by omega)) ?_)
  refine Exists.intro (nI 1) (And.intro rfl ?_)
  refine Exists.intro (nI ((bn / 2 ^ p) &&& 1)) (And.intro (nI_and _ _) ?_)
  refine And.intro (fun h8 => ?_) (fun h8 => ?_)
  · skip
    have h8 := nI_eqT (a := (bn / 2 ^ p) &&& 1) (b := 0) (by omega) (by decide) h8
    refine Exists.intro (nI 0) (And.intro rfl ?_)
    refine And.intro (Or.inl rfl) ?_
    first | exact ⟨congrArg (fun z => some (Value.int z)) (bI_true (q_tb.mp (hl2.resolve_left h8))).symm, rfl⟩ | exact ⟨congrArg (fun z => some (Value.int z)) (bI_false (Bool.eq_false_iff.mpr (fun y => absurd ((q_tb.mpr y).symm.trans h8) (by decide)))).symm, rfl⟩
  · skip
    have h8 := nI_neT (a := (bn / 2 ^ p) &&& 1) (b := 0) (by omega) (by decide) h8
    refine Exists.intro (nI 1) (And.intro rfl ?_)
    refine And.intro (Or.inr rfl) ?_
    first | exact ⟨congrArg (fun z => some (Value.int z)) (bI_true (q_tb.mp (hl2.resolve_left h8))).symm, rfl⟩ | exact ⟨congrArg (fun z => some (Value.int z)) (bI_false (Bool.eq_false_iff.mpr (fun y => absurd ((q_tb.mpr y).symm.trans h8) (by decide)))).symm, rfl⟩
theorem l_barred {G : qx_G} {σ0 : qx_S} {S : qS} {R : qR} {p a q o n x : Nat} (hR : q_wf R) (hx : qx_mr σ0 156 7 = some x) (hx2 : 191 ≤ x) (hs : shR σ0 x) (hu : uR σ0 x R) : ∀ (m c : Nat) (σ : qx_S), m + c = q_nc R → ql kL2 σ0 σ → (∀ v, v < 12 → qx_mi σ 158 v = q_wd S p a q (some o) n v) →
   qx_K G qc_T 2 RX2 YX2_isBarred 23 [.ref 156, .retAddr 0, .retAddr 0, .retAddr 0, .retAddr 0, .retAddr 0, .int (nI c)] [] σ (fun r s => r = some (.int (bI (q_brc R (q_w S p a q (some o) n) m c))) ∧ ql kL2 σ0 s) := by
  intro m
  have hw0 : ∀ σ, (∀ v, v < 12 → qx_mi σ 158 v = q_wd S p a q (some o) n v) → ∀ v, v < 12 → (qx_mi σ 158 v).toInt64 = q_w S p a q (some o) n v := fun σ h v hv => congrArg Int32.toInt64 (h v hv)
  have hnc := hR.1
  induction m with
  | zero =>
    intro c σ hc hf hw
    obtain rfl : c = q_nc R := by omega
    have u6 := (hf.i _ _ (kLow_ne rfl hx2)).trans hu.1
    refine qy_wp_ok (c := CX2_isBarred) (cuts := [23]) vX2_isBarred wX2_isBarred 2000 23 _ _ _ ?_
    refine And.intro rfl (Exists.intro 7 (Exists.intro (some x) (And.intro rfl (And.intro ((hf.r _ _).trans hx) ?_))))
    refine And.intro (by rw [show qx_sh qc_T _ x = _ from ((hf.s _).trans hs.2.1)]; rfl) (Exists.intro 6 (Exists.intro (nI (q_nc R)) (And.intro rfl (And.intro u6 ?_))))
    refine And.intro (fun h32 => ?_) (fun h32 => ?_)
    · skip
      have h32 := nI_leT (a := q_nc R) (b := q_nc R) (by omega) (by omega) h32
      refine Exists.intro (nI 0) (And.intro rfl ?_)
      refine And.intro (Or.inl rfl) ?_
      exact ⟨rfl, hf⟩
    · skip
      have h32 := nI_leF (a := q_nc R) (b := q_nc R) (by omega) (by omega) h32
      exact absurd h32 (by omega)
  | succ m ih =>
    intro c σ hc hf hw
    have hlt : c < q_nc R := by omega
    have u6 := (hf.i _ _ (kLow_ne rfl hx2)).trans hu.1
    obtain ⟨k1, k2, k3, k4⟩ := hu.2.2.2.2 c hlt
    obtain ⟨g1, g2, g3, g4, g5, g6⟩ := hR.2.2.2 c hlt
    have v2 : qx_mi σ (x + 2) c = bI (q_bar R c) := (hf.i _ _ (kLow_ne rfl (by omega))).trans k1
    have v4 : qx_mi σ (x + 4) c = nI (q_tf R c) := (hf.i _ _ (kLow_ne rfl (by omega))).trans k3
    have v5 : qx_mi σ (x + 5) c = nI (q_to R c) := (hf.i _ _ (kLow_ne rfl (by omega))).trans k4
    have hl := hR.2.1
    have uS0 : ∀ τ, ql kL2 σ0 τ → uS τ x R := fun τ f => ⟨hs.fr f, hx2, (f.r _ _).trans hx, fun i hi => (f.i _ _ (kLow_ne rfl (by omega))).trans (hu.2.2.1 i hi)⟩
    have hno : ¬ (q_bar R c = true ∧ q_tst R (q_w S p a q (some o) n) c = true) → q_brc R (q_w S p a q (some o) n) (m + 1) c = q_brc R (q_w S p a q (some o) n) m (c + 1) := by
      intro h1
      show (if _ then _ else _) = _
      rw [if_neg h1]
    have hyes : q_bar R c = true → q_tst R (q_w S p a q (some o) n) c = true → q_brc R (q_w S p a q (some o) n) (m + 1) c = true := by
      intro h1 h2
      show (if _ then _ else _) = _
      rw [if_pos ⟨h1, h2⟩]
    have t2 : ∀ h : q_tf R c ≠ q_to R c, ¬ ev (q_cd R) (q_w S p a q (some o) n) (q_tf R c) (q_to R c) = lN 0 → q_tst R (q_w S p a q (some o) n) c = true := fun h h0 => by
      have := (g6 (by omega)).b01 (w := q_w S p a q (some o) n)
      unfold q_tst
      rw [decide_eq_true (this.resolve_left h0)]
      exact Bool.or_true _
    have t3 : ∀ h : q_tf R c ≠ q_to R c, ev (q_cd R) (q_w S p a q (some o) n) (q_tf R c) (q_to R c) = lN 0 → q_tst R (q_w S p a q (some o) n) c = false := fun h h0 => by
      unfold q_tst
      rw [decide_eq_false h, h0]
      decide
    refine qy_wp_ok (c := CX2_isBarred) (cuts := [23]) vX2_isBarred wX2_isBarred 2000 23 _ _ _ ?_
    refine And.intro rfl (Exists.intro 7 (Exists.intro (some x) (And.intro rfl (And.intro ((hf.r _ _).trans hx) ?_))))
    refine And.intro (by rw [show qx_sh qc_T _ x = _ from ((hf.s _).trans hs.2.1)]; rfl) (Exists.intro 6 (Exists.intro (nI (q_nc R)) (And.intro rfl (And.intro u6 ?_))))
    refine And.intro (fun h32 => ?_) (fun h32 => ?_)
    · skip
      have h32 := nI_leT (a := q_nc R) (b := c) (by omega) (by omega) h32
      exact absurd h32 (by omega)
    · skip
      have h32 := nI_leF (a := q_nc R) (b := c) (by omega) (by omega) h32
      refine And.intro rfl (Exists.intro 7 (Exists.intro (some x) (And.intro rfl (And.intro ((hf.r _ _).trans hx) ?_))))
      refine And.intro (by rw [show qx_sh qc_T _ x = _ from ((hf.s _).trans hs.2.1)]; rfl) (Exists.intro (x + 2) (And.intro rfl ?_))
      refine Exists.intro (c) (Exists.intro (bI (q_bar R c)) (And.intro rfl (And.intro (Or.inr ⟨12, ((hf.s _).trans hs.2.2.2.1), by omega, by decide⟩) (And.intro v2 ?_))))
      refine And.intro (fun h45 => ?_) (fun h45 => ?_)
      · skip
        have h45 := bI_f h45
        refine Exists.intro (nI (c + 1)) (And.intro (nI_add _ _) ?_)
        have z := ih (c + 1) _ (by omega) hf hw
        rw [hno (by
          rintro ⟨y1, y2⟩
          first
            | exact absurd (y1.symm.trans h45) (by decide)
            | exact absurd (y2.symm.trans (t3 (by have := (g4 h45).2; omega) h74)) (by decide))]
        exact z
      · skip
        have h45 := bI_t h45
        refine And.intro rfl (Exists.intro 7 (Exists.intro (some x) (And.intro rfl (And.intro ((hf.r _ _).trans hx) ?_))))
        refine And.intro (by rw [show qx_sh qc_T _ x = _ from ((hf.s _).trans hs.2.1)]; rfl) (Exists.intro (x + 4) (And.intro rfl ?_))
        refine Exists.intro (c) (Exists.intro (nI (q_tf R c)) (And.intro rfl (And.intro ⟨12, ((hf.s _).trans hs.2.2.2.2.2.1), by omega, by decide⟩ (And.intro v4 ?_))))
        refine And.intro rfl (Exists.intro 7 (Exists.intro (some x) (And.intro rfl (And.intro ((hf.r _ _).trans hx) ?_))))
        refine And.intro (by rw [show qx_sh qc_T _ x = _ from ((hf.s _).trans hs.2.1)]; rfl) (Exists.intro (x + 5) (And.intro rfl ?_))
        refine Exists.intro (c) (Exists.intro (nI (q_to R c)) (And.intro rfl (And.intro ⟨12, ((hf.s _).trans hs.2.2.2.2.2.2), by omega, by decide⟩ (And.intro v5 ?_))))
        refine And.intro rfl (Exists.intro _ (And.intro (by decide) (qx_M_mono (c_workOut hR (uS0 _ hf) (hw0 _ hw) (g6 (g4 h45).2) g3) ?_)))
        rintro _ σ1 ⟨rfl, fσ1⟩
        have hf_σ1 : ql kL2 σ0 σ1 := hf.tr (fσ1.mn (by decide))
        have hw_σ1 : ∀ v, v < 12 → qx_mi σ1 158 v = q_wd S p a q (some o) n v := fun v hv => (fσ1.i 158 v rfl).trans (hw v hv)
        refine Exists.intro (lN 0) (And.intro rfl ?_)
        refine Exists.intro (lg_cmp (ev (q_cd R) (q_w S p a q (some o) n) (q_tf R c) (q_to R c)) (lN 0)) (And.intro rfl ?_)
        refine And.intro (fun h74 => ?_) (fun h74 => ?_)
        · skip
          have h74 := (lg_cmp_eq _ _).mp h74
          refine Exists.intro (nI (c + 1)) (And.intro (nI_add _ _) ?_)
          have z := ih (c + 1) _ (by omega) hf_σ1 hw_σ1
          rw [hno (by
            rintro ⟨y1, y2⟩
            first
              | exact absurd (y1.symm.trans h45) (by decide)
              | exact absurd (y2.symm.trans (t3 (by have := (g4 h45).2; omega) h74)) (by decide))]
          exact z
        · skip
          have h74 := fun z => h74 ((lg_cmp_eq _ _).mpr z)
          refine Exists.intro (nI 1) (And.intro rfl ?_)
          refine And.intro (Or.inr rfl) ?_
          exact ⟨by rw [hyes h45 (t2 (by have := (g4 h45).2; omega) h74)]; rfl, hf_σ1⟩
theorem c_isBarred {G : qx_G} {σ : qx_S} {S : qS} {rf : Option qR} {st : Nat} {p a q o n : Nat} (hW : cW σ S rf st) (hp : p < s_n S 1) (hq : q < 8) (ho : o < s_n S 1) : qx_M G qc_T 2 YX2_isBarred [.ref 156, .int (nI p), .int (nI a), .int (nI q), .int (nI o), .int (nI n)] σ (fun r s => r = some (.int (bI (q_br S rf p a q o n))) ∧ ql kL2 σ s) := by
  obtain ⟨g, hL, hr⟩ := hW
  cases rf with
  | none =>
    refine qx_M_in rfl (Nat.le_of_ble_eq_true rfl) ?_
    refine qy_wp_ok (c := CX2_isBarred) (cuts := []) vX2_isBarred wX2_isBarred 2000 0 _ _ _ ?_
    refine And.intro rfl (Exists.intro 7 (Exists.intro none (And.intro rfl (And.intro hr ?_))))
    refine Exists.intro (nI 0) (And.intro rfl ?_)
    refine And.intro (Or.inl rfl) ?_
    exact ⟨rfl, qf.rf⟩
  | some R =>
    obtain ⟨x, x1, x2, x3, x4, x5⟩ := hr
    refine qx_M_in rfl (Nat.le_of_ble_eq_true rfl) ?_
    refine qy_wp_ok (c := CX2_isBarred) (cuts := [23]) vX2_isBarred wX2_isBarred 2000 0 _ _ _ ?_
    refine And.intro rfl (Exists.intro 7 (Exists.intro (some x) (And.intro rfl (And.intro x1 ?_))))
    refine And.intro rfl (Exists.intro _ (And.intro (by decide) (qx_M_mono (c_tell1 g hL hp hq ho) ?_)))
    rintro _ σ1 ⟨rfl, fσ1, gσ1⟩
    refine Exists.intro (nI 0) (And.intro rfl ?_)
    refine qx_K_le (ls := [.ref 156, .retAddr 0, .retAddr 0, .retAddr 0, .retAddr 0, .retAddr 0, .int (nI 0)]) ⟨Or.inr rfl, Or.inl rfl, Or.inl rfl, Or.inl rfl, Or.inl rfl, Or.inl rfl, Or.inr rfl, trivial⟩ ?_
    exact l_barred x5 x1 x2.1 x3 x4 (q_nc R) 0 _ (by omega) (fσ1.mn (by decide)) gσ1
theorem c_brokenBy {G : qx_G} {σ : qx_S} {S : qS} {rf : Option qR} {e st : Nat} {kp : Bool} {lk : Nat → Nat → Nat → Int32} {p a q o n : Nat} (hW : cW σ S rf st) (hK : cK σ e kp (s_n S 1) lk) (hk : cH S rf kp lk) (hp : p < s_n S 1) (ha : a < 8) (hq : q < 8) (ho : o < s_n S 1) : qx_M G qc_T 3 YX2_brokenBy [.ref 156, .int (nI p), .int (nI a), .int (nI q), .int (nI o), .int (nI n)] σ (fun r s => r = some (.int (nI (q_bk S rf none p a q o n))) ∧ ql kLw σ s ∧ cK s e kp (s_n S 1) lk) := by
  have u1 : a = q → q_bk S rf none p a q o n = 1 := fun h => if_pos h.symm
  have u2 : ¬ a = q → S (10 + 5 * p + 3) = nI 0 → q_lk S rf p a q ≤ q_lk S rf p a a → q_bk S rf none p a q o n = 2 := fun h1 h2 h3 => by
    unfold q_bk
    rw [if_neg (fun z => h1 z.symm), if_pos ⟨h2, h3⟩]
  have u3 : ¬ a = q → (S (10 + 5 * p + 3) = nI 0 → ¬ q_lk S rf p a q ≤ q_lk S rf p a a) → q_bk S rf none p a q o n = if q_br S rf p a q o n = true then 3 else 0 := fun h1 h2 => by
    unfold q_bk
    rw [if_neg (fun z => h1 z.symm), if_neg (fun z => h2 z.1 z.2)]
  have hf : ql kLw σ σ := qf.rf
  refine qx_M_in rfl (Nat.le_of_ble_eq_true rfl) ?_
  refine qy_wp_ok (c := CX2_brokenBy) (cuts := []) vX2_brokenBy wX2_brokenBy 2000 0 _ _ _ ?_
  refine And.intro (fun h2 => ?_) (fun h2 => ?_)
  · skip
    have h2 := nI_neT (a := a) (b := q) (by omega) (by omega) h2
    refine And.intro rfl (Exists.intro 16 (And.intro rfl ?_))
    refine And.intro rfl (Exists.intro _ (And.intro (by decide) (qx_M_mono (c_onBench hW.1 hW.2.1.2.2.1 hp) ?_)))
    rintro _ _ ⟨rfl, rfl⟩
    refine And.intro (fun h15 => ?_) (fun h15 => ?_)
    · skip
      have h15 := bI_t h15
      refine And.intro rfl (Exists.intro _ (And.intro (by decide) (qx_M_mono (c_isBarred hW hp hq ho) ?_)))
      rintro _ σ1 ⟨rfl, fσ1⟩
      have hW_σ1 : cW σ1 S rf st := hW.fr fσ1 rfl rfl
      have hf_σ1 : ql kLw σ σ1 := hf.tr (fσ1.mn (by decide))
      have hK_σ1 : cK σ1 e kp (s_n S 1) lk := hK.fr fσ1 (fun _ => rfl) rfl rfl
      refine And.intro (fun h48 => ?_) (fun h48 => ?_)
      · skip
        have h48 := bI_f h48
        refine Exists.intro (nI 0) (And.intro rfl ?_)
        refine ⟨congrArg (fun z => some (Value.int z)) ?_, hf_σ1, hK_σ1⟩
        rw [u3 (by omega) (by first | exact fun y => absurd y (of_decide_eq_true h15) | exact fun _ => Int32.not_le.mpr h32), h48]
        rfl
      · skip
        have h48 := bI_t h48
        refine Exists.intro (nI 3) (And.intro rfl ?_)
        refine ⟨congrArg (fun z => some (Value.int z)) ?_, hf_σ1, hK_σ1⟩
        rw [u3 (by omega) (by first | exact fun y => absurd y (of_decide_eq_true h15) | exact fun _ => Int32.not_le.mpr h32), h48]
        rfl
    · skip
      have h15 := bI_f h15
      refine And.intro rfl (Exists.intro _ (And.intro (by decide) (qx_M_mono (c_likingOf (p := p) (a := a) (q := q) hW hK hk (by omega) (by omega) (by omega)) ?_)))
      rintro _ σ1 ⟨rfl, fσ1, kσ1⟩
      have hW_σ1 : cW σ1 S rf st := hW.fr fσ1 rfl rfl
      have hf_σ1 : ql kLw σ σ1 := hf.tr (fσ1.mn (by decide))
      have hK_σ1 : cK σ1 e kp (s_n S 1) lk := kσ1
      refine And.intro rfl (Exists.intro _ (And.intro (by decide) (qx_M_mono (c_likingOf (p := p) (a := a) (q := a) hW_σ1 hK_σ1 hk (by omega) (by omega) (by omega)) ?_)))
      rintro _ σ2 ⟨rfl, fσ2, kσ2⟩
      have hW_σ2 : cW σ2 S rf st := hW_σ1.fr fσ2 rfl rfl
      have hf_σ2 : ql kLw σ σ2 := hf_σ1.tr (fσ2.mn (by decide))
      have hK_σ2 : cK σ2 e kp (s_n S 1) lk := kσ2
      refine And.intro (fun h32 => ?_) (fun h32 => ?_)
      · skip
        refine And.intro rfl (Exists.intro _ (And.intro (by decide) (qx_M_mono (c_isBarred hW_σ2 hp hq ho) ?_)))
        rintro _ σ3 ⟨rfl, fσ3⟩
        have hW_σ3 : cW σ3 S rf st := hW_σ2.fr fσ3 rfl rfl
        have hf_σ3 : ql kLw σ σ3 := hf_σ2.tr (fσ3.mn (by decide))
        have hK_σ3 : cK σ3 e kp (s_n S 1) lk := hK_σ2.fr fσ3 (fun _ => rfl) rfl rfl
        refine And.intro (fun h48 => ?_) (fun h48 => ?_)
        · skip
          have h48 := bI_f h48
          refine Exists.intro (nI 0) (And.intro rfl ?_)
          refine ⟨congrArg (fun z => some (Value.int z)) ?_, hf_σ3, hK_σ3⟩
          rw [u3 (by omega) (by first | exact fun y => absurd y (of_decide_eq_true h15) | exact fun _ => Int32.not_le.mpr h32), h48]
          rfl
        · skip
          have h48 := bI_t h48
          refine Exists.intro (nI 3) (And.intro rfl ?_)
          refine ⟨congrArg (fun z => some (Value.int z)) ?_, hf_σ3, hK_σ3⟩
          rw [u3 (by omega) (by first | exact fun y => absurd y (of_decide_eq_true h15) | exact fun _ => Int32.not_le.mpr h32), h48]
          rfl
      · skip
        refine Exists.intro (nI 2) (And.intro rfl ?_)
        exact ⟨by rw [u2 (by omega) (Decidable.of_not_not (of_decide_eq_false h15)) (Int32.not_lt.mp h32)], hf_σ2, hK_σ2⟩
  · skip
    have h2 := nI_eqT (a := a) (b := q) (by omega) (by omega) h2
    refine Exists.intro (nI 1) (And.intro rfl ?_)
    exact ⟨by rw [u1 (by omega)], hf, hK⟩

