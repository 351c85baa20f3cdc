/-! THE REFERENCE: done -/
/-- as it was found, from the p-th on -/
def q_nf (S : qS) (n : Nat) : Bool := q_ex (fun p => decide (0 ≤ S (338 + p)) && decide (¬ nI (q_dg n p) = S (338 + p))) (s_n S 1) 0
theorem l_isFound {G : qx_G} {σ : qx_S} {S S' : qS} (g : gS S) (hs : sP S S') (hS : qx_mi σ 207 = S') {n : Nat} (hn : n < 1073741824) : ∀ (m p : Nat), m = s_n S 1 - p → p ≤ s_n S 1 →
    qx_K G qc_T 0 RX12 YX12_isFound 2 [.ref 197, .int (nI n), .int (nI p)] [] σ (qr (bI (!q_ex (fun p => decide (0 ≤ S (338 + p)) && decide (¬ nI (q_dg n p) = S (338 + p))) m p)) σ) := by
  have h10 := g.2.1.2
  have e1 : qx_mi σ 207 1 = nI (s_n S 1) := by rw [hS, hs 1 (by omega)]; exact g.2.1.1
  intro m
  induction m with
  | zero =>
    intro p hm hp
    refine qy_wp_ok (c := CX12_isFound) (cuts := [2]) vX12_isFound wX12_isFound 2000 2 _ _ _ ?_
    refine And.intro rfl (Exists.intro 207 (And.intro rfl ?_))
    refine Exists.intro (nI 1) (And.intro rfl ?_)
    refine Exists.intro (1) (Exists.intro (nI (s_n S 1)) (And.intro rfl (And.intro ⟨2788, rfl, by decide, by decide⟩ (And.intro e1 ?_))))
    refine And.intro (fun h9 => ?_) (fun h9 => ?_)
    · skip
      have h9 := nI_leT (a := s_n S 1) (b := p) (by omega) (by omega) h9
      refine Exists.intro (nI 1) (And.intro rfl ?_)
      refine And.intro (Or.inr rfl) ?_
      exact ⟨rfl, rfl⟩
    · skip
      have h9 := nI_leF (a := s_n S 1) (b := p) (by omega) (by omega) h9
      exact absurd h9 (by omega)
  | succ m ih =>
    intro p hm hp
    have ef : qx_mi σ 207 (338 + p) = S (338 + p) := by rw [hS, hs (338 + p) (by omega)]
    have ih := ih (p + 1) (by omega) (by omega)
    have hd := q_dg_lt n p
    refine qy_wp_ok (c := CX12_isFound) (cuts := [2]) vX12_isFound wX12_isFound 2000 2 _ _ _ ?_
    refine And.intro rfl (Exists.intro 207 (And.intro rfl ?_))
    refine Exists.intro (nI 1) (And.intro rfl ?_)
    refine Exists.intro (1) (Exists.intro (nI (s_n S 1)) (And.intro rfl (And.intro ⟨2788, rfl, by decide, by decide⟩ (And.intro e1 ?_))))
    refine And.intro (fun h9 => ?_) (fun h9 => ?_)
    · skip
      have h9 := nI_leT (a := s_n S 1) (b := p) (by omega) (by omega) h9
      exact absurd h9 (by omega)
    · skip
      have h9 := nI_leF (a := s_n S 1) (b := p) (by omega) (by omega) h9
      refine And.intro rfl (Exists.intro 207 (And.intro rfl ?_))
      refine Exists.intro (nI 338) (And.intro rfl ?_)
      refine Exists.intro (nI (338 + p)) (And.intro (nI_add _ _) ?_)
      refine Exists.intro (338 + p) (Exists.intro (S (338 + p)) (And.intro rfl (And.intro ⟨2788, rfl, by omega, by decide⟩ (And.intro ef ?_))))
      refine And.intro (fun h22 => ?_) (fun h22 => ?_)
      · skip
        refine Exists.intro (nI (p + 1)) (And.intro (nI_add _ _) ?_)
        rw [q_ex_f (by first | (show (decide _ && decide _) = false; rw [decide_eq_false (Int32.not_le.mpr h22)]; rfl) | (show (decide _ && decide (¬ _)) = false; rw [decide_eq_false (p := ¬ _) (fun z => z h43), Bool.and_false]))]
        exact ih
      · skip
        refine Exists.intro (nI 3) (And.intro rfl ?_)
        refine Exists.intro (nI (3 * p)) (And.intro (pk_mul _ _) ?_)
        refine Exists.intro (nI (n / 2 ^ (3 * p))) (And.intro (nI_shr (by omega) (by omega)) ?_)
        refine Exists.intro (nI 7) (And.intro rfl ?_)
        refine Exists.intro (nI (q_dg n p)) (And.intro ((nI_and _ _).trans (congrArg nI (q_dg_and _ _))) ?_)
        refine And.intro rfl (Exists.intro 207 (And.intro rfl ?_))
        refine Exists.intro (nI 338) (And.intro rfl ?_)
        refine Exists.intro (nI (338 + p)) (And.intro (nI_add _ _) ?_)
        refine Exists.intro (338 + p) (Exists.intro (S (338 + p)) (And.intro rfl (And.intro ⟨2788, rfl, by omega, by decide⟩ (And.intro ef ?_))))
        refine And.intro (fun h43 => ?_) (fun h43 => ?_)
        · skip
          refine Exists.intro (nI (p + 1)) (And.intro (nI_add _ _) ?_)
          rw [q_ex_f (by first | (show (decide _ && decide _) = false; rw [decide_eq_false (Int32.not_le.mpr h22)]; rfl) | (show (decide _ && decide (¬ _)) = false; rw [decide_eq_false (p := ¬ _) (fun z => z h43), Bool.and_false]))]
          exact ih
        · skip
          refine Exists.intro (nI 0) (And.intro rfl ?_)
          refine And.intro (Or.inl rfl) ?_
          rw [q_ex_t (by show (decide _ && decide _) = true; rw [decide_eq_true (Int32.not_lt.mp h22), decide_eq_true h43]; rfl)]
          exact ⟨rfl, rfl⟩
theorem m_isFound {G : qx_G} {σ : qx_S} {S S' : qS} (g : gS S) (hs : sP S S') (hS : qx_mi σ 207 = S') {n : Nat} (hn : n < 1073741824) : qx_M G qc_T 0 YX12_isFound [.ref 197, .int (nI n)] σ (qr (bI (!q_nf S n)) σ) := by
  refine qx_M_in rfl (Nat.le_of_ble_eq_true rfl) ?_
  refine qy_wp_ok (c := CX12_isFound) (cuts := [2]) vX12_isFound wX12_isFound 2000 0 _ _ _ ?_
  refine Exists.intro (nI 0) (And.intro rfl ?_)
  exact l_isFound g hs hS hn (s_n S 1) 0 rfl (by omega)
/-- the first that is as found, how many -/
def q_fm (S : qS) (B : q_B) : Nat → Nat → Nat × Nat → Nat × Nat
  | 0, _, x => x
  | m + 1, s, x => q_fm S B m (s + 1) (if q_nf S (q_co B s) = true then x else (if x.2 = 0 then s else x.1, x.2 + 1))
abbrev lW : List (Nat × Option Nat) := [(197, some 45), (219, none), (220, none), (221, none), (222, none), (223, none), (224, none), (205, none), (206, none), (197, some 18), (208, none), (197, some 24), (207, none), (197, some 46), (197, some 47)]
/-- all that the search keeps, with counts beside it -/
def qF (σ0 : qx_S) (S : qS) (rf : Option qR) (B : q_B) (σ : qx_S) : Prop := (∃ σ1, qJ σ1 S rf B σ) ∧ ql lW σ0 σ
theorem qJ.fr {σ0 σ σ' : qx_S} {S : qS} {rf : Option qR} {B : q_B} {l : List (Nat × Option Nat)} (h : qJ σ0 S rf B σ) (f : ql l σ σ') (hk : mxk l = true) (hl : pL l 197 45 = false) (r1 : ∀ j, pL l 219 j = false) (r2 : ∀ j, pL l 220 j = false) (r3 : ∀ j, pL l 221 j = false) (r4 : ∀ j, pL l 222 j = false) (r5 : ∀ j, pL l 223 j = false) (r6 : ∀ j, pL l 224 j = false) : qJ σ' S rf B σ' := by
  obtain ⟨⟨a, ⟨S', hX, hs⟩, b, c, d⟩, e, e2⟩ := h
  exact ⟨⟨qf.rf, ⟨S', hX.fr f hk, hs⟩, b.fr2 f hl r1 r2 r3 r4 r5 r6, c, d⟩, e, e2⟩
def qFm (σ : qx_S) (x : Nat × Nat) : Prop := qx_mi σ 197 47 = nI x.2 ∧ (0 < x.2 → qx_mi σ 197 46 = nI x.1)
theorem l_fm {G : qx_G} {Φ : qx_F} {σ0 : qx_S} {S : qS} {rf : Option qR} {B : q_B} (g : gS S) {bg dp : Nat} : ∀ (m s : Nat) (x : Nat × Nat) (σ : qx_S), m = B.1 - s → s ≤ B.1 → x.2 ≤ s → qF σ0 S rf B σ → qFm σ x →
    (∀ σ', qF σ0 S rf B σ' → qFm σ' (q_fm S B m s x) → qx_K G qc_T 8 RX12 YX12_findsDone 88 [.ref 197, .int (nI bg), .int (nI dp), .int (nI B.1), .retAddr 0] [] σ' Φ) →
    qx_K G qc_T 8 RX12 YX12_findsDone 29 [.ref 197, .int (nI bg), .int (nI dp), .int (nI B.1), .int (nI s)] [] σ Φ := by
  intro m
  induction m with
  | zero =>
    intro s x σ hm hs hx hF hm2 hc
    have hle := hF.1.choose_spec.2.1
    refine qy_wp_ok (c := CX12_findsDone) (cuts := [29, 88]) vX12_findsDone wX12_findsDone 2000 29 _ _ _ ?_
    refine And.intro (fun h32 => ?_) (fun h32 => ?_)
    · skip
      have h32 := nI_leT (a := B.1) (b := s) (by omega) (by omega) h32
      refine qx_K_le (ls := [.ref 197, .int (nI bg), .int (nI dp), .int (nI B.1), .retAddr 0]) ⟨Or.inr rfl, Or.inr rfl, Or.inr rfl, Or.inr rfl, Or.inl rfl, trivial⟩ ?_
      exact hc _ hF hm2
    · skip
      have h32 := nI_leF (a := B.1) (b := s) (by omega) (by omega) h32
      exact absurd h32 (by omega)
  | succ m ih =>
    intro s x σ hm hs hx hF hm2 hc
    obtain ⟨⟨σ1', hJ⟩, hf⟩ := id hF
    have hle := hJ.2.1
    obtain ⟨-, ⟨S', hX, hsp⟩, hB, h0, hv⟩ := hJ.1
    have hlt : s < B.1 := by omega
    have hvs := hv s hlt
    obtain ⟨x1, x2⟩ := x
    have hx : x2 ≤ s := hx
    have m47 : qx_mi σ 197 47 = nI x2 := hm2.1
    cases hnf : q_nf S (q_co B s) with
    | true =>
      have ec : q_fm S B (m + 1) s (x1, x2) = q_fm S B m (s + 1) (x1, x2) := by
        show q_fm S B m (s + 1) (if q_nf S (q_co B s) = true then (x1, x2) else _) = _
        rw [if_pos hnf]
      rw [ec] at hc
      have nx := ih (s + 1) (x1, x2) σ (by omega) (by omega) (Nat.le_succ_of_le hx) hF hm2 hc
      refine qy_wp_ok (c := CX12_findsDone) (cuts := [29, 88, 52]) vX12_findsDone wX12_findsDone 2000 29 _ _ _ ?_
      refine And.intro (fun h32 => ?_) (fun h32 => ?_)
      · skip
        have h32 := nI_leT (a := B.1) (b := s) (by omega) (by omega) h32
        exact absurd h32 (by omega)
      · skip
        have h32 := nI_leF (a := B.1) (b := s) (by omega) (by omega) h32
        refine And.intro rfl (Exists.intro 219 (And.intro rfl ?_))
        refine Exists.intro (s) (Exists.intro (nI (q_co B s)) (And.intro rfl (And.intro ⟨2001, rfl, by omega, by decide⟩ (And.intro ((hB.2.2.1 s hlt).1) ?_))))
        refine And.intro rfl (Exists.intro _ (And.intro (by decide) (qx_M_mono (m_isFound g hsp hX.1 hvs.1) ?_)))
        rintro _ _ ⟨rfl, rfl⟩
        refine And.intro (fun h46 => ?_) (fun h46 => ?_)
        · skip
          have h46 := bI_t h46
          exact absurd (h46.symm.trans ((congrArg (fun z => !z) hnf))) (by decide)
        · skip
          have h46 := bI_f h46
          refine Exists.intro (nI (s + 1)) (And.intro (nI_add _ _) ?_)
          exact nx
    | false =>
      have ec : q_fm S B (m + 1) s (x1, x2) = q_fm S B m (s + 1) (if x2 = 0 then s else x1, x2 + 1) := by
        show q_fm S B m (s + 1) (if q_nf S (q_co B s) = true then (x1, x2) else (if x2 = 0 then s else x1, x2 + 1)) = _
        rw [if_neg (by rw [hnf]; decide)]
      rw [ec] at hc
      have fin : ∀ σ', ql [(197, some 46), (197, some 47)] σ σ' → qFm σ' (if x2 = 0 then s else x1, x2 + 1) → qx_K G qc_T 8 RX12 YX12_findsDone 29 [.ref 197, .int (nI bg), .int (nI dp), .int (nI B.1), .int (nI (s + 1))] [] σ' Φ := by
        intro σ' f q
        exact ih (s + 1) _ σ' (by omega) (by omega) (Nat.succ_le_succ hx) ⟨⟨_, hJ.fr f (by decide) rfl (fun _ => rfl) (fun _ => rfl) (fun _ => rfl) (fun _ => rfl) (fun _ => rfl) (fun _ => rfl)⟩, hf.tr (f.mn (by decide))⟩ q hc
      rcases Nat.eq_zero_or_pos x2 with z | z
      · subst z
        refine qy_wp_ok (c := CX12_findsDone) (cuts := [29, 88]) vX12_findsDone wX12_findsDone 2000 29 _ _ _ ?_
        refine And.intro (fun h32 => ?_) (fun h32 => ?_)
        · skip
          have h32 := nI_leT (a := B.1) (b := s) (by omega) (by omega) h32
          exact absurd h32 (by omega)
        · skip
          have h32 := nI_leF (a := B.1) (b := s) (by omega) (by omega) h32
          refine And.intro rfl (Exists.intro 219 (And.intro rfl ?_))
          refine Exists.intro (s) (Exists.intro (nI (q_co B s)) (And.intro rfl (And.intro ⟨2001, rfl, by omega, by decide⟩ (And.intro ((hB.2.2.1 s hlt).1) ?_))))
          refine And.intro rfl (Exists.intro _ (And.intro (by decide) (qx_M_mono (m_isFound g hsp hX.1 hvs.1) ?_)))
          rintro _ _ ⟨rfl, rfl⟩
          refine And.intro (fun h46 => ?_) (fun h46 => ?_)
          · skip
            have h46 := bI_t h46
            refine And.intro rfl (Exists.intro 47 (Exists.intro (nI 0) (And.intro rfl (And.intro m47 ?_))))
            refine And.intro (fun h57 => ?_) (fun h57 => ?_)
            · skip
              exact absurd (by decide) h57
            · skip
              obtain ⟨σ1, eσ1⟩ : ∃ zs, zs = (qx_wi σ 197 46 (nI s)) := ⟨_, rfl⟩
              have fσ1 := qn_wif eσ1
              refine And.intro rfl (Exists.intro 46 (Exists.intro σ1 (And.intro rfl (And.intro eσ1.symm ?_))))
              refine And.intro rfl (Exists.intro 47 (Exists.intro (nI 0) (And.intro rfl (And.intro ((qn_ne eσ1 (Or.inr (by decide))).trans (m47)) ?_))))
              refine Exists.intro (nI 1) (And.intro rfl ?_)
              refine Exists.intro (nI 1) (And.intro rfl ?_)
              obtain ⟨σ2, eσ2⟩ : ∃ zs, zs = (qx_wi σ1 197 47 (nI 1)) := ⟨_, rfl⟩
              have fσ2 := qn_wif eσ2
              refine And.intro rfl (Exists.intro 47 (Exists.intro σ2 (And.intro rfl (And.intro eσ2.symm ?_))))
              refine Exists.intro (nI (s + 1)) (And.intro (nI_add _ _) ?_)
              exact fin _ ((fσ1.mn (by decide)).tr (fσ2.mn (by decide))) ⟨qn_eq eσ2, fun _ => (fσ2.i 197 46 rfl).trans (qn_eq eσ1)⟩
          · skip
            have h46 := bI_f h46
            exact absurd (h46.symm.trans ((congrArg (fun z => !z) hnf))) (by decide)
      · have m46 : qx_mi σ 197 46 = nI x1 := hm2.2 z
        refine qy_wp_ok (c := CX12_findsDone) (cuts := [29, 88]) vX12_findsDone wX12_findsDone 2000 29 _ _ _ ?_
        refine And.intro (fun h32 => ?_) (fun h32 => ?_)
        · skip
          have h32 := nI_leT (a := B.1) (b := s) (by omega) (by omega) h32
          exact absurd h32 (by omega)
        · skip
          have h32 := nI_leF (a := B.1) (b := s) (by omega) (by omega) h32
          refine And.intro rfl (Exists.intro 219 (And.intro rfl ?_))
          refine Exists.intro (s) (Exists.intro (nI (q_co B s)) (And.intro rfl (And.intro ⟨2001, rfl, by omega, by decide⟩ (And.intro ((hB.2.2.1 s hlt).1) ?_))))
          refine And.intro rfl (Exists.intro _ (And.intro (by decide) (qx_M_mono (m_isFound g hsp hX.1 hvs.1) ?_)))
          rintro _ _ ⟨rfl, rfl⟩
          refine And.intro (fun h46 => ?_) (fun h46 => ?_)
          · skip
            have h46 := bI_t h46
            refine And.intro rfl (Exists.intro 47 (Exists.intro (nI x2) (And.intro rfl (And.intro m47 ?_))))
            refine And.intro (fun h57 => ?_) (fun h57 => ?_)
            · skip
              have h57 := nI_neT (a := x2) (b := 0) (by omega) (by decide) h57
              refine And.intro rfl (Exists.intro 46 (Exists.intro (nI x1) (And.intro rfl (And.intro m46 ?_))))
              obtain ⟨σ1, eσ1⟩ : ∃ zs, zs = (qx_wi σ 197 46 (nI x1)) := ⟨_, rfl⟩
              have fσ1 := qn_wif eσ1
              refine And.intro rfl (Exists.intro 46 (Exists.intro σ1 (And.intro rfl (And.intro eσ1.symm ?_))))
              refine And.intro rfl (Exists.intro 47 (Exists.intro (nI x2) (And.intro rfl (And.intro ((qn_ne eσ1 (Or.inr (by decide))).trans (m47)) ?_))))
              refine Exists.intro (nI 1) (And.intro rfl ?_)
              refine Exists.intro (nI (x2 + 1)) (And.intro (nI_add _ _) ?_)
              obtain ⟨σ2, eσ2⟩ : ∃ zs, zs = (qx_wi σ1 197 47 (nI (x2 + 1))) := ⟨_, rfl⟩
              have fσ2 := qn_wif eσ2
              refine And.intro rfl (Exists.intro 47 (Exists.intro σ2 (And.intro rfl (And.intro eσ2.symm ?_))))
              refine Exists.intro (nI (s + 1)) (And.intro (nI_add _ _) ?_)
              exact fin _ ((fσ1.mn (by decide)).tr (fσ2.mn (by decide))) ⟨qn_eq eσ2, fun _ => ((fσ2.i 197 46 rfl).trans (qn_eq eσ1)).trans (congrArg nI (if_neg (by omega)).symm)⟩
            · skip
              have h57 := nI_eqT (a := x2) (b := 0) (by omega) (by decide) h57
              exact absurd h57 (by omega)
          · skip
            have h46 := bI_f h46
            exact absurd (h46.symm.trans ((congrArg (fun z => !z) hnf))) (by decide)
theorem q_ld_mono (S : qS) (rf : Option qR) (k a b : Nat) (B : q_B) : B.1 ≤ (q_ld S rf k a b B).1.1 := by
  unfold q_ld
  split
  · exact Nat.le_refl _
  · split
    · show B.1 ≤ (q_wu B k _).1
      rw [q_wu_1]
      exact Nat.le_refl _
    · split
      · exact Nat.le_refl _
      · show B.1 ≤ (q_wu _ k _).1
        rw [q_wu_1]
        exact Nat.le_succ _
theorem q_la_mono (S : qS) (rf : Option qR) (k : Nat) (B : q_B) : B.1 ≤ (q_la S rf k B).1.1 :=
  q_lp_P (P := fun B' => B.1 ≤ B'.1) (Q := fun _ => True) (fun a B1 _ h => q_lp_P (P := fun B' => B.1 ≤ B'.1) (Q := fun _ => True) (fun b B2 _ h2 => Nat.le_trans h2 (q_ld_mono S rf k a b B2)) _ _ _ (fun _ _ _ => trivial) h) _ _ _ (fun _ _ _ => trivial) (Nat.le_refl _)
theorem l_fl {G : qx_G} {Φ : qx_F} {σ0 : qx_S} {S : qS} {rf : Option qR} (g : gS S) {bg dp en : Nat} (hen : en ≤ 2000) : ∀ (m s : Nat) (B : q_B) (σ : qx_S), m = en - s → s ≤ en → en ≤ B.1 → qF σ0 S rf B σ →
    (∀ s' B', q_lp (q_la S rf) m s B = (B', none) → qF σ0 S rf B' s' → en ≤ B'.1 → qx_K G qc_T 8 RX12 YX12_findsDone 124 [.ref 197, .retAddr 0, .int (nI dp), .int (nI en), .retAddr 0] [] s' Φ) →
    (∀ s' B' r, q_lp (q_la S rf) m s B = (B', some r) → qF σ0 S rf B' s' → Φ (some (.int (-3))) s') →
    qx_K G qc_T 8 RX12 YX12_findsDone 100 [.ref 197, .retAddr 0, .int (nI dp), .int (nI en), .int (nI s)] [] σ Φ := by
  intro m
  induction m with
  | zero =>
    intro s B σ hm hs he hF hno hre
    refine qy_wp_ok (c := CX12_findsDone) (cuts := [100, 124]) vX12_findsDone wX12_findsDone 2000 100 _ _ _ ?_
    refine And.intro (fun h103 => ?_) (fun h103 => ?_)
    · skip
      have h103 := nI_leT (a := en) (b := s) (by omega) (by omega) h103
      refine qx_K_le (ls := [.ref 197, .retAddr 0, .int (nI dp), .int (nI en), .retAddr 0]) ⟨Or.inr rfl, Or.inr rfl, Or.inr rfl, Or.inr rfl, Or.inl rfl, trivial⟩ ?_
      exact hno _ _ rfl hF he
    · skip
      have h103 := nI_leF (a := en) (b := s) (by omega) (by omega) h103
      exact absurd h103 (by omega)
  | succ m ih =>
    intro s B σ hm hs he hF hno hre
    obtain ⟨⟨σ1', hJ⟩, hf⟩ := hF
    have hJ' : qJ σ S rf B σ := hJ.fr (l := []) qf.rf rfl rfl (fun _ => rfl) (fun _ => rfl) (fun _ => rfl) (fun _ => rfl) (fun _ => rfl) (fun _ => rfl)
    have ml := m_leads (G := G) (σ0 := σ) g hJ' (k := s) (by omega)
    obtain ⟨y, hy⟩ : ∃ y, q_la S rf s B = y := ⟨_, rfl⟩
    obtain ⟨B', o⟩ := y
    rw [hy] at ml
    have hmono : B.1 ≤ B'.1 := by
      have := q_la_mono S rf s B
      rw [hy] at this
      exact this
    cases o with
    | none =>
      rw [q_lp_n hy] at hno hre
      refine qy_wp_ok (c := CX12_findsDone) (cuts := [100, 124]) vX12_findsDone wX12_findsDone 2000 100 _ _ _ ?_
      refine And.intro (fun h103 => ?_) (fun h103 => ?_)
      · skip
        have h103 := nI_leT (a := en) (b := s) (by omega) (by omega) h103
        exact absurd h103 (by omega)
      · skip
        have h103 := nI_leF (a := en) (b := s) (by omega) (by omega) h103
        refine And.intro rfl (Exists.intro _ (And.intro (by decide) (qx_M_mono (ml) ?_)))
        rintro _ σ1 ⟨rfl, fσ1⟩
        refine And.intro (fun h112 => ?_) (fun h112 => ?_)
        · skip
          have h112 := bI_t h112
          refine Exists.intro (nI (s + 1)) (And.intro (nI_add _ _) ?_)
          exact ih (s + 1) B' _ (by omega) (by omega) (by omega) ⟨⟨_, fσ1⟩, hf.tr (fσ1.1.1.mn (by decide))⟩ hno hre
        · skip
          have h112 := bI_f h112
          exact absurd (show true = false from h112) (by decide)
    | some r =>
      rw [q_lp_r hy] at hno hre
      refine qy_wp_ok (c := CX12_findsDone) (cuts := [100, 124]) vX12_findsDone wX12_findsDone 2000 100 _ _ _ ?_
      refine And.intro (fun h103 => ?_) (fun h103 => ?_)
      · skip
        have h103 := nI_leT (a := en) (b := s) (by omega) (by omega) h103
        exact absurd h103 (by omega)
      · skip
        have h103 := nI_leF (a := en) (b := s) (by omega) (by omega) h103
        refine And.intro rfl (Exists.intro _ (And.intro (by decide) (qx_M_mono (ml) ?_)))
        rintro _ σ1 ⟨rfl, fσ1⟩
        refine And.intro (fun h112 => ?_) (fun h112 => ?_)
        · skip
          have h112 := bI_t h112
          exact absurd (show false = true from h112) (by decide)
        · skip
          have h112 := bI_f h112
          refine Exists.intro ((-3)) (And.intro (by decide) ?_)
          exact hre _ _ _ rfl ⟨⟨_, fσ1⟩, hf.tr (fσ1.1.1.mn (by decide))⟩
/-- from level dp on, whose situations begin at bg: the book, the answer, the first that is as found, how many -/
def q_fd (S : qS) (rf : Option qR) : Nat → Nat → Nat → q_B → q_B × Int32 × Nat × Nat
  | 0, _, _, B => (B, -2, 0, 0)
  | m + 1, dp, bg, B => if bg < B.1 then (if 0 < (q_fm S B (B.1 - bg) bg (0, 0)).2 then (B, nI dp, q_fm S B (B.1 - bg) bg (0, 0)) else if (q_lp (q_la S rf) (B.1 - bg) bg B).2.isSome = true then ((q_lp (q_la S rf) (B.1 - bg) bg B).1, -3, 0, 0) else q_fd S rf m (dp + 1) B.1 (q_lp (q_la S rf) (B.1 - bg) bg B).1) else (B, -2, 0, 0)
theorem q_fm_lt (S : qS) (B : q_B) : ∀ (m s : Nat) (x : Nat × Nat), s + m ≤ B.1 → (0 < x.2 → x.1 < B.1) → (0 < (q_fm S B m s x).2 → (q_fm S B m s x).1 < B.1)
  | 0, _, _, _, h => h
  | m + 1, s, x, hs, h => by
    refine q_fm_lt S B m (s + 1) _ (by omega) ?_
    split
    · exact h
    · intro _
      show (if x.2 = 0 then s else x.1) < B.1
      split
      · omega
      · exact h (by omega)
/-- what findsDone leaves -/
def qD (σ0 : qx_S) (S : qS) (rf : Option qR) (y : q_B × Int32 × Nat × Nat) (σ : qx_S) : Prop := qF σ0 S rf y.1 σ ∧ (y.2.1 < 0 ∨ (qFm σ y.2.2 ∧ 0 < y.2.2.2 ∧ y.2.2.1 < y.1.1 ∧ y.2.2.2 ≤ 2001 ∧ ∃ d, d ≤ 2001 ∧ y.2.1 = nI d))
theorem q_fm_le (S : qS) (B : q_B) : ∀ (m s : Nat) (x : Nat × Nat), (q_fm S B m s x).2 ≤ x.2 + m
  | 0, _, _ => Nat.le_refl _
  | m + 1, s, x => by
    refine Nat.le_trans (q_fm_le S B m (s + 1) _) ?_
    split
    · omega
    · show x.2 + 1 + m ≤ _
      omega
theorem l_fd {G : qx_G} {σ0 : qx_S} {S : qS} {rf : Option qR} (g : gS S) : ∀ (m dp bg : Nat) (B : q_B) (σ : qx_S), 2001 ≤ m + bg → bg ≤ B.1 → dp ≤ bg → qF σ0 S rf B σ →
    qx_K G qc_T 8 RX12 YX12_findsDone 8 [.ref 197, .int (nI bg), .int (nI dp), .retAddr 0, .retAddr 0] [] σ (fun r s => r = some (.int (q_fd S rf m dp bg B).2.1) ∧ qD σ0 S rf (q_fd S rf m dp bg B) s) := by
  intro m
  induction m with
  | zero =>
    intro dp bg B σ hm hb hd hF
    have := hF.1.choose_spec.2.1
    omega
  | succ m ih =>
    intro dp bg B σ hm hb hd hF
    have hle := hF.1.choose_spec.2.1
    have ez : qx_mi σ 197 45 = nI B.1 := hF.1.choose_spec.1.2.2.1.2.1
    have eq1 : q_fd S rf (m + 1) dp bg B = if bg < B.1 then (if 0 < (q_fm S B (B.1 - bg) bg (0, 0)).2 then (B, nI dp, q_fm S B (B.1 - bg) bg (0, 0)) else if (q_lp (q_la S rf) (B.1 - bg) bg B).2.isSome = true then ((q_lp (q_la S rf) (B.1 - bg) bg B).1, -3, 0, 0) else q_fd S rf m (dp + 1) B.1 (q_lp (q_la S rf) (B.1 - bg) bg B).1) else (B, -2, 0, 0) := rfl
    rcases Nat.lt_or_ge bg B.1 with hlt | hge
    · rw [if_pos hlt] at eq1
      have key : ∀ σ', qF σ0 S rf B σ' → qFm σ' (q_fm S B (B.1 - bg) bg (0, 0)) → qx_K G qc_T 8 RX12 YX12_findsDone 88 [.ref 197, .int (nI bg), .int (nI dp), .int (nI B.1), .retAddr 0] [] σ' (fun r s => r = some (.int (q_fd S rf (m + 1) dp bg B).2.1) ∧ qD σ0 S rf (q_fd S rf (m + 1) dp bg B) s) := by
        intro σ' hF' hm'
        have hl1 := q_fm_le S B (B.1 - bg) bg (0, 0)
        have hl2 : (q_fm S B (B.1 - bg) bg (0, 0)).2 ≤ 2001 := by
          have : (q_fm S B (B.1 - bg) bg (0, 0)).2 ≤ 0 + (B.1 - bg) := hl1
          omega
        have m47 := hm'.1
        have lead : (q_fm S B (B.1 - bg) bg (0, 0)).2 ≤ 0 → qx_K G qc_T 8 RX12 YX12_findsDone 100 [.ref 197, .retAddr 0, .int (nI dp), .int (nI B.1), .int (nI bg)] [] σ' (fun r s => r = some (.int (q_fd S rf (m + 1) dp bg B).2.1) ∧ qD σ0 S rf (q_fd S rf (m + 1) dp bg B) s) := by
          intro hz
          rw [if_neg (by omega)] at eq1
          rw [eq1]
          refine l_fl (bg := bg) g hle (B.1 - bg) bg B σ' rfl hb (Nat.le_refl _) hF' ?_ ?_
          · intro s' B' e hF2 hB'
            rw [e]
            show qx_K G qc_T 8 RX12 YX12_findsDone 124 [.ref 197, .retAddr 0, .int (nI dp), .int (nI B.1), .retAddr 0] [] s' (fun r s => r = some (.int (q_fd S rf m (dp + 1) B.1 B').2.1) ∧ qD σ0 S rf (q_fd S rf m (dp + 1) B.1 B') s)
            have nx := ih (dp + 1) B.1 B' s' (by omega) hB' (by omega) hF2
            refine qy_wp_ok (c := CX12_findsDone) (cuts := [124, 8]) vX12_findsDone wX12_findsDone 2000 124 _ _ _ ?_
            refine Exists.intro (nI (dp + 1)) (And.intro (nI_add _ _) ?_)
            refine qx_K_le (ls := [.ref 197, .int (nI B.1), .int (nI (dp + 1)), .retAddr 0, .retAddr 0]) ⟨Or.inr rfl, Or.inr rfl, Or.inr rfl, Or.inl rfl, Or.inr rfl, trivial⟩ ?_
            exact nx
          · intro s' B' r e hF2
            rw [e]
            exact ⟨rfl, hF2, Or.inl (show (-3 : Int32) < 0 by decide)⟩
        refine qy_wp_ok (c := CX12_findsDone) (cuts := [88, 100]) vX12_findsDone wX12_findsDone 2000 88 _ _ _ ?_
        refine And.intro rfl (Exists.intro 47 (Exists.intro (nI ((q_fm S B (B.1 - bg) bg (0, 0)).2)) (And.intro rfl (And.intro m47 ?_))))
        refine And.intro (fun h92 => ?_) (fun h92 => ?_)
        · skip
          have h92 := nI_leT (a := (q_fm S B (B.1 - bg) bg (0, 0)).2) (b := 0) (by omega) (by decide) h92
          refine qx_K_le (ls := [.ref 197, .retAddr 0, .int (nI dp), .int (nI B.1), .int (nI bg)]) ⟨Or.inr rfl, Or.inl rfl, Or.inr rfl, Or.inr rfl, Or.inr rfl, trivial⟩ ?_
          exact lead h92
        · skip
          have h92 := nI_leF (a := (q_fm S B (B.1 - bg) bg (0, 0)).2) (b := 0) (by omega) (by decide) h92
          rw [eq1, if_pos (by omega)]
          exact ⟨rfl, hF', Or.inr ⟨hm', h92, q_fm_lt S B _ _ (0, 0) (by omega) (fun z => absurd z (by decide)) h92, hl2, dp, by omega, rfl⟩⟩
      refine qy_wp_ok (c := CX12_findsDone) (cuts := [8, 29]) vX12_findsDone wX12_findsDone 2000 8 _ _ _ ?_
      refine And.intro rfl (Exists.intro 45 (Exists.intro (nI B.1) (And.intro rfl (And.intro ez ?_))))
      refine And.intro (fun h13 => ?_) (fun h13 => ?_)
      · skip
        have h13 := nI_leT (a := B.1) (b := bg) (by omega) (by omega) h13
        exact absurd h13 (by omega)
      · skip
        have h13 := nI_leF (a := B.1) (b := bg) (by omega) (by omega) h13
        refine And.intro rfl (Exists.intro 45 (Exists.intro (nI B.1) (And.intro rfl (And.intro ez ?_))))
        refine Exists.intro (nI 0) (And.intro rfl ?_)
        obtain ⟨σ1, eσ1⟩ : ∃ zs, zs = (qx_wi σ 197 47 (nI 0)) := ⟨_, rfl⟩
        have fσ1 := qn_wif eσ1
        refine And.intro rfl (Exists.intro 47 (Exists.intro σ1 (And.intro rfl (And.intro eσ1.symm ?_))))
        refine l_fm g (B.1 - bg) bg (0, 0) _ rfl hb (by omega) ⟨⟨_, hF.1.choose_spec.fr fσ1 (by decide) rfl (fun _ => rfl) (fun _ => rfl) (fun _ => rfl) (fun _ => rfl) (fun _ => rfl) (fun _ => rfl)⟩, hF.2.tr (fσ1.mn (by decide))⟩ ⟨qn_eq eσ1, fun z => absurd z (by decide)⟩ key
    · rw [if_neg (by omega)] at eq1
      rw [eq1]
      refine qy_wp_ok (c := CX12_findsDone) (cuts := [8]) vX12_findsDone wX12_findsDone 2000 8 _ _ _ ?_
      refine And.intro rfl (Exists.intro 45 (Exists.intro (nI B.1) (And.intro rfl (And.intro ez ?_))))
      refine And.intro (fun h13 => ?_) (fun h13 => ?_)
      · skip
        have h13 := nI_leT (a := B.1) (b := bg) (by omega) (by omega) h13
        refine Exists.intro ((-2)) (And.intro (by decide) ?_)
        exact ⟨rfl, hF, Or.inl (show (-2 : Int32) < 0 by decide)⟩
      · skip
        have h13 := nI_leF (a := B.1) (b := bg) (by omega) (by omega) h13
        exact absurd h13 (by omega)
theorem m_findsDone {G : qx_G} {σ : qx_S} {S : qS} {rf : Option qR} (hX : mX σ S rf none) (g : gS S) : qx_M G qc_T 8 YX12_findsDone [.ref 197] σ (fun r s => r = some (.int (q_fd S rf 2001 0 0 (q_B0 (q_en (s_at S) (s_n S 1)))).2.1) ∧ qD σ S rf (q_fd S rf 2001 0 0 (q_B0 (q_en (s_at S) (s_n S 1)))) s) := by
  refine qx_M_in rfl (Nat.le_of_ble_eq_true rfl) ?_
  refine qy_wp_ok (c := CX12_findsDone) (cuts := [8]) vX12_findsDone wX12_findsDone 2000 0 _ _ _ ?_
  refine And.intro rfl (Exists.intro _ (And.intro (by decide) (qx_M_mono (m_begins hX.1 g) ?_)))
  rintro _ σ1 ⟨rfl, fσ1, aσ1⟩
  refine Exists.intro (nI 0) (And.intro rfl ?_)
  refine Exists.intro (nI 0) (And.intro rfl ?_)
  refine l_fd g 2001 0 0 _ _ (by omega) (by omega) (by omega) ⟨⟨σ, qI.first hX g fσ1 aσ1, show 1 ≤ 2000 by decide, fun i hi => ?_⟩, fσ1.mn (by decide)⟩
  have hi' : i < 1 := hi
  obtain rfl : i = 0 := by omega
  exact show 1 ≤ 2 by decide
/-- all at home -/
abbrev q_ho (S : qS) : qS := q_pl S (fun p => S (10 + 5 * p + 2)) (s_n S 1)
/-- homes are places -/
def gH (S : qS) : Prop := ∀ p, p < s_n S 1 → S (10 + 5 * p + 2) = nI (s_n S (10 + 5 * p + 2)) ∧ s_n S (10 + 5 * p + 2) < s_n S 0
theorem q_ho_g {S : qS} (g : gS S) (h : gH S) : gS (q_ho S) := by
  have h10 := g.2.1.2
  have s : sA S (q_ho S) := fun i hi => if_neg (by omega)
  have n0 := s.n (i := 0) (by omega)
  have n1 := s.n (i := 1) (by omega)
  refine ⟨⟨by rw [s 0 (by omega), n0]; exact g.1.1, by rw [n0]; exact g.1.2⟩, ⟨by rw [s 1 (by omega), n1]; exact g.2.1.1, by rw [n1]; exact g.2.1.2⟩, fun p hp => ?_⟩
  rw [n1] at hp
  have e : q_ho S (10 + 5 * p) = S (10 + 5 * p + 2) := by
    have : q_ho S (10 + 5 * p) = S (10 + 5 * ((10 + 5 * p - 10) / 5) + 2) := if_pos (by omega)
    rw [this]
    congr 1
    omega
  have e2 : s_n (q_ho S) (10 + 5 * p) = s_n S (10 + 5 * p + 2) := by unfold s_n; rw [e]
  rw [e2, e, n0]
  exact h p hp
def q_dz (y : q_B × Int32 × Nat × Nat) (w : Nat) : Int32 := if y.2.1 < 0 ∨ w = 0 then y.2.1 else if w = 1 then nI y.2.2.2 else if q_wy y.1 y.2.2.1 = 1 then nI 1 else nI 0
abbrev q_hd (S : qS) (rf : Option qR) : q_B × Int32 × Nat × Nat := q_fd (q_ho S) rf 2001 0 0 (q_B0 (q_en (s_at (q_ho S)) (s_n S 1)))
abbrev lU : List (Nat × Option Nat) := [(197, some 45), (219, none), (220, none), (221, none), (222, none), (223, none), (224, none), (205, none), (206, none), (197, some 18), (208, none), (197, some 24), (207, none), (197, some 46), (197, some 47), (210, none)]
theorem m_done_no {G : qx_G} {σ : qx_S} {S : qS} (hS : qx_mi σ 207 = S) {pl : Nat} (e0 : S 0 = nI pl) (h8 : pl ≤ 8) {w : Int32} (hb : (decide (0 < pl) && q_in64 w.toInt64 (lN 0) (lN 2)) = false) : qx_M G qc_T 9 YX12_done [.ref 197, .int w] σ (qr (-1) σ) := by
  refine qx_M_in rfl (Nat.le_of_ble_eq_true rfl) ?_
  refine qy_wp_ok (c := CX12_done) (cuts := [21]) vX12_done wX12_done 2000 0 _ _ _ ?_
  refine And.intro rfl (Exists.intro _ (And.intro (by decide) (qx_M_mono (m_isCountry hS e0 h8) ?_)))
  rintro _ _ ⟨rfl, rfl⟩
  refine And.intro (fun h4 => ?_) (fun h4 => ?_)
  · skip
    have h4 := bI_f h4
    refine Exists.intro ((-1)) (And.intro (by decide) ?_)
    exact ⟨rfl, rfl⟩
  · skip
    have h4 := bI_t h4
    refine Exists.intro w.toInt64 (And.intro rfl ?_)
    refine Exists.intro (lN 0) (And.intro rfl ?_)
    refine Exists.intro (lN 2) (And.intro (by decide) ?_)
    refine Exists.intro _ (And.intro (by decide) (qx_M_mono (m_in (v := w.toInt64) (l := (lN 0)) (h := (lN 2))) ?_))
    rintro _ _ ⟨rfl, rfl⟩
    refine And.intro (fun h16 => ?_) (fun h16 => ?_)
    · skip
      have h16 := bI_t h16
      rw [h4, h16] at hb
      exact absurd hb.symm Bool.false_ne_true
    · skip
      have h16 := bI_f h16
      refine Exists.intro ((-1)) (And.intro (by decide) ?_)
      exact ⟨rfl, rfl⟩
theorem l_done {G : qx_G} {Φ : qx_F} {σ0 : qx_S} {S : qS} {pe : Nat} {w : Int32} (hpe : pe ≤ 10) (e1 : S 1 = nI pe) (hc : ∀ s, ql [(207, none)] σ0 s → qx_mi s 207 = q_pl S (fun p => S (10 + 5 * p + 2)) pe → qx_K G qc_T 9 RX12 YX12_done 60 [.ref 197, .int w, .retAddr 0] [] s Φ) : ∀ (m p : Nat) (σ : qx_S), m = pe - p → p ≤ pe → ql [(207, none)] σ0 σ → qx_mi σ 207 = q_pl S (fun p => S (10 + 5 * p + 2)) p →
    qx_K G qc_T 9 RX12 YX12_done 27 [.ref 197, .int w, .int (nI p)] [] σ Φ := by
  intro m
  induction m with
  | zero =>
    intro p σ hm hp hf hS
    have hs1 : q_pl S (fun p => S (10 + 5 * p + 2)) p 1 = S 1 := if_neg (by omega)
    obtain rfl : p = pe := by omega
    refine qy_wp_ok (c := CX12_done) (cuts := [27, 60]) vX12_done wX12_done 2000 27 _ _ _ ?_
    refine And.intro rfl (Exists.intro 207 (And.intro rfl ?_))
    refine Exists.intro (nI 1) (And.intro rfl ?_)
    refine Exists.intro (1) (Exists.intro (nI p) (And.intro rfl (And.intro ⟨2788, rfl, by decide, by decide⟩ (And.intro ((congrFun hS 1).trans (hs1.trans e1)) ?_))))
    refine And.intro (fun h34 => ?_) (fun h34 => ?_)
    · skip
      have h34 := nI_leT (a := p) (b := p) (by omega) (by omega) h34
      refine qx_K_le (ls := [.ref 197, .int w, .retAddr 0]) ⟨Or.inr rfl, Or.inr rfl, Or.inl rfl, trivial⟩ ?_
      exact hc _ hf hS
    · skip
      have h34 := nI_leF (a := p) (b := p) (by omega) (by omega) h34
      exact absurd h34 (by omega)
  | succ m ih =>
    intro p σ hm hp hf hS
    have hs1 : q_pl S (fun p => S (10 + 5 * p + 2)) p 1 = S 1 := if_neg (by omega)
    have hs2 : q_pl S (fun p => S (10 + 5 * p + 2)) p (10 + 5 * p + 2) = S (10 + 5 * p + 2) := if_neg (by omega)
    refine qy_wp_ok (c := CX12_done) (cuts := [27, 60]) vX12_done wX12_done 2000 27 _ _ _ ?_
    refine And.intro rfl (Exists.intro 207 (And.intro rfl ?_))
    refine Exists.intro (nI 1) (And.intro rfl ?_)
    refine Exists.intro (1) (Exists.intro (nI pe) (And.intro rfl (And.intro ⟨2788, rfl, by decide, by decide⟩ (And.intro ((congrFun hS 1).trans (hs1.trans e1)) ?_))))
    refine And.intro (fun h34 => ?_) (fun h34 => ?_)
    · skip
      have h34 := nI_leT (a := pe) (b := p) (by omega) (by omega) h34
      exact absurd h34 (by omega)
    · skip
      have h34 := nI_leF (a := pe) (b := p) (by omega) (by omega) h34
      refine And.intro rfl (Exists.intro 207 (And.intro rfl ?_))
      refine Exists.intro (nI 10) (And.intro rfl ?_)
      refine Exists.intro (nI 5) (And.intro rfl ?_)
      refine Exists.intro (nI (5 * p)) (And.intro (pk_mul _ _) ?_)
      refine Exists.intro (nI (10 + 5 * p)) (And.intro (nI_add _ _) ?_)
      refine Exists.intro (nI 2) (And.intro rfl ?_)
      refine And.intro rfl (Exists.intro _ (And.intro (by decide) (qx_M_mono (m_personOf (by omega) (by decide) ((congrFun hS _).trans hs2)) ?_)))
      rintro _ _ ⟨rfl, rfl⟩
      obtain ⟨σ1, eσ1⟩ : ∃ zs, zs = (qx_wi σ 207 (10 + 5 * p) (S (10 + 5 * p + 2))) := ⟨_, rfl⟩
      have fσ1 := qn_wi eσ1
      refine Exists.intro (10 + 5 * p) (Exists.intro σ1 (And.intro rfl (And.intro ⟨2788, rfl, by omega, by decide⟩ (And.intro eσ1.symm ?_))))
      have hf_σ1 : ql [(207, none)] σ0 σ1 := hf.tr fσ1
      refine Exists.intro (nI (p + 1)) (And.intro (nI_add _ _) ?_)
      exact ih (p + 1) _ (by omega) (by omega) hf_σ1 ((qn_rowS eσ1 hS).trans (q_pl_s S (fun p => S (10 + 5 * p + 2)) p).symm)
theorem m_done_ok {G : qx_G} {σ : qx_S} {S : qS} {rf : Option qR} (hX : mX σ S rf none) (g : gS S) (h0 : 0 < s_n S 0) (hh : gH S) {w : Nat} (hw : w ≤ 2) : qx_M G qc_T 9 YX12_done [.ref 197, .int (nI w)] σ (fun r s => r = some (.int (q_dz (q_hd S rf) w)) ∧ ql lU σ s ∧ mX s S rf none) := by
  have hS := hX.1
  have h10 := g.2.1.2
  have gh := q_ho_g g hh
  have sh : sP S (q_ho S) := fun i hi => if_neg hi
  have n1 : s_n (q_ho S) 1 = s_n S 1 := by unfold s_n; rw [sh 1 (by omega)]
  have key : ∀ σ1, ql [(210, none)] σ σ1 → (∀ j, j < 10 → qx_mi σ1 210 j = S (10 + 5 * j)) → ∀ s, ql [(207, none)] σ1 s → qx_mi s 207 = q_ho S → qx_K G qc_T 9 RX12 YX12_done 60 [.ref 197, .int (nI w), .retAddr 0] [] s (fun r s => r = some (.int (q_dz (q_hd S rf) w)) ∧ ql lU σ s ∧ mX s S rf none) := by
    intro σa fa ka σb fb kb
    have xb : mX σb (q_ho S) rf none := (hX.fr fa rfl).at fb kb (sh 1 (by omega)) (sh 7 (by omega))
    have md := m_findsDone (G := G) xb gh
    rw [n1] at md
    have tail : ∀ s r, qD σb (q_ho S) rf (q_hd S rf) s → r = (q_hd S rf).2.1 → qx_K G qc_T 9 RX12 YX12_done 64 [.ref 197, .int (nI w), .retAddr 0] [.int r] s (fun r s => r = some (.int (q_dz (q_hd S rf) w)) ∧ ql lU σ s ∧ mX s S rf none) := by
      intro s r hD hr
      obtain ⟨⟨⟨σ', hJ⟩, hfr⟩, hcase⟩ := hD
      obtain ⟨⟨-, ⟨S', hX', hs'⟩, hB, b0, hv⟩, hle, hw2⟩ := hJ
      have hs2 : sP S S' := fun i hi => (hs' i (by rw [n1]; exact hi)).trans (sh i hi)
      have hbk : q_pl S' (fun j => S (10 + 5 * j)) 10 = S := hs2.back h10
      have k210 : ∀ j, j < 10 → qx_mi s 210 j = S (10 + 5 * j) := fun j hj => (hfr.i _ _ rfl).trans ((fb.i _ _ rfl).trans (ka j hj))
      have pb := m_putsPlacesBack (G := G) (f := fun j => S (10 + 5 * j)) hX'.1 k210
      have fin : ∀ s2, ql [(207, none)] s s2 → qx_mi s2 207 = q_pl S' (fun j => S (10 + 5 * j)) 10 → ql lU σ s2 ∧ mX s2 S rf none := by
        intro s2 f2 e2
        exact ⟨(fa.mn (by decide)).tr ((fb.mn (by decide)).tr ((hfr.mn (by decide)).tr (f2.mn (by decide)))), hX'.at f2 (e2.trans hbk) (hs2 1 (by omega)).symm (hs2 7 (by omega)).symm⟩
      rcases hcase with hneg | ⟨hm, hp, hfst, h2001, d, hd, ed⟩
      · rw [← hr] at hneg
        have ea : q_dz (q_hd S rf) w = r := by
          unfold q_dz
          rw [← hr, if_pos (Or.inl hneg)]
        rw [ea]
        refine qy_wp_ok (c := CX12_done) (cuts := [64, 73]) vX12_done wX12_done 2000 64 _ _ _ ?_
        refine And.intro rfl (Exists.intro _ (And.intro (by decide) (qx_M_mono (pb) ?_)))
        rintro _ σ1 ⟨rfl, fσ1, cσ1⟩
        refine And.intro (fun h70 => ?_) (fun h70 => ?_)
        · skip
          exact ⟨rfl, fin _ fσ1 cσ1⟩
        · skip
          exact absurd hneg h70
      · rw [ed] at hr
        subst hr
        have hnn : ¬ nI d < (0 : Int32) := fun z => absurd ((nI_ltI (b := 0) (by omega) (by decide)).mp z) (by omega)
        have wy := (hB.2.2.1 _ hfst).2.2.2.2.2.2
        have hwy := hw2 _ hfst
        have hfst2 : (q_hd S rf).2.2.1 < 2001 := Nat.lt_of_lt_of_le hfst (Nat.le_succ_of_le hle)
        have eq0 : q_dz (q_hd S rf) w = if w = 0 then nI d else if w = 1 then nI (q_hd S rf).2.2.2 else if q_wy (q_hd S rf).1 (q_hd S rf).2.2.1 = 1 then nI 1 else nI 0 := by
          unfold q_dz
          rw [ed]
          by_cases z : w = 0
          · rw [if_pos (Or.inr z), if_pos z]
          · rw [if_neg (fun y => y.elim hnn z), if_neg z]
        rw [eq0]
        have m47 := hm.1
        have m46 := hm.2 hp
        refine qy_wp_ok (c := CX12_done) (cuts := [64]) vX12_done wX12_done 2000 64 _ _ _ ?_
        refine And.intro rfl (Exists.intro _ (And.intro (by decide) (qx_M_mono (pb) ?_)))
        rintro _ σ1 ⟨rfl, fσ1, cσ1⟩
        refine And.intro (fun h70 => ?_) (fun h70 => ?_)
        · skip
          have h70 := nI_ltT (a := d) (b := 0) (by omega) (by decide) h70
          exact absurd h70 (by omega)
        · skip
          have h70 := nI_ltF (a := d) (b := 0) (by omega) (by decide) h70
          refine And.intro (fun h74 => ?_) (fun h74 => ?_)
          · skip
            have h74 := nI_neT (a := w) (b := 0) (by omega) (by decide) h74
            refine Exists.intro (nI 1) (And.intro rfl ?_)
            refine And.intro (fun h83 => ?_) (fun h83 => ?_)
            · skip
              have h83 := nI_neT (a := w) (b := 1) (by omega) (by decide) h83
              refine And.intro rfl (Exists.intro 223 (And.intro rfl ?_))
              refine And.intro rfl (Exists.intro 46 (Exists.intro (nI ((q_hd S rf).2.2.1)) (And.intro rfl (And.intro ((fσ1.i _ _ rfl).trans (m46)) ?_))))
              refine Exists.intro ((q_hd S rf).2.2.1) (Exists.intro (nI (q_wy (q_hd S rf).1 (q_hd S rf).2.2.1)) (And.intro rfl (And.intro ⟨2001, rfl, by omega, by decide⟩ (And.intro ((fσ1.i _ _ rfl).trans (wy)) ?_))))
              refine Exists.intro (nI 1) (And.intro rfl ?_)
              refine And.intro (fun h103 => ?_) (fun h103 => ?_)
              · skip
                have h103 := nI_neT (a := q_wy (q_hd S rf).1 (q_hd S rf).2.2.1) (b := 1) (by omega) (by decide) h103
                refine Exists.intro (nI 0) (And.intro rfl ?_)
                refine ⟨?_, fin _ fσ1 cσ1⟩
                first | (rw [if_pos (show w = 0 by omega)]) | (rw [if_neg (show ¬ w = 0 by omega), if_pos (show w = 1 by omega)]) | (rw [if_neg (show ¬ w = 0 by omega), if_neg (show ¬ w = 1 by omega), if_pos (by omega)]) | (rw [if_neg (show ¬ w = 0 by omega), if_neg (show ¬ w = 1 by omega), if_neg (by omega)])
              · skip
                have h103 := nI_eqT (a := q_wy (q_hd S rf).1 (q_hd S rf).2.2.1) (b := 1) (by omega) (by decide) h103
                refine Exists.intro (nI 1) (And.intro rfl ?_)
                refine ⟨?_, fin _ fσ1 cσ1⟩
                first | (rw [if_pos (show w = 0 by omega)]) | (rw [if_neg (show ¬ w = 0 by omega), if_pos (show w = 1 by omega)]) | (rw [if_neg (show ¬ w = 0 by omega), if_neg (show ¬ w = 1 by omega), if_pos (by omega)]) | (rw [if_neg (show ¬ w = 0 by omega), if_neg (show ¬ w = 1 by omega), if_neg (by omega)])
            · skip
              have h83 := nI_eqT (a := w) (b := 1) (by omega) (by decide) h83
              refine And.intro rfl (Exists.intro 47 (Exists.intro (nI ((q_hd S rf).2.2.2)) (And.intro rfl (And.intro ((fσ1.i _ _ rfl).trans (m47)) ?_))))
              refine ⟨?_, fin _ fσ1 cσ1⟩
              first | (rw [if_pos (show w = 0 by omega)]) | (rw [if_neg (show ¬ w = 0 by omega), if_pos (show w = 1 by omega)]) | (rw [if_neg (show ¬ w = 0 by omega), if_neg (show ¬ w = 1 by omega), if_pos (by omega)]) | (rw [if_neg (show ¬ w = 0 by omega), if_neg (show ¬ w = 1 by omega), if_neg (by omega)])
          · skip
            have h74 := nI_eqT (a := w) (b := 0) (by omega) (by decide) h74
            refine ⟨?_, fin _ fσ1 cσ1⟩
            first | (rw [if_pos (show w = 0 by omega)]) | (rw [if_neg (show ¬ w = 0 by omega), if_pos (show w = 1 by omega)]) | (rw [if_neg (show ¬ w = 0 by omega), if_neg (show ¬ w = 1 by omega), if_pos (by omega)]) | (rw [if_neg (show ¬ w = 0 by omega), if_neg (show ¬ w = 1 by omega), if_neg (by omega)])
    refine qy_wp_ok (c := CX12_done) (cuts := [64]) vX12_done wX12_done 2000 60 _ _ _ ?_
    refine And.intro rfl (Exists.intro _ (And.intro (by decide) (qx_M_mono (md) ?_)))
    rintro _ σ1 ⟨rfl, fσ1⟩
    exact tail _ _ fσ1 rfl
  refine qx_M_in rfl (Nat.le_of_ble_eq_true rfl) ?_
  refine qy_wp_ok (c := CX12_done) (cuts := [27]) vX12_done wX12_done 2000 0 _ _ _ ?_
  refine And.intro rfl (Exists.intro _ (And.intro (by decide) (qx_M_mono (m_isCountry hS g.1.1 g.1.2) ?_)))
  rintro _ _ ⟨rfl, rfl⟩
  refine And.intro (fun h4 => ?_) (fun h4 => ?_)
  · skip
    have h4 := bI_f h4
    exact absurd (h4.symm.trans (decide_eq_true h0)) (by decide)
  · skip
    have h4 := bI_t h4
    refine Exists.intro ((nI w).toInt64) (And.intro rfl ?_)
    refine Exists.intro (lN 0) (And.intro rfl ?_)
    refine Exists.intro (lN 2) (And.intro (by decide) ?_)
    refine Exists.intro _ (And.intro (by decide) (qx_M_mono (m_in (v := ((nI w).toInt64)) (l := (lN 0)) (h := (lN 2))) ?_))
    rintro _ _ ⟨rfl, rfl⟩
    refine And.intro (fun h16 => ?_) (fun h16 => ?_)
    · skip
      have h16 := bI_t h16
      refine And.intro rfl (Exists.intro _ (And.intro (by decide) (qx_M_mono (m_keepsPlaces hX.1) ?_)))
      rintro _ σ1 ⟨rfl, fσ1, gσ1⟩
      refine Exists.intro (nI 0) (And.intro rfl ?_)
      exact l_done h10 g.2.1.1 (key _ fσ1 gσ1) _ 0 _ rfl (by omega) qf.rf (((fσ1.row 207 (fun _ => rfl)).trans hS).trans (q_pl_0 _ _).symm)
    · skip
      have h16 := bI_f h16
      exact absurd (h16.symm.trans (q_in_ok (by omega) (by omega) (by decide))) (by decide)

