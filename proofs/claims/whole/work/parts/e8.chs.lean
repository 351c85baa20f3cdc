/-! THE CLASS: a ring is done -/
theorem q_nw_mvup (S : qS) {p : Nat} (hp : p < 10) (v : Int32) {i : Nat} (hi : i < 122) : q_nw (va_up S (10 + 5 * p + 4) v) i = va_up (q_nw S) (110 + p) v i := by
  have ne : ∀ j, ¬ j = 10 + 5 * p + 4 → va_up S (10 + 5 * p + 4) v j = S j := fun j hj => va_up_ne _ _ hj
  by_cases z : i = 110 + p
  · rw [z, va_up_self, q_nw_mv _ hp, va_up_self]
  · rw [va_up_ne _ _ z]
    unfold q_nw
    split
    · exact ne _ (by omega)
    · split
      · exact ne _ (by omega)
      · split
        · exact ne _ (by omega)
        · split
          · exact ne _ (by omega)
          · exact ne _ (by omega)
theorem zR.mv {σ s : qx_S} {a pe p : Nat} {f : Nat → Int32} {v : Int32} (h : zR σ a pe f) (hpe : pe ≤ 10) (hp : p < pe) (es : s = qx_wi σ (a + 2) p v) : zR s a pe (va_up f (110 + p) v) := by
  have m : ∀ y j, y ≠ a + 2 → qx_mi s y j = qx_mi σ y j := fun y j hy => qn_ne es (Or.inl hy)
  refine ⟨?_, ?_, fun p' hp' => ⟨?_, ?_⟩, fun k hk => ?_, fun p' hp' => ?_⟩
  · rw [va_up_ne _ _ (by omega)]; exact (m _ _ (by omega)).trans h.1
  · rw [va_up_ne _ _ (by omega)]; exact (m _ _ (by omega)).trans h.2.1
  · rw [va_up_ne _ _ (by omega)]; exact (m _ _ (by omega)).trans (h.2.2.1 p' hp').1
  · by_cases z : p' = p
    · rw [z, va_up_self]; exact qn_eq es
    · rw [va_up_ne _ _ (by omega)]; exact (qn_ne es (Or.inr z)).trans (h.2.2.1 p' hp').2
  · rw [va_up_ne _ _ (by omega)]; exact (m _ _ (by omega)).trans (h.2.2.2.1 k hk)
  · exact (m _ _ (by omega)).trans ((h.2.2.2.2 p' hp').trans (q_sum_cg _ (fun k hk => (va_up_ne _ _ (by omega)).symm)))
theorem q_ch1_p {rg : Nat → Nat} {n k : Nat} {S : qS} (h : 0 < S (10 + 5 * rg k + 1) - S (10 + 5 * rg ((k + 1) % n) + 1)) : (q_ch1 rg n k S).1 = va_up (va_up S (10 + 5 * rg k + 4) (S (10 + 5 * rg k + 4) + nI 1)) (154 + 10 * rg k + rg ((k + 1) % n)) ((va_up S (10 + 5 * rg k + 4) (S (10 + 5 * rg k + 4) + nI 1)) (154 + 10 * rg k + rg ((k + 1) % n)) + (S (10 + 5 * rg k + 1) - S (10 + 5 * rg ((k + 1) % n) + 1))) := by
  unfold q_ch1
  dsimp only
  rw [if_pos h]
theorem q_ch1_n {rg : Nat → Nat} {n k : Nat} {S : qS} (h : ¬ 0 < S (10 + 5 * rg k + 1) - S (10 + 5 * rg ((k + 1) % n) + 1)) : (q_ch1 rg n k S).1 = va_up S (10 + 5 * rg k + 4) (S (10 + 5 * rg k + 4) + nI 1) := by
  unfold q_ch1
  dsimp only
  rw [if_neg h]
/-- moves and debts alone -/
def sM (S S' : qS) : Prop := ∀ i, ¬ (10 ≤ i ∧ i < 60 ∧ (i - 10) % 5 = 4) → ¬ (154 ≤ i ∧ i < 254) → S' i = S i
theorem sM.tr {a b c : qS} (h : sM a b) (k : sM b c) : sM a c := fun i h1 h2 => (k i h1 h2).trans (h i h1 h2)
theorem q_ch1_sM {rg : Nat → Nat} {n k : Nat} {S : qS} (h1 : rg k < 10) (h2 : rg ((k + 1) % n) < 10) : sM S (q_ch1 rg n k S).1 := by
  intro i n1 n2
  by_cases h : 0 < S (10 + 5 * rg k + 1) - S (10 + 5 * rg ((k + 1) % n) + 1)
  · rw [q_ch1_p h, va_up_ne _ _ (by omega), va_up_ne _ _ (by omega)]
  · rw [q_ch1_n h, va_up_ne _ _ (by omega)]
theorem q_chc_sM {rg : Nat → Nat} {n : Nat} (hr : ∀ k, k < n → rg k < 10) : ∀ (m k : Nat) (S : qS) (c : Int32), m + k ≤ n → sM S (q_chc rg n m k S c).1
  | 0, _, _, _, _ => fun _ _ _ => rfl
  | m + 1, k, S, c, h => by
    have s1 := q_ch1_sM (rg := rg) (n := n) (k := k) (S := S) (hr k (by omega)) (hr _ (Nat.mod_lt _ (by omega)))
    unfold q_chc
    split
    · exact s1.tr (q_chc_sM hr m (k + 1) _ _ (by omega))
    · exact s1.tr (q_chc_sM hr m (k + 1) _ _ (by omega))
theorem kS5_ne {a x j : Nat} (h : x < a ∨ a + 4 < x) : pL (kS5 a) x j = false := pL_ne (by simp; omega)
theorem l_change {G : qx_G} {σ0 : qx_S} {a y n pe : Nat} {rg : Nat → Nat} {S0 : qS} {v : Int32} {Φ : qx_F} (hpe : pe ≤ 10) (h0 : 0 < n) (hn : n ≤ 6) (hrg : ∀ k, k < n → rg k < pe) (hs : shS σ0 a) (hR0 : rgC σ0 y rg n) (hy : y + 1 < a ∨ a + 4 < y) (hw0 : ∀ p, p < pe → qx_mi σ0 17 p = S0 (10 + 5 * p + 1)) (ha : 20 < a) (S1 : qS) (hend : ∀ σ, ql (kS5 a) σ0 σ → zR σ a pe (q_nw S1) → qx_K G qc_T 1 RX7 YX7_change 85 [.ref a, .ref y, .retAddr 0, .int v, .retAddr 0, .retAddr 0, .retAddr 0, .retAddr 0] [] σ Φ) : ∀ (m k : Nat) (σ : qx_S) (S : qS) (c : Int32), m + k = n → ql (kS5 a) σ0 σ → zR σ a pe (q_nw S) → sM S0 S → q_chc rg n m k S c = (S1, v) → qx_K G qc_T 1 RX7 YX7_change 5 [.ref a, .ref y, .ref 16, .int c, .int (nI k), .retAddr 0, .retAddr 0, .retAddr 0] [] σ Φ := by
  intro m
  induction m with
  | zero =>
    intro k σ S c hk hf hz hM hq
    obtain rfl : k = n := by omega
    have hR := hR0.fr hf (kS5_ne (by omega)) (fun j => kS5_ne (by omega))
    have q1 : S = S1 := congrArg Prod.fst hq
    have q2 : c = v := congrArg Prod.snd hq
    rw [q1] at hz
    rw [q2]
    refine qy_wp_ok (c := CX7_change) (cuts := [5, 85]) vX7_change wX7_change 2000 5 _ _ _ ?_
    refine And.intro (by rw [show qx_sh qc_T _ y = _ from hR.1.1]; rfl) (Exists.intro 1 (Exists.intro (nI k) (And.intro rfl (And.intro hR.2.1 ?_))))
    refine And.intro (fun h11 => ?_) (fun h11 => ?_)
    · skip
      have h11 := nI_leT (a := k) (b := k) (by omega) (by omega) h11
      refine qx_K_le (ls := [.ref a, .ref y, .retAddr 0, .int v, .retAddr 0, .retAddr 0, .retAddr 0, .retAddr 0]) ⟨Or.inr rfl, Or.inr rfl, Or.inl rfl, Or.inr rfl, Or.inl rfl, Or.inr rfl, Or.inr rfl, Or.inr rfl, trivial⟩ ?_
      exact hend σ hf hz
    · skip
      have h11 := nI_leF (a := k) (b := k) (by omega) (by omega) h11
      exact absurd h11 (by omega)
  | succ m ih =>
    intro k σ S c hk hf hz hM hq
    have hR := hR0.fr hf (kS5_ne (by omega)) (fun j => kS5_ne (by omega))
    have hk1 : k < n := by omega
    have hm1 : (k + 1) % n < n := Nat.mod_lt _ (by omega)
    have r1 := hrg k hk1
    have r2 := hrg _ hm1
    have w1 : qx_mi σ 17 (rg k) = S (10 + 5 * rg k + 1) := (hf.i _ _ (kS5_ne (by omega))).trans ((hw0 _ r1).trans (hM _ (by omega) (by omega)).symm)
    have w2 : qx_mi σ 17 (rg ((k + 1) % n)) = S (10 + 5 * rg ((k + 1) % n) + 1) := (hf.i _ _ (kS5_ne (by omega))).trans ((hw0 _ r2).trans (hM _ (by omega) (by omega)).symm)
    have sh1 := hs.fr hf
    have mv0 : ∀ s, zR s a pe (q_nw S) → qx_mi s (a + 2) (rg k) = S (10 + 5 * rg k + 4) := fun s h => (h.2.2.1 _ r1).2.trans (q_nw_mv S (by omega))
    have st := q_ch1_sM (rg := rg) (n := n) (k := k) (S := S) (by omega) (by omega)
    have np : ∀ s1 s2, ql (kS5 a) σ s1 → zR s1 a pe (va_up (q_nw S) (10 + 10 * rg k + rg ((k + 1) % n)) (q_nw S (10 + 10 * rg k + rg ((k + 1) % n)) + (S (10 + 5 * rg k + 1) - S (10 + 5 * rg ((k + 1) % n) + 1)))) → s2 = qx_wi s1 (a + 2) (rg k) (S (10 + 5 * rg k + 4) + nI 1) → 0 < S (10 + 5 * rg k + 1) - S (10 + 5 * rg ((k + 1) % n) + 1) → qx_K G qc_T 1 RX7 YX7_change 5 [.ref a, .ref y, .ref 16, .int (c + (S (10 + 5 * rg k + 1) - S (10 + 5 * rg ((k + 1) % n) + 1))), .int (nI (k + 1)), .retAddr 0, .retAddr 0, .retAddr 0] [] s2 Φ := by
      intro s1 s2 f1 z1 e2 hp
      refine ih (k + 1) s2 _ _ (by omega) (hf.tr (f1.tr (qf.cv (qn_wi e2) (by simp)))) ?_ (hM.tr st) ?_
      · refine (z1.mv hpe r1 e2).cg hpe (fun i hi => ?_)
        rw [q_ch1_p hp]
        rw [q_nw_owup _ (by omega) (by omega) _ hi]
        have e154 : va_up S (10 + 5 * rg k + 4) (S (10 + 5 * rg k + 4) + nI 1) (154 + 10 * rg k + rg ((k + 1) % n)) = q_nw S (10 + 10 * rg k + rg ((k + 1) % n)) := by
          rw [va_up_ne _ _ (by omega), show 10 + 10 * rg k + rg ((k + 1) % n) = 10 + (10 * rg k + rg ((k + 1) % n)) by omega, q_nw_ow _ (by omega)]
          exact congrArg S (by omega)
        rw [e154]
        by_cases z : i = 10 + 10 * rg k + rg ((k + 1) % n)
        · rw [z, va_up_self, va_up_ne _ _ (by omega), va_up_self]
        · rw [va_up_ne _ _ z, q_nw_mvup _ (by omega) _ hi]
          by_cases z2 : i = 110 + rg k
          · rw [z2, va_up_self, va_up_self]
          · rw [va_up_ne _ _ z2, va_up_ne _ _ z2, va_up_ne _ _ z]
      · rw [← hq]
        show _ = (if _ then _ else _)
        rw [if_pos hp]
    have nn : ∀ s2, s2 = qx_wi σ (a + 2) (rg k) (S (10 + 5 * rg k + 4) + nI 1) → ¬ 0 < S (10 + 5 * rg k + 1) - S (10 + 5 * rg ((k + 1) % n) + 1) → qx_K G qc_T 1 RX7 YX7_change 5 [.ref a, .ref y, .ref 16, .int c, .int (nI (k + 1)), .retAddr 0, .retAddr 0, .retAddr 0] [] s2 Φ := by
      intro s2 e2 hp
      refine ih (k + 1) s2 _ _ (by omega) (hf.tr (qf.cv (qn_wi e2) (by simp))) ?_ (hM.tr st) ?_
      · refine (hz.mv hpe r1 e2).cg hpe (fun i hi => ?_)
        rw [q_ch1_n hp, q_nw_mvup _ (by omega) _ hi]
      · rw [← hq]
        show _ = (if _ then _ else _)
        rw [if_neg hp]
    refine qy_wp_ok (c := CX7_change) (cuts := [5, 85]) vX7_change wX7_change 2000 5 _ _ _ ?_
    refine And.intro (by rw [show qx_sh qc_T _ y = _ from hR.1.1]; rfl) (Exists.intro 1 (Exists.intro (nI n) (And.intro rfl (And.intro hR.2.1 ?_))))
    refine And.intro (fun h11 => ?_) (fun h11 => ?_)
    · skip
      have h11 := nI_leT (a := n) (b := k) (by omega) (by omega) h11
      exact absurd h11 (by omega)
    · skip
      have h11 := nI_leF (a := n) (b := k) (by omega) (by omega) h11
      refine And.intro (by rw [show qx_sh qc_T _ y = _ from hR.1.1]; rfl) (Exists.intro (y + 1) (And.intro rfl ?_))
      refine Exists.intro (k) (Exists.intro (nI (rg k)) (And.intro rfl (And.intro ⟨6, hR.1.2, by omega, by decide⟩ (And.intro (hR.2.2 k hk1) ?_))))
      refine And.intro ((congrArg Prod.fst (hR.1.1)).trans rfl) (Exists.intro _ (And.intro (by decide) (qx_M_mono (c_after hR hn hk1) ?_)))
      rintro _ _ ⟨rfl, rfl⟩
      refine And.intro rfl (Exists.intro 17 (And.intro rfl ?_))
      refine Exists.intro (rg k) (Exists.intro (S (10 + 5 * rg k + 1)) (And.intro rfl (And.intro ⟨10, rfl, by omega, by decide⟩ (And.intro w1 ?_))))
      refine And.intro rfl (Exists.intro 17 (And.intro rfl ?_))
      refine Exists.intro (rg ((k + 1) % n)) (Exists.intro (S (10 + 5 * rg ((k + 1) % n) + 1)) (And.intro rfl (And.intro ⟨10, rfl, by omega, by decide⟩ (And.intro w2 ?_))))
      refine Exists.intro ((S (10 + 5 * rg k + 1)) - (S (10 + 5 * rg ((k + 1) % n) + 1))) (And.intro rfl ?_)
      refine And.intro (fun h50 => ?_) (fun h50 => ?_)
      · skip
        refine And.intro (by rw [show qx_sh qc_T _ a = _ from sh1.1]; rfl) (Exists.intro (a + 2) (And.intro rfl ?_))
        refine Exists.intro (rg k) (Exists.intro (S (10 + 5 * rg k + 4)) (And.intro rfl (And.intro ⟨10, sh1.2.2.1, by omega, by decide⟩ (And.intro (mv0 _ hz) ?_))))
        refine Exists.intro (nI 1) (And.intro rfl ?_)
        refine Exists.intro ((S (10 + 5 * rg k + 4)) + (nI 1)) (And.intro rfl ?_)
        obtain ⟨σ1, eσ1⟩ : ∃ zs, zs = (qx_wi σ (a + 2) (rg k) ((S (10 + 5 * rg k + 4)) + (nI 1))) := ⟨_, rfl⟩
        have fσ1 := qn_wi eσ1
        refine Exists.intro (rg k) (Exists.intro σ1 (And.intro rfl (And.intro ⟨10, sh1.2.2.1, by omega, by decide⟩ (And.intro eσ1.symm ?_))))
        refine Exists.intro (nI (k + 1)) (And.intro (nI_add _ _) ?_)
        refine qx_K_le (ls := [.ref a, .ref y, .ref 16, .int c, .int (nI (k + 1)), .retAddr 0, .retAddr 0, .retAddr 0]) ⟨Or.inr rfl, Or.inr rfl, Or.inr rfl, Or.inr rfl, Or.inr rfl, Or.inl rfl, Or.inl rfl, Or.inl rfl, trivial⟩ ?_
        first
          | exact np _ _ (qf.cv fρ (by simp)) zρ eσ1 (Int32.not_le.mp h50)
          | exact nn _ eσ1 (Int32.not_lt.mpr h50)
      · skip
        refine And.intro ((congrArg Prod.fst (sh1.1)).trans rfl) (Exists.intro _ (And.intro (by decide) (qx_M_mono (c_addDebt sh1 hz (by omega) (by omega) hpe) ?_)))
        rintro _ ρ ⟨rfl, fρ, zρ⟩
        refine Exists.intro (c + ((S (10 + 5 * rg k + 1)) - (S (10 + 5 * rg ((k + 1) % n) + 1)))) (And.intro rfl ?_)
        refine And.intro (by rw [show qx_sh qc_T _ a = _ from ((fρ.s _).trans sh1.1)]; rfl) (Exists.intro (a + 2) (And.intro rfl ?_))
        refine Exists.intro (rg k) (Exists.intro (S (10 + 5 * rg k + 4)) (And.intro rfl (And.intro ⟨10, ((fρ.s _).trans sh1.2.2.1), by omega, by decide⟩ (And.intro ((fρ.i _ _ (pL_ne (by simp))).trans (mv0 _ hz)) ?_))))
        refine Exists.intro (nI 1) (And.intro rfl ?_)
        refine Exists.intro ((S (10 + 5 * rg k + 4)) + (nI 1)) (And.intro rfl ?_)
        obtain ⟨σ2, eσ2⟩ : ∃ zs, zs = (qx_wi ρ (a + 2) (rg k) ((S (10 + 5 * rg k + 4)) + (nI 1))) := ⟨_, rfl⟩
        have fσ2 := qn_wi eσ2
        refine Exists.intro (rg k) (Exists.intro σ2 (And.intro rfl (And.intro ⟨10, ((fρ.s _).trans sh1.2.2.1), by omega, by decide⟩ (And.intro eσ2.symm ?_))))
        refine Exists.intro (nI (k + 1)) (And.intro (nI_add _ _) ?_)
        refine qx_K_le (ls := [.ref a, .ref y, .ref 16, .int (c + ((S (10 + 5 * rg k + 1)) - (S (10 + 5 * rg ((k + 1) % n) + 1)))), .int (nI (k + 1)), .retAddr 0, .retAddr 0, .retAddr 0]) ⟨Or.inr rfl, Or.inr rfl, Or.inr rfl, Or.inr rfl, Or.inr rfl, Or.inl rfl, Or.inl rfl, Or.inl rfl, trivial⟩ ?_
        first
          | exact np _ _ (qf.cv fρ (by simp)) zρ eσ2 (Int32.not_le.mp h50)
          | exact nn _ eσ2 (Int32.not_lt.mpr h50)
theorem zR.sh {σ s : qx_S} {a pe : Nat} {S S' : qS} (h : zR σ a pe (q_nw S)) (hpe : pe ≤ 10) (f : ql [(a + 1, none)] σ s) (hA : zA s (a + 1) pe S') (hs : sA S S') : zR s a pe (q_nw S') := by
  have m : ∀ y j, y ≠ a + 1 → qx_mi s y j = qx_mi σ y j := fun y j hy => f.i _ _ (pL_ne (by simp; omega))
  have q : ∀ i, 10 ≤ i → i < 122 → q_nw S' i = q_nw S i := fun i h1 h2 => by
    unfold q_nw
    split
    · omega
    · split
      · exact hs _ (by omega)
      · split
        · exact hs _ (by omega)
        · split
          · exact hs _ (by omega)
          · exact hs _ (by omega)
  exact ⟨(m _ _ (by omega)).trans (h.1.trans (q _ (by omega) (by omega)).symm), (m _ _ (by omega)).trans (h.2.1.trans (q _ (by omega) (by omega)).symm), fun p hp => ⟨(hA p hp).trans (q_nw_at S' (by omega)).symm, (m _ _ (by omega)).trans ((h.2.2.1 p hp).2.trans (q _ (by omega) (by omega)).symm)⟩, fun k hk => (m _ _ (by omega)).trans ((h.2.2.2.1 k hk).trans (q _ (by omega) (by omega)).symm), fun p hp => (m _ _ (by omega)).trans ((h.2.2.2.2 p hp).trans (q_sum_cg _ (fun k hk => (q _ (by omega) (by omega)).symm)))⟩
theorem zR.rg {σ s : qx_S} {a pe : Nat} {S : qS} {v : Int32} (h : zR σ a pe (q_nw S)) (hpe : pe ≤ 10) (es : s = qx_wi σ a 5 v) : zR s a pe (q_nw (va_up S 6 v)) := by
  have m : ∀ y j, ¬ (y = a ∧ j = 5) → qx_mi s y j = qx_mi σ y j := fun y j hy => qn_ne es (by omega)
  have ne : ∀ j, ¬ j = 6 → va_up S 6 v j = S j := fun j hj => va_up_ne _ _ hj
  have q : ∀ i, i < 121 → q_nw (va_up S 6 v) i = q_nw S i := fun i h2 => by
    unfold q_nw
    split
    · exact ne _ (by omega)
    · split
      · exact ne _ (by omega)
      · split
        · exact ne _ (by omega)
        · exact ne _ (by omega)
  exact ⟨(m _ _ (by omega)).trans (h.1.trans (q _ (by omega)).symm), (qn_eq es).trans (va_up_self S 6 v).symm, fun p hp => ⟨(m _ _ (by omega)).trans ((h.2.2.1 p hp).1.trans (q _ (by omega)).symm), (m _ _ (by omega)).trans ((h.2.2.1 p hp).2.trans (q _ (by omega)).symm)⟩, fun k hk => (m _ _ (by omega)).trans ((h.2.2.2.1 k hk).trans (q _ (by omega)).symm), fun p hp => (m _ _ (by omega)).trans ((h.2.2.2.2 p hp).trans (q_sum_cg _ (fun k hk => (q _ (by omega)).symm)))⟩
/-- a state behind a ring -/
def q_dne (rg : Nat → Nat) (n : Nat) (S : qS) : qS := va_up (q_gr rg n (q_chc rg n n 0 S 0).1) 6 ((q_gr rg n (q_chc rg n n 0 S 0).1) 6 + nI 1)
theorem c_change {G : qx_G} {σ : qx_S} {a y n pe : Nat} {rg : Nat → Nat} {S : qS} (hpe : pe ≤ 10) (h0 : 0 < n) (hn : n ≤ 6) (hrg : ∀ k, k < n → rg k < pe) (hs : shS σ a) (hR : rgC σ y rg n) (hy : y + 1 < a ∨ a + 4 < y) (hw : ∀ p, p < pe → qx_mi σ 17 p = S (10 + 5 * p + 1)) (ha : 20 < a) (hz : zR σ a pe (q_nw S)) : qx_M G qc_T 1 YX7_change [.ref a, .ref y, .ref 16] σ (fun r s => r = some (.int (q_chc rg n n 0 S 0).2) ∧ ql (kS5 a) σ s ∧ zR s a pe (q_nw (q_dne rg n S))) := by
  obtain ⟨v, ev⟩ : ∃ v, v = (q_chc rg n n 0 S 0).2 := ⟨_, rfl⟩
  obtain ⟨S1, e1⟩ : ∃ S1, S1 = (q_chc rg n n 0 S 0).1 := ⟨_, rfl⟩
  have key : ∀ σ1, ql (kS5 a) σ σ1 → zR σ1 a pe (q_nw S1) → qx_K G qc_T 1 RX7 YX7_change 85 [.ref a, .ref y, .retAddr 0, .int v, .retAddr 0, .retAddr 0, .retAddr 0, .retAddr 0] [] σ1 (fun r s => r = some (.int v) ∧ ql (kS5 a) σ s ∧ zR s a pe (q_nw (va_up (q_gr rg n S1) 6 ((q_gr rg n S1) 6 + nI 1)))) := by
    intro σ1 f1 z1
    have hR1 := hR.fr f1 (kS5_ne (by omega)) (fun j => kS5_ne (by omega))
    have sh1 := hs.fr f1
    have sa : sA S1 (q_gr rg n S1) := q_gr_sA (fun k hk => Nat.lt_of_lt_of_le (hrg k hk) hpe)
    have e6 : qx_mi σ1 a 5 = (q_gr rg n S1) 6 := z1.2.1.trans (sa 6 (by omega)).symm
    refine qy_wp_ok (c := CX7_change) (cuts := []) vX7_change wX7_change 2000 85 _ _ _ ?_
    refine And.intro (by rw [show qx_sh qc_T _ a = _ from sh1.1]; rfl) (Exists.intro (a + 1) (And.intro rfl ?_))
    refine And.intro ((congrArg Prod.fst (hR1.1.1)).trans rfl) (Exists.intro _ (And.intro (by decide) (qx_M_mono (c_shift hpe h0 hn hrg (by omega) sh1.2.1 hR1 (fun p hp => (z1.2.2.1 p hp).1.trans (q_nw_at S1 (by omega)))) ?_)))
    rintro _ ρ ⟨rfl, fρ, zρ⟩
    refine And.intro (by rw [show qx_sh qc_T _ a = _ from ((fρ.s _).trans sh1.1)]; rfl) (Exists.intro 5 (Exists.intro ((q_gr rg n S1) 6) (And.intro rfl (And.intro ((fρ.i _ _ (pL_ne (by simp))).trans e6) ?_))))
    refine Exists.intro (nI 1) (And.intro rfl ?_)
    refine Exists.intro (((q_gr rg n S1) 6) + (nI 1)) (And.intro rfl ?_)
    obtain ⟨σ2, eσ2⟩ : ∃ zs, zs = (qx_wi ρ a 5 (((q_gr rg n S1) 6) + (nI 1))) := ⟨_, rfl⟩
    have fσ2 := qn_wif eσ2
    refine And.intro (by rw [show qx_sh qc_T _ a = _ from ((fρ.s _).trans sh1.1)]; rfl) (Exists.intro 5 (Exists.intro σ2 (And.intro rfl (And.intro eσ2.symm ?_))))
    exact ⟨rfl, f1.tr ((qf.cv fρ (by simp)).tr (qf.cv fσ2 (by simp))), (z1.sh hpe fρ zρ sa).rg hpe eσ2⟩
  have m0 := l_change (G := G) hpe h0 hn hrg hs hR hy hw ha S1 key n 0 σ S 0 (by omega) qf.rf hz (fun _ _ _ => rfl) (by rw [e1, ev])
  have e2 : q_dne rg n S = va_up (q_gr rg n S1) 6 ((q_gr rg n S1) 6 + nI 1) := by
    unfold q_dne
    rw [e1]
  rw [e2, ← ev]
  refine qx_M_in rfl (Nat.le_of_ble_eq_true rfl) ?_
  refine qy_wp_ok (c := CX7_change) (cuts := [5]) vX7_change wX7_change 2000 0 _ _ _ ?_
  refine Exists.intro (nI 0) (And.intro rfl ?_)
  refine Exists.intro (nI 0) (And.intro rfl ?_)
  exact m0

