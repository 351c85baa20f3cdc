/-! THE CLASS: goals of a search -/
theorem nI_m1 {n : Nat} (h : n < 2147483648) : nI n ≠ (-1 : Int32) := fun z => by
  have h2 := congrArg Int32.toInt z
  rw [nI_toInt h] at h2
  exact absurd h2 (by rw [show (-1 : Int32).toInt = -1 from rfl]; omega)
/-- all are where they are told to be -/
def q_af (f : Nat → Int32) (w : Nat) : Nat → Nat → Bool
  | 0, _ => true
  | m + 1, p => (decide (f p = -1) || decide (f p = nI (q_dg w p))) && q_af f w m (p + 1)
theorem q_af_y {f : Nat → Int32} {w m p : Nat} (h : f p = -1 ∨ f p = nI (q_dg w p)) : q_af f w (m + 1) p = q_af f w m (p + 1) := by
  show ((decide (f p = -1) || decide (f p = nI (q_dg w p))) && _) = _
  rcases h with h | h
  · rw [decide_eq_true h]; rfl
  · rw [decide_eq_true h, Bool.or_true]; rfl
theorem q_af_n {f : Nat → Int32} {w m p : Nat} (h : ¬ f p = -1) (h2 : ¬ f p = nI (q_dg w p)) : q_af f w (m + 1) p = false := by
  show ((decide (f p = -1) || decide (f p = nI (q_dg w p))) && _) = _
  rw [decide_eq_false h, decide_eq_false h2]
  rfl
def cF (σ : qx_S) (y pe : Nat) (f : Nat → Int32) : Prop := (y = 188 ∨ y = 30) ∧ ∀ p, p < pe → qx_mi σ y p = f p ∧ (f p = -1 ∨ ∃ q, q < 8 ∧ f p = nI q)
theorem cF.sh {σ s : qx_S} {y pe : Nat} {f : Nat → Int32} (h : cF σ y pe f) : qx_sh qc_T s y = (0, 10) := by
  rcases h.1 with z | z <;> rw [z] <;> rfl
theorem cF.gq {σ s : qx_S} {y pe b : Nat} {f : Nat → Int32} (h : cF σ y pe f) (k : qg (kQL b) σ s) (hb : 229 ≤ b) : cF s y pe f := by
  refine ⟨h.1, fun p hp => ⟨(k.iv ?_ (Or.inl ?_) (pL_ne ?_)).trans (h.2 p hp).1, (h.2 p hp).2⟩⟩
  · have := k.1
    rcases h.1 with z | z <;> omega
  · rcases h.1 with z | z <;> omega
  · rcases h.1 with z | z <;> (rw [z]; simp; omega)
theorem l_allF {G : qx_G} {σ : qx_S} {b y i w pe : Nat} {f : Nat → Int32} (hq : shQ σ b) (h5 : qx_mi σ 16 5 = nI pe) (hpe : pe ≤ 10) (h1 : qx_mi σ (b + 1) i = nI w) (hi : i < 2001) (hw : w < 1073741824) (hF : cF σ y pe f) : ∀ m p, m + p = pe → qx_K G qc_T 1 RX6 YX6_allFound 2 [.ref b, .int (nI i), .ref y, .int (nI p), .retAddr 0] [] σ (qr (bI (q_af f w m p)) σ) := by
  intro m
  induction m with
  | zero =>
    intro p hp
    obtain rfl : p = pe := by omega
    refine qy_wp_ok (c := CX6_allFound) (cuts := [2]) vX6_allFound wX6_allFound 2000 2 _ _ _ ?_
    refine And.intro (by rw [show qx_sh qc_T _ b = _ from hq.1]; rfl) (Exists.intro 156 (And.intro rfl ?_))
    refine And.intro rfl (Exists.intro 16 (And.intro rfl ?_))
    refine And.intro rfl (Exists.intro 5 (Exists.intro (nI p) (And.intro rfl (And.intro h5 ?_))))
    refine And.intro (fun h13 => ?_) (fun h13 => ?_)
    · skip
      have h13 := nI_leT (a := p) (b := p) (by omega) (by omega) h13
      refine Exists.intro (nI 1) (And.intro rfl ?_)
      refine And.intro (Or.inr rfl) ?_
      exact ⟨rfl, rfl⟩
    · skip
      have h13 := nI_leF (a := p) (b := p) (by omega) (by omega) h13
      exact absurd h13 (by omega)
  | succ m ih =>
    intro p hp
    have z := ih (p + 1) (by omega)
    obtain ⟨v1, v2⟩ := hF.2 p (by omega)
    have dl := q_dg_lt w p
    rcases v2 with v2 | ⟨q, hq8, v2⟩
    · rw [q_af_y (Or.inl v2)]
      refine qy_wp_ok (c := CX6_allFound) (cuts := [2]) vX6_allFound wX6_allFound 2000 2 _ _ _ ?_
      refine And.intro (by rw [show qx_sh qc_T _ b = _ from hq.1]; rfl) (Exists.intro 156 (And.intro rfl ?_))
      refine And.intro rfl (Exists.intro 16 (And.intro rfl ?_))
      refine And.intro rfl (Exists.intro 5 (Exists.intro (nI pe) (And.intro rfl (And.intro h5 ?_))))
      refine And.intro (fun h13 => ?_) (fun h13 => ?_)
      · skip
        have h13 := nI_leT (a := pe) (b := p) (by omega) (by omega) h13
        exact absurd h13 (by omega)
      · skip
        have h13 := nI_leF (a := pe) (b := p) (by omega) (by omega) h13
        refine Exists.intro (p) (Exists.intro (-1) (And.intro rfl (And.intro ⟨10, hF.sh, by omega, by decide⟩ (And.intro (v1.trans v2) ?_))))
        refine Exists.intro ((-1)) (And.intro (by decide) ?_)
        refine And.intro (fun h24 => ?_) (fun h24 => ?_)
        · skip
          refine Exists.intro (nI (p + 1)) (And.intro (nI_add _ _) ?_)
          refine qx_K_le (ls := [.ref b, .int (nI i), .ref y, .int (nI (p + 1)), .retAddr 0]) ⟨Or.inr rfl, Or.inr rfl, Or.inr rfl, Or.inr rfl, Or.inl rfl, trivial⟩ ?_
          exact z
        · skip
          exact absurd (by decide) h24
    · skip
      have e1 : q_dg w p = q → q_af f w (m + 1) p = q_af f w m (p + 1) := fun h => q_af_y (Or.inr (by rw [v2, h]))
      have e2 : ¬ q_dg w p = q → q_af f w (m + 1) p = false := fun h => q_af_n (by rw [v2]; exact nI_m1 (by omega)) (by rw [v2]; exact fun y => h (nI_eqT (by omega) (by omega) y).symm)
      refine qy_wp_ok (c := CX6_allFound) (cuts := [2]) vX6_allFound wX6_allFound 2000 2 _ _ _ ?_
      refine And.intro (by rw [show qx_sh qc_T _ b = _ from hq.1]; rfl) (Exists.intro 156 (And.intro rfl ?_))
      refine And.intro rfl (Exists.intro 16 (And.intro rfl ?_))
      refine And.intro rfl (Exists.intro 5 (Exists.intro (nI pe) (And.intro rfl (And.intro h5 ?_))))
      refine And.intro (fun h13 => ?_) (fun h13 => ?_)
      · skip
        have h13 := nI_leT (a := pe) (b := p) (by omega) (by omega) h13
        exact absurd h13 (by omega)
      · skip
        have h13 := nI_leF (a := pe) (b := p) (by omega) (by omega) h13
        refine Exists.intro (p) (Exists.intro (nI q) (And.intro rfl (And.intro ⟨10, hF.sh, by omega, by decide⟩ (And.intro (v1.trans v2) ?_))))
        refine Exists.intro ((-1)) (And.intro (by decide) ?_)
        refine And.intro (fun h24 => ?_) (fun h24 => ?_)
        · skip
          exact absurd h24 (nI_m1 (by omega))
        · skip
          refine And.intro (by rw [show qx_sh qc_T _ b = _ from hq.1]; rfl) (Exists.intro (b + 1) (And.intro rfl ?_))
          refine Exists.intro (i) (Exists.intro (nI w) (And.intro rfl (And.intro ⟨2001, (hq.2.1 1 (by decide) (by decide)), by omega, by decide⟩ (And.intro h1 ?_))))
          refine Exists.intro _ (And.intro (by decide) (qx_M_mono (c_placeIn hw (by omega)) ?_))
          rintro _ _ ⟨rfl, rfl⟩
          refine And.intro (fun h39 => ?_) (fun h39 => ?_)
          · skip
            have h39 := nI_eqT (a := q_dg w p) (b := q) (by omega) (by omega) h39
            refine Exists.intro (nI (p + 1)) (And.intro (nI_add _ _) ?_)
            refine qx_K_le (ls := [.ref b, .int (nI i), .ref y, .int (nI (p + 1)), .retAddr 0]) ⟨Or.inr rfl, Or.inr rfl, Or.inr rfl, Or.inr rfl, Or.inl rfl, trivial⟩ ?_
            rw [e1 h39]
            exact z
          · skip
            have h39 := nI_neT (a := q_dg w p) (b := q) (by omega) (by omega) h39
            refine Exists.intro (nI 0) (And.intro rfl ?_)
            refine And.intro (Or.inl rfl) ?_
            rw [e2 h39]
            exact ⟨rfl, rfl⟩
theorem c_allF {G : qx_G} {σ : qx_S} {b y i w pe : Nat} {f : Nat → Int32} (hq : shQ σ b) (h5 : qx_mi σ 16 5 = nI pe) (hpe : pe ≤ 10) (h1 : qx_mi σ (b + 1) i = nI w) (hi : i < 2001) (hw : w < 1073741824) (hF : cF σ y pe f) : qx_M G qc_T 1 YX6_allFound [.ref b, .int (nI i), .ref y] σ (qr (bI (q_af f w pe 0)) σ) := by
  have lo := l_allF (G := G) hq h5 hpe h1 hi hw hF pe 0 (by omega)
  refine qx_M_in rfl (Nat.le_of_ble_eq_true rfl) ?_
  refine qy_wp_ok (c := CX6_allFound) (cuts := [2]) vX6_allFound wX6_allFound 2000 0 _ _ _ ?_
  refine Exists.intro (nI 0) (And.intro rfl ?_)
  exact lo
/-! steps of growing -/
def q_gro (S : qS) (rf : Option qR) (Q : q_Q) : q_Q := if q_gok Q = true then q_qg S rf Q else Q
def q_grn (S : qS) (rf : Option qR) : Nat → q_Q → q_Q
  | 0, Q => Q
  | m + 1, Q => q_grn S rf m (q_gro S rf Q)
theorem q_gro_no {S : qS} {rf : Option qR} {Q : q_Q} (h : q_gok Q = false) : q_gro S rf Q = Q := if_neg (by rw [h]; decide)
theorem q_gro_y {S : qS} {rf : Option qR} {Q : q_Q} (h : q_gok Q = true) : q_gro S rf Q = q_qg S rf Q := if_pos h
theorem q_grn_no {S : qS} {rf : Option qR} {Q : q_Q} (h : q_gok Q = false) : ∀ m, q_grn S rf m Q = Q
  | 0 => rfl
  | m + 1 => by
    show q_grn S rf m (q_gro S rf Q) = Q
    rw [q_gro_no h]
    exact q_grn_no h m
theorem q_grn_add {S : qS} {rf : Option qR} : ∀ (m n : Nat) (Q : q_Q), q_grn S rf (m + n) Q = q_grn S rf n (q_grn S rf m Q)
  | 0, n, Q => by rw [Nat.zero_add]; rfl
  | m + 1, n, Q => by
    rw [show m + 1 + n = (m + n) + 1 by omega]
    exact q_grn_add m n (q_gro S rf Q)
theorem l_growAll {G : qx_G} {σ0 : qx_S} {S : qS} {rf : Option qR} {e b : Nat} : ∀ (m i : Nat) (σ : qx_S) (Q : q_Q), m + i = 2001 → vQ σ0 S rf e b σ Q → qx_K G qc_T 6 RX6 YX6_growAll 2 [.ref b, .int (nI i)] [] σ (fun r s => r = none ∧ vQ σ0 S rf e b s (q_grn S rf m Q)) := by
  intro m
  induction m with
  | zero =>
    intro i σ Q hi hv
    obtain rfl : i = 2001 := by omega
    refine qy_wp_ok (c := CX6_growAll) (cuts := [2]) vX6_growAll wX6_growAll 2000 2 _ _ _ ?_
    refine Exists.intro (nI 2001) (And.intro rfl ?_)
    refine And.intro (fun h6 => ?_) (fun h6 => ?_)
    · skip
      exact ⟨rfl, hv⟩
    · skip
      exact absurd (by decide) h6
  | succ m ih =>
    intro i σ Q hi hv
    have eN : q_gok Q = false → q_grn S rf (m + 1) Q = q_gro S rf Q := fun h => by rw [q_grn_no h, q_gro_no h]
    refine qy_wp_ok (c := CX6_growAll) (cuts := [2]) vX6_growAll wX6_growAll 2000 2 _ _ _ ?_
    refine Exists.intro (nI 2001) (And.intro rfl ?_)
    refine And.intro (fun h6 => ?_) (fun h6 => ?_)
    · skip
      have h6 := nI_leT (a := 2001) (b := i) (by decide) (by omega) h6
      exact absurd h6 (by omega)
    · skip
      have h6 := nI_leF (a := 2001) (b := i) (by decide) (by omega) h6
      refine And.intro ((congrArg Prod.fst (hv.1.1.1)).trans rfl) (Exists.intro _ (And.intro (by decide) (qx_M_mono (c_grow hv) ?_)))
      rintro _ ρ ⟨rfl, vρ⟩
      refine And.intro (fun h13 => ?_) (fun h13 => ?_)
      · skip
        have h13 := bI_t h13
        refine Exists.intro (nI (i + 1)) (And.intro (nI_add _ _) ?_)
        exact ih (i + 1) ρ (q_gro S rf Q) (by omega) vρ
      · skip
        have h13 := bI_f h13
        rw [eN h13]
        exact ⟨rfl, vρ⟩
theorem c_growAll {G : qx_G} {σ0 σ : qx_S} {S : qS} {rf : Option qR} {e b : Nat} {Q : q_Q} (hv : vQ σ0 S rf e b σ Q) : qx_M G qc_T 6 YX6_growAll [.ref b] σ (fun r s => r = none ∧ vQ σ0 S rf e b s (q_grn S rf 2001 Q)) := by
  have lo := l_growAll (G := G) 2001 0 σ Q (by omega) hv
  refine qx_M_in rfl (Nat.le_of_ble_eq_true rfl) ?_
  refine qy_wp_ok (c := CX6_growAll) (cuts := [2]) vX6_growAll wX6_growAll 2000 0 _ _ _ ?_
  refine Exists.intro (nI 0) (And.intro rfl ?_)
  exact lo
/-- the older ones stay -/
def q_pf (Q Q' : q_Q) : Prop := (Q.1 ≤ Q'.1 ∧ Q.2.1 ≤ Q'.2.1) ∧ ∀ i, i < Q.1 → Q'.2.2.1 i = Q.2.2.1 i ∧ Q'.2.2.2.1 i = Q.2.2.2.1 i ∧ Q'.2.2.2.2.1 i = Q.2.2.2.2.1 i ∧ Q'.2.2.2.2.2.1 i = Q.2.2.2.2.2.1 i
theorem q_pf.rf {Q : q_Q} : q_pf Q Q := ⟨⟨Nat.le_refl _, Nat.le_refl _⟩, fun _ _ => ⟨rfl, rfl, rfl, rfl⟩⟩
theorem q_pf.tr {A B C : q_Q} (h : q_pf A B) (k : q_pf B C) : q_pf A C := by
  refine ⟨⟨Nat.le_trans h.1.1 k.1.1, Nat.le_trans h.1.2 k.1.2⟩, fun i hi => ?_⟩
  have h1 := h.2 i hi
  have k1 := k.2 i (Nat.lt_of_lt_of_le hi h.1.1)
  exact ⟨k1.1.trans h1.1, k1.2.1.trans h1.2.1, k1.2.2.1.trans h1.2.2.1, k1.2.2.2.trans h1.2.2.2⟩
theorem q_pf_ad (Q : q_Q) (w f pr : Nat) : q_pf Q (q_ad Q w f pr) ∧ (q_ad Q w f pr).2.1 = Q.2.1 := by
  unfold q_ad
  split
  · split
    · exact ⟨⟨⟨Nat.le_refl _, Nat.le_refl _⟩, fun _ _ => ⟨rfl, rfl, rfl, rfl⟩⟩, rfl⟩
    · exact ⟨q_pf.rf, rfl⟩
  · split
    · exact ⟨q_pf.rf, rfl⟩
    · refine ⟨⟨⟨Nat.le_succ _, Nat.le_refl _⟩, fun i hi => ?_⟩, rfl⟩
      have hn : i ≠ Q.1 := by omega
      exact ⟨va_up_ne _ _ hn, va_up_ne _ _ hn, va_up_ne _ _ hn, va_up_ne _ _ hn⟩
theorem q_pf_qv (S : qS) (rf : Option qR) (k w a b : Nat) (Q : q_Q) : q_pf Q (q_qv S rf k w a b Q) ∧ (q_qv S rf k w a b Q).2.1 = Q.2.1 := by
  unfold q_qv
  split
  · exact ⟨q_pf.rf, rfl⟩
  · split
    · exact q_pf_ad _ _ _ _
    · exact ⟨q_pf.rf, rfl⟩
theorem q_pf_it {f : Nat → q_Q → q_Q} (hf : ∀ i Q, q_pf Q (f i Q) ∧ (f i Q).2.1 = Q.2.1) : ∀ (m i : Nat) (Q : q_Q), q_pf Q (q_itQ f m i Q) ∧ (q_itQ f m i Q).2.1 = Q.2.1
  | 0, _, _ => ⟨q_pf.rf, rfl⟩
  | m + 1, i, Q => by
    have h1 := hf i Q
    have h2 := q_pf_it hf m (i + 1) (f i Q)
    exact ⟨h1.1.tr h2.1, h2.2.trans h1.2⟩
theorem q_pf_qa (S : qS) (rf : Option qR) (k w : Nat) (Q : q_Q) : q_pf Q (q_qa S rf k w Q) ∧ (q_qa S rf k w Q).2.1 = Q.2.1 :=
  q_pf_it (fun _ _ => q_pf_it (fun _ _ => q_pf_qv _ _ _ _ _ _ _) _ _ _) _ _ _
theorem q_pf_qg (S : qS) (rf : Option qR) (Q : q_Q) : q_pf Q (q_qg S rf Q) ∧ (q_qg S rf Q).2.1 = Q.2.1 + 1 := by
  have h := q_pf_qa S rf Q.2.1 (Q.2.2.1 Q.2.1) Q
  exact ⟨⟨⟨h.1.1.1, Nat.le_succ _⟩, h.1.2⟩, rfl⟩
theorem q_pf_gro (S : qS) (rf : Option qR) (Q : q_Q) : q_pf Q (q_gro S rf Q) := by
  unfold q_gro
  split
  · exact (q_pf_qg S rf Q).1
  · exact q_pf.rf
theorem q_pf_grn (S : qS) (rf : Option qR) : ∀ (m : Nat) (Q : q_Q), q_pf Q (q_grn S rf m Q)
  | 0, _ => q_pf.rf
  | m + 1, Q => (q_pf_gro S rf Q).tr (q_pf_grn S rf m (q_gro S rf Q))

