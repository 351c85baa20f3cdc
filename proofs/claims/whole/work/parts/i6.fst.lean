/-! THE CLASS: the first SITUATION of a goal -/
/-- what firstOf answers -/
def q_frA (P : Nat → Bool) (Q : q_Q) (v : Int32) : Prop := (∃ i, v = nI i ∧ i < Q.1 ∧ i < 2001 ∧ P (Q.2.2.1 i) = true ∧ ∀ j, j < i → P (Q.2.2.1 j) = false) ∨ (v = -2 ∧ q_gok Q = false ∧ Q.1 ≤ 2000 ∧ ∀ j, j < Q.1 → P (Q.2.2.1 j) = false) ∨ (v = -3 ∧ 2001 ≤ Q.1 ∧ ∀ j, j < Q.1 → P (Q.2.2.1 j) = false)
theorem vQ.h5 {σ0 σ : qx_S} {S : qS} {rf : Option qR} {e b : Nat} {Q : q_Q} (hv : vQ σ0 S rf e b σ Q) : qx_mi σ 16 5 = nI (s_n S 1) := hv.2.1.2.1.1.2.1.trans hv.2.1.1.1.2.1.2.1.1
theorem vQ.pe {σ0 σ : qx_S} {S : qS} {rf : Option qR} {e b : Nat} {Q : q_Q} (hv : vQ σ0 S rf e b σ Q) : s_n S 1 ≤ 10 := hv.2.1.1.pe
theorem vQ.cF {σ0 σ : qx_S} {S : qS} {rf : Option qR} {e b y pe : Nat} {Q : q_Q} {f : Nat → Int32} (hv : vQ σ0 S rf e b σ Q) (h : cF σ0 y pe f) : cF σ y pe f := h.gq hv.2.2.1 hv.1.2.1.1
theorem q_gok_no {Q : q_Q} (h : q_gok Q = false) (h2 : Q.1 ≤ 2000) : Q.1 ≤ Q.2.1 := by
  unfold q_gok at h
  rw [decide_eq_false (show ¬ 2001 ≤ Q.1 by omega)] at h
  rcases Nat.lt_or_ge Q.2.1 Q.1 with z | z
  · rw [decide_eq_true z] at h
    exact absurd h (by decide)
  · exact z
theorem q_gok_y {Q : q_Q} (h : q_gok Q = true) : Q.2.1 < Q.1 ∧ Q.1 ≤ 2000 := by
  unfold q_gok at h
  simp only [Bool.and_eq_true, Bool.not_eq_true'] at h
  have h1 := of_decide_eq_true h.1
  have h2 := of_decide_eq_false h.2
  omega
theorem q_gok_i {Q : q_Q} (h : Q.2.1 < Q.1) (h2 : Q.1 ≤ 2000) : q_gok Q = true := by
  unfold q_gok
  rw [decide_eq_true h, decide_eq_false (show ¬ 2001 ≤ Q.1 by omega)]
  rfl
theorem l_fiI {G : qx_G} {σ0 : qx_S} {S : qS} {rf : Option qR} {e b y w : Nat} {P : Nat → Bool} {Φ : qx_F} {Q0 : q_Q} (hw : w < 2001) (key : ∀ (n : Nat) (s : qx_S), vQ σ0 S rf e b s (q_grn S rf n Q0) → w < (q_grn S rf n Q0).1 → (∀ j, j < w → P ((q_grn S rf n Q0).2.2.1 j) = false) → qx_K G qc_T 6 RX6 YX6_firstOf 42 [.ref b, .ref y, .int (nI w), .retAddr 0] [] s Φ) (hno : ∀ (n : Nat) (s : qx_S), vQ σ0 S rf e b s (q_grn S rf n Q0) → q_frA P (q_grn S rf n Q0) (-2) → Φ (some (.int (-2))) s) : ∀ (m i n : Nat) (σ : qx_S), m + i = 2001 → vQ σ0 S rf e b σ (q_grn S rf n Q0) → w ≤ (q_grn S rf n Q0).1 → i ≤ (q_grn S rf n Q0).2.1 → (∀ j, j < w → P ((q_grn S rf n Q0).2.2.1 j) = false) → qx_K G qc_T 6 RX6 YX6_firstOf 11 [.ref b, .ref y, .int (nI w), .int (nI i)] [] σ Φ := by
  intro m
  induction m with
  | zero =>
    intro i n σ hi hv hwq hig hP
    obtain rfl : i = 2001 := by omega
    have hg := hv.1.2.2.2.2.2.1
    refine qy_wp_ok (c := CX6_firstOf) (cuts := [11, 42]) vX6_firstOf wX6_firstOf 2000 11 _ _ _ ?_
    refine Exists.intro (nI 2001) (And.intro rfl ?_)
    refine And.intro (fun h15 => ?_) (fun h15 => ?_)
    · skip
      refine qx_K_le (ls := [.ref b, .ref y, .int (nI w), .retAddr 0]) ⟨Or.inr rfl, Or.inr rfl, Or.inr rfl, Or.inl rfl, trivial⟩ ?_
      exact key n _ hv (by omega) hP
    · skip
      exact absurd (by decide) h15
  | succ m ih =>
    intro i n σ hi hv hwq hig hP
    obtain ⟨Q, eQ⟩ : ∃ Q, Q = q_grn S rf n Q0 := ⟨_, rfl⟩
    have e1 : q_grn S rf (n + 1) Q0 = q_gro S rf Q := by rw [q_grn_add n 1 Q0, ← eQ]; rfl
    have kk := key n
    have nn := hno (n + 1)
    have ii := ih (i + 1) (n + 1)
    rw [e1] at nn ii
    rw [← eQ] at hv hwq hig hP kk
    have pf := q_pf_gro S rf Q
    have hz := hv.1.2.2.2.2.1
    have hP2 : ∀ j, j < w → P ((q_gro S rf Q).2.2.1 j) = false := fun j hj => by rw [(pf.2 j (by omega)).1]; exact hP j hj
    have m7 : qx_mi σ b 7 = nI Q.1 := hv.1.2.2.1
    refine qy_wp_ok (c := CX6_firstOf) (cuts := [11, 42]) vX6_firstOf wX6_firstOf 2000 11 _ _ _ ?_
    refine Exists.intro (nI 2001) (And.intro rfl ?_)
    refine And.intro (fun h15 => ?_) (fun h15 => ?_)
    · skip
      have h15 := nI_leT (a := 2001) (b := i) (by decide) (by omega) h15
      exact absurd h15 (by omega)
    · skip
      have h15 := nI_leF (a := 2001) (b := i) (by decide) (by omega) h15
      refine And.intro (by rw [show qx_sh qc_T _ b = _ from hv.1.1.1]; rfl) (Exists.intro 7 (Exists.intro (nI Q.1) (And.intro rfl (And.intro m7 ?_))))
      refine And.intro (fun h23 => ?_) (fun h23 => ?_)
      · skip
        have h23 := nI_ltT (a := w) (b := Q.1) (by omega) (by omega) h23
        refine qx_K_le (ls := [.ref b, .ref y, .int (nI w), .retAddr 0]) ⟨Or.inr rfl, Or.inr rfl, Or.inr rfl, Or.inl rfl, trivial⟩ ?_
        exact kk _ hv (by omega) hP
      · skip
        have h23 := nI_ltF (a := w) (b := Q.1) (by omega) (by omega) h23
        refine And.intro ((congrArg Prod.fst (hv.1.1.1)).trans rfl) (Exists.intro _ (And.intro (by decide) (qx_M_mono (c_grow hv) ?_)))
        rintro _ ρ ⟨rfl, vρ⟩
        refine And.intro (fun h30 => ?_) (fun h30 => ?_)
        · skip
          have h30 := bI_t h30
          refine Exists.intro (nI (i + 1)) (And.intro (nI_add _ _) ?_)
          exact ii _ (by omega) vρ (Nat.le_trans hwq pf.1.1) (by rw [q_gro_y h30]; have := (q_pf_qg S rf Q).2; omega) hP2
        · skip
          have h30 := bI_f h30
          refine Exists.intro ((-2)) (And.intro (by decide) ?_)
          refine nn _ vρ (Or.inr (Or.inl ⟨rfl, ?_, ?_, fun j hj => ?_⟩))
          · rw [q_gro_no h30]; exact h30
          · rw [q_gro_no h30]; omega
          · rw [q_gro_no h30] at hj; exact hP2 j (by omega)
theorem l_fiO {G : qx_G} {σ0 : qx_S} {S : qS} {rf : Option qR} {e b y : Nat} {f : Nat → Int32} {Q0 : q_Q} (hF : cF σ0 y (s_n S 1) f) : ∀ (m w n : Nat) (σ : qx_S), m + w = 2001 → vQ σ0 S rf e b σ (q_grn S rf n Q0) → w ≤ (q_grn S rf n Q0).1 → (∀ j, j < w → q_af f ((q_grn S rf n Q0).2.2.1 j) (s_n S 1) 0 = false) → qx_K G qc_T 6 RX6 YX6_firstOf 2 [.ref b, .ref y, .int (nI w), .retAddr 0] [] σ (fun r s => ∃ n v, vQ σ0 S rf e b s (q_grn S rf n Q0) ∧ q_frA (fun w => q_af f w (s_n S 1) 0) (q_grn S rf n Q0) v ∧ r = some (.int v)) := by
  intro m
  induction m with
  | zero =>
    intro w n σ hm hv hwq hP
    obtain rfl : w = 2001 := by omega
    have hz := hv.1.2.2.2.2.1
    refine qy_wp_ok (c := CX6_firstOf) (cuts := [2, 11]) vX6_firstOf wX6_firstOf 2000 2 _ _ _ ?_
    refine Exists.intro (nI 2001) (And.intro rfl ?_)
    refine And.intro (fun h6 => ?_) (fun h6 => ?_)
    · skip
      refine Exists.intro ((-3)) (And.intro (by decide) ?_)
      exact ⟨n, -3, hv, Or.inr (Or.inr ⟨rfl, hwq, fun j hj => hP j (by omega)⟩), rfl⟩
    · skip
      exact absurd (by decide) h6
  | succ m ih =>
    intro w n σ hm hv hwq hP
    have key : ∀ (n : Nat) (s : qx_S), vQ σ0 S rf e b s (q_grn S rf n Q0) → w < (q_grn S rf n Q0).1 → (∀ j, j < w → q_af f ((q_grn S rf n Q0).2.2.1 j) (s_n S 1) 0 = false) → qx_K G qc_T 6 RX6 YX6_firstOf 42 [.ref b, .ref y, .int (nI w), .retAddr 0] [] s (fun r s => ∃ n v, vQ σ0 S rf e b s (q_grn S rf n Q0) ∧ q_frA (fun w => q_af f w (s_n S 1) 0) (q_grn S rf n Q0) v ∧ r = some (.int v)) := by
      intro n s hv hwq hP
      have nx := ih (w + 1) n s (by omega) hv (by omega)
      have c := (hv.1.2.2.2.2.2.2.1 w hwq).1
      have al := c_allF (G := G) (y := y) hv.1.1 hv.h5 hv.pe c.1 (by omega) c.2 (hv.cF hF)
      obtain ⟨B, eB⟩ : ∃ B, B = q_af f ((q_grn S rf n Q0).2.2.1 w) (s_n S 1) 0 := ⟨_, rfl⟩
      rw [← eB] at al
      refine qy_wp_ok (c := CX6_firstOf) (cuts := [2, 42]) vX6_firstOf wX6_firstOf 2000 42 _ _ _ ?_
      refine And.intro ((congrArg Prod.fst (hv.1.1.1)).trans rfl) (Exists.intro _ (And.intro (by decide) (qx_M_mono (al) ?_)))
      rintro _ _ ⟨rfl, rfl⟩
      refine And.intro (fun h48 => ?_) (fun h48 => ?_)
      · skip
        have h48 := bI_f h48
        refine Exists.intro (nI (w + 1)) (And.intro (nI_add _ _) ?_)
        refine nx (fun j hj => ?_)
        rcases Nat.lt_or_ge j w with z | z
        · exact hP j z
        · rw [show j = w by omega, ← eB]; exact h48
      · skip
        have h48 := bI_t h48
        exact ⟨n, _, hv, Or.inl ⟨w, rfl, hwq, by omega, eB.symm.trans h48, hP⟩, rfl⟩
    have lo := l_fiI (G := G) (y := y) (P := fun w => q_af f w (s_n S 1) 0) (Φ := fun r s => ∃ n v, vQ σ0 S rf e b s (q_grn S rf n Q0) ∧ q_frA (fun w => q_af f w (s_n S 1) 0) (q_grn S rf n Q0) v ∧ r = some (.int v)) (by omega) key (fun n s hv h => ⟨n, -2, hv, h, rfl⟩) 2001 0 n σ (by omega) hv hwq (Nat.zero_le _) hP
    refine qy_wp_ok (c := CX6_firstOf) (cuts := [2, 11]) vX6_firstOf wX6_firstOf 2000 2 _ _ _ ?_
    refine Exists.intro (nI 2001) (And.intro rfl ?_)
    refine And.intro (fun h6 => ?_) (fun h6 => ?_)
    · skip
      have h6 := nI_leT (a := 2001) (b := w) (by decide) (by omega) h6
      exact absurd h6 (by omega)
    · skip
      have h6 := nI_leF (a := 2001) (b := w) (by decide) (by omega) h6
      refine Exists.intro (nI 0) (And.intro rfl ?_)
      exact lo
theorem c_firstOf {G : qx_G} {σ0 σ : qx_S} {S : qS} {rf : Option qR} {e b y : Nat} {f : Nat → Int32} {Q : q_Q} (hF : cF σ0 y (s_n S 1) f) (hv : vQ σ0 S rf e b σ Q) : qx_M G qc_T 6 YX6_firstOf [.ref b, .ref y] σ (fun r s => ∃ n v, vQ σ0 S rf e b s (q_grn S rf n Q) ∧ q_frA (fun w => q_af f w (s_n S 1) 0) (q_grn S rf n Q) v ∧ r = some (.int v)) := by
  have lo := l_fiO (G := G) (Q0 := Q) hF 2001 0 0 σ (by omega) hv (Nat.zero_le _) (fun j hj => absurd hj (by omega))
  refine qx_M_in rfl (Nat.le_of_ble_eq_true rfl) ?_
  refine qy_wp_ok (c := CX6_firstOf) (cuts := [2]) vX6_firstOf wX6_firstOf 2000 0 _ _ _ ?_
  refine Exists.intro (nI 0) (And.intro rfl ?_)
  exact lo
/-! all of so many rings -/
def q_gt (S : qS) (rf : Option qR) (d : Nat) : Nat → q_Q → q_Q
  | 0, Q => Q
  | m + 1, Q => if Q.2.1 < Q.1 ∧ Q.2.2.2.1 Q.2.1 < d then (if q_gok Q = true then q_gt S rf d m (q_gro S rf Q) else Q) else Q
def q_gf (d : Nat) (Q : q_Q) : Bool := !decide (2001 ≤ Q.1) || decide (d < Q.2.2.2.1 2000)
theorem l_growT {G : qx_G} {σ0 : qx_S} {S : qS} {rf : Option qR} {e b d : Nat} {Φ : qx_F} (hd : d < 2147483648) {Z : q_Q} (key : ∀ s, vQ σ0 S rf e b s Z → qx_K G qc_T 6 RX6 YX6_growThrough 49 [.ref b, .int (nI d), .retAddr 0] [] s Φ) : ∀ (m i : Nat) (σ : qx_S) (Q : q_Q), m + i = 2001 → vQ σ0 S rf e b σ Q → q_gt S rf d m Q = Z → qx_K G qc_T 6 RX6 YX6_growThrough 2 [.ref b, .int (nI d), .int (nI i)] [] σ Φ := by
  intro m
  induction m with
  | zero =>
    intro i σ Q hi hv hz
    obtain rfl : i = 2001 := by omega
    have hz : Q = Z := hz
    rw [hz] at hv
    refine qy_wp_ok (c := CX6_growThrough) (cuts := [2, 49]) vX6_growThrough wX6_growThrough 2000 2 _ _ _ ?_
    refine Exists.intro (nI 2001) (And.intro rfl ?_)
    refine And.intro (fun h6 => ?_) (fun h6 => ?_)
    · skip
      refine qx_K_le (ls := [.ref b, .int (nI d), .retAddr 0]) ⟨Or.inr rfl, Or.inr rfl, Or.inl rfl, trivial⟩ ?_
      exact key _ hv
    · skip
      exact absurd (by decide) h6
  | succ m ih =>
    intro i σ Q hi hv hz
    have hzz := hv.1.2.2.2.2.1
    have hg := hv.1.2.2.2.2.2.1
    have hc := hv.1.2.2.2.2.2.2.1
    obtain ⟨k, ek⟩ : ∃ k, k = Q.2.1 := ⟨_, rfl⟩
    obtain ⟨dk, ed⟩ : ∃ dk, dk = Q.2.2.2.1 k := ⟨_, rfl⟩
    have m7 : qx_mi σ b 7 = nI Q.1 := hv.1.2.2.1
    have m8 : qx_mi σ b 8 = nI k := by rw [ek]; exact hv.1.2.2.2.1
    rw [← ek] at hg
    have e1 : ¬ k < Q.1 → Q = Z := fun h => by
      rw [← hz]
      exact (if_neg (by rw [← ek]; exact fun y => h y.1)).symm
    have e2 : ¬ dk < d → Q = Z := fun h => by
      rw [← hz]
      exact (if_neg (by rw [← ek, ← ed]; exact fun y => h y.2)).symm
    rcases Nat.lt_or_ge k Q.1 with hk | hk
    · have ck := (hc k hk).2.1
      have c1 : qx_mi σ (b + 2) k = nI dk := by rw [ed]; exact ck.1
      have c2 : dk ≤ k := by rw [ed]; exact ck.2
      have e3 : dk < d → q_gok Q = true → q_gt S rf d m (q_gro S rf Q) = Z := fun h h2 => by
        rw [← hz]
        exact ((if_pos (show Q.2.1 < Q.1 ∧ Q.2.2.2.1 Q.2.1 < d by rw [← ek, ← ed]; exact ⟨hk, h⟩)).trans (if_pos h2)).symm
      have e4 : dk < d → q_gok Q = false → q_gro S rf Q = Z := fun h h2 => by
        rw [← hz, q_gro_no h2]
        exact ((if_pos (show Q.2.1 < Q.1 ∧ Q.2.2.2.1 Q.2.1 < d by rw [← ek, ← ed]; exact ⟨hk, h⟩)).trans (if_neg (by rw [h2]; decide))).symm
      refine qy_wp_ok (c := CX6_growThrough) (cuts := [2, 49]) vX6_growThrough wX6_growThrough 2000 2 _ _ _ ?_
      refine Exists.intro (nI 2001) (And.intro rfl ?_)
      refine And.intro (fun h6 => ?_) (fun h6 => ?_)
      · skip
        have h6 := nI_leT (a := 2001) (b := i) (by decide) (by omega) h6
        exact absurd h6 (by omega)
      · skip
        have h6 := nI_leF (a := 2001) (b := i) (by decide) (by omega) h6
        refine And.intro (by rw [show qx_sh qc_T _ b = _ from hv.1.1.1]; rfl) (Exists.intro 8 (Exists.intro (nI k) (And.intro rfl (And.intro m8 ?_))))
        refine And.intro (by rw [show qx_sh qc_T _ b = _ from hv.1.1.1]; rfl) (Exists.intro 7 (Exists.intro (nI Q.1) (And.intro rfl (And.intro m7 ?_))))
        refine And.intro (fun h17 => ?_) (fun h17 => ?_)
        · skip
          have h17 := nI_leT (a := Q.1) (b := k) (by omega) (by omega) h17
          exact absurd h17 (by omega)
        · skip
          have h17 := nI_leF (a := Q.1) (b := k) (by omega) (by omega) h17
          refine And.intro (by rw [show qx_sh qc_T _ b = _ from hv.1.1.1]; rfl) (Exists.intro (b + 2) (And.intro rfl ?_))
          refine And.intro (by rw [show qx_sh qc_T _ b = _ from hv.1.1.1]; rfl) (Exists.intro 8 (Exists.intro (nI k) (And.intro rfl (And.intro m8 ?_))))
          refine Exists.intro (k) (Exists.intro (nI dk) (And.intro rfl (And.intro ⟨2001, (hv.1.1.2.1 2 (by decide) (by decide)), by omega, by decide⟩ (And.intro c1 ?_))))
          refine And.intro (fun h30 => ?_) (fun h30 => ?_)
          · skip
            have h30 := nI_leT (a := d) (b := dk) (by omega) (by omega) h30
            refine qx_K_le (ls := [.ref b, .int (nI d), .retAddr 0]) ⟨Or.inr rfl, Or.inr rfl, Or.inl rfl, trivial⟩ ?_
            exact key _ (by rw [← e2 (by omega)]; exact hv)
          · skip
            have h30 := nI_leF (a := d) (b := dk) (by omega) (by omega) h30
            refine And.intro ((congrArg Prod.fst (hv.1.1.1)).trans rfl) (Exists.intro _ (And.intro (by decide) (qx_M_mono (c_grow hv) ?_)))
            rintro _ ρ ⟨rfl, vρ⟩
            refine And.intro (fun h37 => ?_) (fun h37 => ?_)
            · skip
              have h37 := bI_t h37
              refine Exists.intro (nI (i + 1)) (And.intro (nI_add _ _) ?_)
              exact ih (i + 1) ρ (q_gro S rf Q) (by omega) vρ (e3 (by omega) h37)
            · skip
              have h37 := bI_f h37
              refine qx_K_le (ls := [.ref b, .int (nI d), .retAddr 0]) ⟨Or.inr rfl, Or.inr rfl, Or.inl rfl, trivial⟩ ?_
              exact key _ (by rw [← e4 (by omega) h37]; exact vρ)
    · skip
      refine qy_wp_ok (c := CX6_growThrough) (cuts := [2, 49]) vX6_growThrough wX6_growThrough 2000 2 _ _ _ ?_
      refine Exists.intro (nI 2001) (And.intro rfl ?_)
      refine And.intro (fun h6 => ?_) (fun h6 => ?_)
      · skip
        have h6 := nI_leT (a := 2001) (b := i) (by decide) (by omega) h6
        exact absurd h6 (by omega)
      · skip
        have h6 := nI_leF (a := 2001) (b := i) (by decide) (by omega) h6
        refine And.intro (by rw [show qx_sh qc_T _ b = _ from hv.1.1.1]; rfl) (Exists.intro 8 (Exists.intro (nI k) (And.intro rfl (And.intro m8 ?_))))
        refine And.intro (by rw [show qx_sh qc_T _ b = _ from hv.1.1.1]; rfl) (Exists.intro 7 (Exists.intro (nI Q.1) (And.intro rfl (And.intro m7 ?_))))
        refine And.intro (fun h17 => ?_) (fun h17 => ?_)
        · skip
          have h17 := nI_leT (a := Q.1) (b := k) (by omega) (by omega) h17
          refine qx_K_le (ls := [.ref b, .int (nI d), .retAddr 0]) ⟨Or.inr rfl, Or.inr rfl, Or.inl rfl, trivial⟩ ?_
          exact key _ (by rw [← e1 (by omega)]; exact hv)
        · skip
          have h17 := nI_leF (a := Q.1) (b := k) (by omega) (by omega) h17
          exact absurd h17 (by omega)
theorem c_growThrough {G : qx_G} {σ0 σ : qx_S} {S : qS} {rf : Option qR} {e b d : Nat} {Q : q_Q} (hd : d < 2147483648) (hv : vQ σ0 S rf e b σ Q) : qx_M G qc_T 6 YX6_growThrough [.ref b, .int (nI d)] σ (fun r s => r = some (.int (bI (q_gf d (q_gt S rf d 2001 Q)))) ∧ vQ σ0 S rf e b s (q_gt S rf d 2001 Q)) := by
  obtain ⟨Z, eZ⟩ : ∃ Z, Z = q_gt S rf d 2001 Q := ⟨_, rfl⟩
  have key : ∀ s, vQ σ0 S rf e b s Z → qx_K G qc_T 6 RX6 YX6_growThrough 49 [.ref b, .int (nI d), .retAddr 0] [] s (fun r s => r = some (.int (bI (q_gf d Z))) ∧ vQ σ0 S rf e b s Z) := by
    intro s hv
    have hz := hv.1.2.2.2.2.1
    have m7 : qx_mi s b 7 = nI Z.1 := hv.1.2.2.1
    rcases Nat.lt_or_ge Z.1 2001 with h | h
    · have eg : q_gf d Z = true := by
        unfold q_gf
        rw [decide_eq_false (show ¬ 2001 ≤ Z.1 by omega)]
        rfl
      rw [eg]
      refine qy_wp_ok (c := CX6_growThrough) (cuts := []) vX6_growThrough wX6_growThrough 2000 49 _ _ _ ?_
      refine And.intro ((congrArg Prod.fst (hv.1.1.1)).trans rfl) (Exists.intro _ (And.intro (by decide) (qx_M_mono (c_full hv.1.1.1 m7 hz) ?_)))
      rintro _ _ ⟨rfl, rfl⟩
      refine And.intro (fun h53 => ?_) (fun h53 => ?_)
      · skip
        have h53 := bI_f h53
        refine Exists.intro (nI 1) (And.intro rfl ?_)
        refine And.intro (Or.inr rfl) ?_
        exact ⟨rfl, hv⟩
      · skip
        have h53 := bI_t h53
        exact absurd (h53.symm.trans (decide_eq_false (by omega))) (by decide)
    · obtain ⟨dk, ed⟩ : ∃ dk, dk = Z.2.2.2.1 2000 := ⟨_, rfl⟩
      have ck := (hv.1.2.2.2.2.2.2.1 2000 (by omega)).2.1
      have c1 : qx_mi s (b + 2) 2000 = nI dk := by rw [ed]; exact ck.1
      have c2 : dk ≤ 2000 := by rw [ed]; exact ck.2
      have eg : q_gf d Z = decide (d < dk) := by
        unfold q_gf
        rw [decide_eq_true h, ← ed]
        rfl
      rw [eg]
      refine qy_wp_ok (c := CX6_growThrough) (cuts := []) vX6_growThrough wX6_growThrough 2000 49 _ _ _ ?_
      refine And.intro ((congrArg Prod.fst (hv.1.1.1)).trans rfl) (Exists.intro _ (And.intro (by decide) (qx_M_mono (c_full hv.1.1.1 m7 hz) ?_)))
      rintro _ _ ⟨rfl, rfl⟩
      refine And.intro (fun h53 => ?_) (fun h53 => ?_)
      · skip
        have h53 := bI_f h53
        exact absurd (h53.symm.trans (decide_eq_true h)) (by decide)
      · skip
        have h53 := bI_t h53
        refine And.intro (by rw [show qx_sh qc_T _ b = _ from hv.1.1.1]; rfl) (Exists.intro (b + 2) (And.intro rfl ?_))
        refine Exists.intro (nI 2000) (And.intro rfl ?_)
        refine Exists.intro (2000) (Exists.intro (nI dk) (And.intro rfl (And.intro ⟨2001, (hv.1.1.2.1 2 (by decide) (by decide)), by decide, by decide⟩ (And.intro c1 ?_))))
        refine And.intro (fun h65 => ?_) (fun h65 => ?_)
        · skip
          have h65 := nI_leT (a := dk) (b := d) (by omega) (by omega) h65
          refine Exists.intro (nI 0) (And.intro rfl ?_)
          refine And.intro (Or.inl rfl) ?_
          first | exact ⟨by rw [decide_eq_true (show d < dk by omega)]; rfl, hv⟩ | exact ⟨by rw [decide_eq_false (show ¬ d < dk by omega)]; rfl, hv⟩
        · skip
          have h65 := nI_leF (a := dk) (b := d) (by omega) (by omega) h65
          refine Exists.intro (nI 1) (And.intro rfl ?_)
          refine And.intro (Or.inr rfl) ?_
          first | exact ⟨by rw [decide_eq_true (show d < dk by omega)]; rfl, hv⟩ | exact ⟨by rw [decide_eq_false (show ¬ d < dk by omega)]; rfl, hv⟩
  have lo := l_growT (G := G) hd key 2001 0 σ Q (by omega) hv eZ.symm
  rw [← eZ]
  refine qx_M_in rfl (Nat.le_of_ble_eq_true rfl) ?_
  refine qy_wp_ok (c := CX6_growThrough) (cuts := [2]) vX6_growThrough wX6_growThrough 2000 0 _ _ _ ?_
  refine Exists.intro (nI 0) (And.intro rfl ?_)
  exact lo

