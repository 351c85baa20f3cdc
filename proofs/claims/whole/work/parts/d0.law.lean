/-! THE CLASS: LAWS reckon -/
theorem c_joined {G : qx_G} {σ : qx_S} {c : Nat} {x y : Int64} (h2 : 100012 ≤ c) (h13 : c < 100024) (h11 : c ≠ 100021) : qx_M G qc_T 0 YX2_joined [.int (nI c), .long x, .long y] σ (fun r s => r = some (.long (q_op (c - 100010) x y)) ∧ ql [] σ s) := by
  refine qx_M_in rfl (Nat.le_of_ble_eq_true rfl) ?_
  refine qy_wp_ok (c := CX2_joined) (cuts := []) vX2_joined wX2_joined 2000 0 _ _ _ ?_
  refine And.intro (fun h1 => ?_) (fun h1_100012 => ?_)
  · skip
    have h1 := nI_eqT (b := 100012) (by omega) (by decide) h1
    refine Exists.intro (x + y) (And.intro rfl ?_)
    subst h1; exact ⟨rfl, qf.rf⟩
  have h1_100012 := nI_neT (b := 100012) (by omega) (by decide) h1_100012
  refine And.intro (fun h1 => ?_) (fun h1_100013 => ?_)
  · skip
    have h1 := nI_eqT (b := 100013) (by omega) (by decide) h1
    refine Exists.intro (x - y) (And.intro rfl ?_)
    subst h1; exact ⟨rfl, qf.rf⟩
  have h1_100013 := nI_neT (b := 100013) (by omega) (by decide) h1_100013
  refine And.intro (fun h1 => ?_) (fun h1_100014 => ?_)
  · skip
    have h1 := nI_eqT (b := 100014) (by omega) (by decide) h1
    refine Exists.intro (x * y) (And.intro rfl ?_)
    subst h1; exact ⟨rfl, qf.rf⟩
  have h1_100014 := nI_neT (b := 100014) (by omega) (by decide) h1_100014
  refine And.intro (fun h1 => ?_) (fun h1_100015 => ?_)
  · skip
    have h1 := nI_eqT (b := 100015) (by omega) (by decide) h1
    refine Exists.intro (lN 0) (And.intro rfl ?_)
    refine Exists.intro (lg_cmp y (lN 0)) (And.intro rfl ?_)
    refine And.intro (fun h75 => ?_) (fun h75 => ?_)
    · skip
      have h75 := fun z => h75 ((lg_cmp_eq _ _).mpr z)
      refine And.intro (fun z => h75 z) (Exists.intro (x / y) (And.intro rfl ?_))
      subst h1; exact ⟨congrArg (fun z => some (Value.long z)) (by first | exact (if_neg h75).symm | exact (if_pos h75).symm), qf.rf⟩
    · skip
      have h75 := (lg_cmp_eq _ _).mp h75
      refine Exists.intro (lN 0) (And.intro rfl ?_)
      subst h1; exact ⟨congrArg (fun z => some (Value.long z)) (by first | exact (if_neg h75).symm | exact (if_pos h75).symm), qf.rf⟩
  have h1_100015 := nI_neT (b := 100015) (by omega) (by decide) h1_100015
  refine And.intro (fun h1 => ?_) (fun h1_100016 => ?_)
  · skip
    have h1 := nI_eqT (b := 100016) (by omega) (by decide) h1
    refine Exists.intro (lg_cmp x y) (And.intro rfl ?_)
    refine And.intro (fun h89 => ?_) (fun h89 => ?_)
    · skip
      have h89 := (lg_cmp_ge _ _).mp h89
      refine Exists.intro (lN 0) (And.intro rfl ?_)
      subst h1; exact ⟨congrArg (fun z => some (Value.long z)) (by first | exact (if_pos h89).symm | exact (if_neg (Int64.not_lt.mpr h89)).symm | exact (if_pos (Int64.not_le.mp h89)).symm), qf.rf⟩
    · skip
      have h89 := fun z => h89 ((lg_cmp_ge _ _).mpr z)
      refine Exists.intro (lN 1) (And.intro rfl ?_)
      subst h1; exact ⟨congrArg (fun z => some (Value.long z)) (by first | exact (if_pos h89).symm | exact (if_neg (Int64.not_lt.mpr h89)).symm | exact (if_pos (Int64.not_le.mp h89)).symm), qf.rf⟩
  have h1_100016 := nI_neT (b := 100016) (by omega) (by decide) h1_100016
  refine And.intro (fun h1 => ?_) (fun h1_100017 => ?_)
  · skip
    have h1 := nI_eqT (b := 100017) (by omega) (by decide) h1
    refine Exists.intro (lg_cmp x y) (And.intro rfl ?_)
    refine And.intro (fun h101 => ?_) (fun h101 => ?_)
    · skip
      have h101 := (lg_cmp_gt _ _).mp h101
      refine Exists.intro (lN 0) (And.intro rfl ?_)
      subst h1; exact ⟨congrArg (fun z => some (Value.long z)) (by first | exact (if_pos h101).symm | exact (if_neg (Int64.not_le.mpr h101)).symm | exact (if_pos (Int64.not_lt.mp h101)).symm), qf.rf⟩
    · skip
      have h101 := fun z => h101 ((lg_cmp_gt _ _).mpr z)
      refine Exists.intro (lN 1) (And.intro rfl ?_)
      subst h1; exact ⟨congrArg (fun z => some (Value.long z)) (by first | exact (if_pos h101).symm | exact (if_neg (Int64.not_le.mpr h101)).symm | exact (if_pos (Int64.not_lt.mp h101)).symm), qf.rf⟩
  have h1_100017 := nI_neT (b := 100017) (by omega) (by decide) h1_100017
  refine And.intro (fun h1 => ?_) (fun h1_100018 => ?_)
  · skip
    have h1 := nI_eqT (b := 100018) (by omega) (by decide) h1
    refine Exists.intro (lg_cmp x y) (And.intro rfl ?_)
    refine And.intro (fun h113 => ?_) (fun h113 => ?_)
    · skip
      have h113 := fun z => h113 ((lg_cmp_eq _ _).mpr z)
      refine Exists.intro (lN 0) (And.intro rfl ?_)
      subst h1; exact ⟨congrArg (fun z => some (Value.long z)) (by first | exact (if_pos h113).symm | exact (if_neg h113).symm), qf.rf⟩
    · skip
      have h113 := (lg_cmp_eq _ _).mp h113
      refine Exists.intro (lN 1) (And.intro rfl ?_)
      subst h1; exact ⟨congrArg (fun z => some (Value.long z)) (by first | exact (if_pos h113).symm | exact (if_neg h113).symm), qf.rf⟩
  have h1_100018 := nI_neT (b := 100018) (by omega) (by decide) h1_100018
  refine And.intro (fun h1 => ?_) (fun h1_100019 => ?_)
  · skip
    have h1 := nI_eqT (b := 100019) (by omega) (by decide) h1
    refine Exists.intro (lg_cmp x y) (And.intro rfl ?_)
    refine And.intro (fun h125 => ?_) (fun h125 => ?_)
    · skip
      have h125 := (lg_cmp_lt _ _).mp h125
      refine Exists.intro (lN 0) (And.intro rfl ?_)
      subst h1; exact ⟨congrArg (fun z => some (Value.long z)) (by first | exact (if_pos (Int64.not_lt.mp h125)).symm | exact (if_neg (Int64.not_le.mpr h125)).symm), qf.rf⟩
    · skip
      have h125 := fun z => h125 ((lg_cmp_lt _ _).mpr z)
      refine Exists.intro (lN 1) (And.intro rfl ?_)
      subst h1; exact ⟨congrArg (fun z => some (Value.long z)) (by first | exact (if_pos (Int64.not_lt.mp h125)).symm | exact (if_neg (Int64.not_le.mpr h125)).symm), qf.rf⟩
  have h1_100019 := nI_neT (b := 100019) (by omega) (by decide) h1_100019
  refine And.intro (fun h1 => ?_) (fun h1_100020 => ?_)
  · skip
    have h1 := nI_eqT (b := 100020) (by omega) (by decide) h1
    refine Exists.intro (lg_cmp x y) (And.intro rfl ?_)
    refine And.intro (fun h137 => ?_) (fun h137 => ?_)
    · skip
      have h137 := (lg_cmp_le _ _).mp h137
      refine Exists.intro (lN 0) (And.intro rfl ?_)
      subst h1; exact ⟨congrArg (fun z => some (Value.long z)) (by first | exact (if_pos (Int64.not_le.mp h137)).symm | exact (if_neg (Int64.not_lt.mpr h137)).symm), qf.rf⟩
    · skip
      have h137 := fun z => h137 ((lg_cmp_le _ _).mpr z)
      refine Exists.intro (lN 1) (And.intro rfl ?_)
      subst h1; exact ⟨congrArg (fun z => some (Value.long z)) (by first | exact (if_pos (Int64.not_le.mp h137)).symm | exact (if_neg (Int64.not_lt.mpr h137)).symm), qf.rf⟩
  have h1_100020 := nI_neT (b := 100020) (by omega) (by decide) h1_100020
  refine And.intro (fun h1 => ?_) (fun h1_100021 => ?_)
  · skip
    have h1 := nI_eqT (b := 100021) (by omega) (by decide) h1
    exact absurd h1 h11
  have h1_100021 := nI_neT (b := 100021) (by omega) (by decide) h1_100021
  refine And.intro (fun h1 => ?_) (fun h1_100022 => ?_)
  · skip
    have h1 := nI_eqT (b := 100022) (by omega) (by decide) h1
    refine Exists.intro (x &&& y) (And.intro rfl ?_)
    subst h1; exact ⟨rfl, qf.rf⟩
  have h1_100022 := nI_neT (b := 100022) (by omega) (by decide) h1_100022
  refine Exists.intro (x ||| y) (And.intro rfl ?_)
  obtain rfl : c = 100023 := (by omega); exact ⟨rfl, qf.rf⟩
abbrev kSt : List (Nat × Option Nat) := [(159, none)]
theorem q_stk_wl {σ s : qx_S} {n : Nat} {x : Int64} (e : s = qx_wl σ 159 n x) : q_stk (qx_ml s 159) (n + 1) = x :: q_stk (qx_ml σ 159) n := by
  show qx_ml s 159 n :: q_stk (qx_ml s 159) n = _
  rw [show qx_ml s 159 n = x from qn_leq e, q_stk_congr n (f := qx_ml σ 159) (fun j hj => qn_lne e (Or.inr (by omega)))]
/-- the steps of the rule at a -/
def uS (σ : qx_S) (a : Nat) (R : qR) : Prop := shR σ a ∧ 191 ≤ a ∧ qx_mr σ 156 7 = some a ∧ ∀ i, i < q_len R → qx_mi σ (a + 1) i = nI (q_cd R i)
theorem uS.fr {σ s : qx_S} {a : Nat} {R : qR} (h : uS σ a R) (f : ql kSt σ s) : uS s a R := by
  have ha := h.2.1
  exact ⟨h.1.fr f, ha, (f.r _ _).trans h.2.2.1, fun i hi => (f.i _ _ (pL_ne (by simp; omega))).trans (h.2.2.2 i hi)⟩
theorem l_workOut {G : qx_G} {R : qR} {a : Nat} {w : Nat → Int64} {e : Nat} (he : e ≤ q_len R) (hl : q_len R ≤ 400) (hcd : ∀ i, i < q_len R → q_cd R i < 100024) {σ0 : qx_S} (hu : uS σ0 a R) (hw : ∀ v, v < 12 → (qx_mi σ0 158 v).toInt64 = w v) {ts' : List Bool} {b : Nat} (hts' : ts'.length = 1) : ∀ (m i : Nat) (σ : qx_S) (ts : List Bool) (s : List Int64), m = e - i → b ≤ i → i ≤ e → ql kSt σ0 σ → q_stk (qx_ml σ 159) s.length = s → ty_ok ts s → ts.length ≤ 60 → ty_run (q_cd R) (e - i) i ts = some ts' →
   qx_K G qc_T 1 RX2 YX2_workOut 5 [.ref 156, .retAddr 0, .int (nI e), .int (nI s.length), .int (nI i), .retAddr 0] [] σ (fun r s' => r = some (.long ((ev_run w (q_cd R) (e - i) i s).headD 0)) ∧ ql kSt σ0 s') := by
  intro m
  induction m using Nat.strongRecOn with
  | _ m ih =>
    intro i σ ts s hm hb hie hf hstk hty hlen hrun
    have hsl := ty_ok_len _ _ hty
    have hu1 := hu.fr hf
    have ha := hu.2.1
    rcases Nat.lt_or_ge i e with hlt | hge
    · have hc := hcd i (by omega)
      have hs1 : ∀ s1 ts1 σ1, ts1.length ≤ 60 → ql kSt σ0 σ1 → q_stk (qx_ml σ1 159) (List.length s1) = s1 → ev_st w (q_cd R i) s = s1 → ty_st (q_cd R i) ts = some ts1 → qx_K G qc_T 1 RX2 YX2_workOut 5 [.ref 156, .retAddr 0, .int (nI e), .int (nI (List.length s1)), .int (nI (i + 1)), .retAddr 0] [] σ1 (fun r s' => r = some (.long ((ev_run w (q_cd R) (e - i) i s).headD 0)) ∧ ql kSt σ0 s') := by
        intro s1 ts1 σ1 hl1 hf1 hk1 he1 hy1
        have e1 : e - i = (e - (i + 1)) + 1 := by omega
        rw [e1] at hrun ⊢
        have hrun2 : ty_run (q_cd R) (e - (i + 1)) (i + 1) ts1 = some ts' := by
          unfold ty_run at hrun
          rw [hy1] at hrun
          exact hrun
        show qx_K _ _ _ _ _ _ _ _ _ (fun r s' => r = some (.long ((ev_run w (q_cd R) (e - (i + 1)) (i + 1) (ev_st w (q_cd R i) s)).headD 0)) ∧ ql kSt σ0 s')
        rw [he1]
        exact ih (e - (i + 1)) (by omega) (i + 1) σ1 ts1 s1 rfl (by omega) (by omega) hf1 hk1 (he1 ▸ ty_st_ok hy1 hty) hl1 hrun2
      obtain ⟨ts1, hy1⟩ : ∃ ts1, ty_st (q_cd R i) ts = some ts1 := by
        rw [show e - i = (e - (i + 1)) + 1 by omega] at hrun
        unfold ty_run at hrun
        cases hq : ty_st (q_cd R i) ts with
        | none => rw [hq] at hrun; cases hrun
        | some q => exact ⟨q, rfl⟩
      have hl1 : ts1.length ≤ 60 := by rcases ty_st_len hy1 with z | z <;> omega
      by_cases c1 : q_cd R i < 100012
      · have hpush : s.length < 60 := by
          unfold ty_st at hy1
          rw [if_pos (by omega)] at hy1
          split at hy1
          · omega
          · cases hy1
        by_cases c0 : q_cd R i < 100000
        · skip
          refine qy_wp_ok (c := CX2_workOut) (cuts := [5]) vX2_workOut wX2_workOut 2000 5 _ _ _ ?_
          refine And.intro (fun h8 => ?_) (fun h8 => ?_)
          · skip
            have h8 := nI_leT (a := e) (b := i) (by omega) (by omega) h8
            exact absurd h8 (by omega)
          · skip
            have h8 := nI_leF (a := e) (b := i) (by omega) (by omega) h8
            refine And.intro rfl (Exists.intro 7 (Exists.intro (some a) (And.intro rfl (And.intro hu1.2.2.1 ?_))))
            refine And.intro (by rw [show qx_sh qc_T _ a = _ from hu1.1.2.1]; rfl) (Exists.intro (a + 1) (And.intro rfl ?_))
            refine Exists.intro (i) (Exists.intro (nI (q_cd R i)) (And.intro rfl (And.intro ⟨400, hu1.1.2.2.1, by omega, by decide⟩ (And.intro (hu1.2.2.2 i (by omega)) ?_))))
            refine Exists.intro (nI 100012) (And.intro rfl ?_)
            refine And.intro (fun h27 => ?_) (fun h27 => ?_)
            · skip
              have h27 := nI_leT (a := 100012) (b := q_cd R i) (by decide) (by omega) h27
              exact absurd h27 (by omega)
            · skip
              have h27 := nI_leF (a := 100012) (b := q_cd R i) (by decide) (by omega) h27
              refine Exists.intro (nI 64) (And.intro rfl ?_)
              refine And.intro (fun h33 => ?_) (fun h33 => ?_)
              · skip
                have h33 := nI_ltT (a := s.length) (b := 64) (by omega) (by decide) h33
                refine And.intro rfl (Exists.intro 159 (And.intro rfl ?_))
                refine Exists.intro (nI 100000) (And.intro rfl ?_)
                refine And.intro (fun h47 => ?_) (fun h47 => ?_)
                · skip
                  have h47 := nI_leT (a := 100000) (b := q_cd R i) (by decide) (by omega) h47
                  exact absurd h47 (by omega)
                · skip
                  have h47 := nI_leF (a := 100000) (b := q_cd R i) (by decide) (by omega) h47
                  refine Exists.intro (lN (q_cd R i)) (And.intro (nI_l (by omega)) ?_)
                  obtain ⟨σ1, eσ1⟩ : ∃ zs, zs = (qx_wl σ 159 s.length (lN (q_cd R i))) := ⟨_, rfl⟩
                  have fσ1 := qn_wl eσ1
                  refine Exists.intro (s.length) (Exists.intro σ1 (And.intro rfl (And.intro ⟨64, rfl, by omega, by decide⟩ (And.intro eσ1.symm ?_))))
                  refine Exists.intro (nI (s.length + 1)) (And.intro (nI_add _ _) ?_)
                  refine Exists.intro (nI (i + 1)) (And.intro (nI_add _ _) ?_)
                  refine qx_K_le (ls := [.ref 156, .retAddr 0, .int (nI e), .int (nI (s.length + 1)), .int (nI (i + 1)), .retAddr 0]) ⟨Or.inr rfl, Or.inr rfl, Or.inr rfl, Or.inr rfl, Or.inr rfl, Or.inl rfl, trivial⟩ ?_
                  exact hs1 (lN (q_cd R i) :: s) ts1 _ hl1 (hf.tr fσ1) ((q_stk_wl eσ1).trans (by rw [hstk])) (by unfold ev_st; rw [if_pos c0]) hy1
              · skip
                have h33 := nI_ltF (a := s.length) (b := 64) (by omega) (by decide) h33
                exact absurd h33 (by omega)
        · have hwv : (qx_mi σ 158 (q_cd R i - 100000)).toInt64 = w (q_cd R i - 100000) := (congrArg Int32.toInt64 (hf.i 158 _ rfl)).trans (hw (q_cd R i - 100000) (by omega))
          refine qy_wp_ok (c := CX2_workOut) (cuts := [5]) vX2_workOut wX2_workOut 2000 5 _ _ _ ?_
          refine And.intro (fun h8 => ?_) (fun h8 => ?_)
          · skip
            have h8 := nI_leT (a := e) (b := i) (by omega) (by omega) h8
            exact absurd h8 (by omega)
          · skip
            have h8 := nI_leF (a := e) (b := i) (by omega) (by omega) h8
            refine And.intro rfl (Exists.intro 7 (Exists.intro (some a) (And.intro rfl (And.intro hu1.2.2.1 ?_))))
            refine And.intro (by rw [show qx_sh qc_T _ a = _ from hu1.1.2.1]; rfl) (Exists.intro (a + 1) (And.intro rfl ?_))
            refine Exists.intro (i) (Exists.intro (nI (q_cd R i)) (And.intro rfl (And.intro ⟨400, hu1.1.2.2.1, by omega, by decide⟩ (And.intro (hu1.2.2.2 i (by omega)) ?_))))
            refine Exists.intro (nI 100012) (And.intro rfl ?_)
            refine And.intro (fun h27 => ?_) (fun h27 => ?_)
            · skip
              have h27 := nI_leT (a := 100012) (b := q_cd R i) (by decide) (by omega) h27
              exact absurd h27 (by omega)
            · skip
              have h27 := nI_leF (a := 100012) (b := q_cd R i) (by decide) (by omega) h27
              refine Exists.intro (nI 64) (And.intro rfl ?_)
              refine And.intro (fun h33 => ?_) (fun h33 => ?_)
              · skip
                have h33 := nI_ltT (a := s.length) (b := 64) (by omega) (by decide) h33
                refine And.intro rfl (Exists.intro 159 (And.intro rfl ?_))
                refine Exists.intro (nI 100000) (And.intro rfl ?_)
                refine And.intro (fun h47 => ?_) (fun h47 => ?_)
                · skip
                  have h47 := nI_leT (a := 100000) (b := q_cd R i) (by decide) (by omega) h47
                  refine And.intro rfl (Exists.intro 158 (And.intro rfl ?_))
                  refine Exists.intro (nI 100000) (And.intro rfl ?_)
                  refine Exists.intro (nI ((q_cd R i) - 100000)) (And.intro (nI_sub (by omega)) ?_)
                  refine Exists.intro ((q_cd R i) - 100000) (Exists.intro (qx_mi σ 158 ((q_cd R i) - 100000)) (And.intro rfl (And.intro ⟨12, rfl, by omega, by decide⟩ (And.intro rfl ?_))))
                  refine Exists.intro (w (q_cd R i - 100000)) (And.intro hwv ?_)
                  obtain ⟨σ1, eσ1⟩ : ∃ zs, zs = (qx_wl σ 159 s.length (w (q_cd R i - 100000))) := ⟨_, rfl⟩
                  have fσ1 := qn_wl eσ1
                  refine Exists.intro (s.length) (Exists.intro σ1 (And.intro rfl (And.intro ⟨64, rfl, by omega, by decide⟩ (And.intro eσ1.symm ?_))))
                  refine Exists.intro (nI (s.length + 1)) (And.intro (nI_add _ _) ?_)
                  refine Exists.intro (nI (i + 1)) (And.intro (nI_add _ _) ?_)
                  refine qx_K_le (ls := [.ref 156, .retAddr 0, .int (nI e), .int (nI (s.length + 1)), .int (nI (i + 1)), .retAddr 0]) ⟨Or.inr rfl, Or.inr rfl, Or.inr rfl, Or.inr rfl, Or.inr rfl, Or.inl rfl, trivial⟩ ?_
                  exact hs1 (w (q_cd R i - 100000) :: s) ts1 _ hl1 (hf.tr fσ1) ((q_stk_wl eσ1).trans (by rw [hstk])) (by unfold ev_st; rw [if_neg c0, if_pos c1]) hy1
                · skip
                  have h47 := nI_leF (a := 100000) (b := q_cd R i) (by decide) (by omega) h47
                  exact absurd h47 (by omega)
              · skip
                have h33 := nI_ltF (a := s.length) (b := 64) (by omega) (by decide) h33
                exact absurd h33 (by omega)
      have c0 : ¬ q_cd R i < 100000 := by omega
      by_cases c2 : q_cd R i = 100021
      · match s, hty, hsl, hstk, hs1 with
        | [], hty, hsl, hstk, hs1 =>
          exfalso
          have : ts = [] := List.length_eq_zero_iff.mp hsl.symm
          rw [this, c2] at hy1
          cases hy1
        | x :: q, hty, hsl, hstk, hs1 =>
          have hq : q.length < 60 := by
            have : (x :: q).length = q.length + 1 := rfl
            omega
          have hx : qx_ml σ 159 q.length = x := (List.cons.inj hstk).1
          have hk2 : q_stk (qx_ml σ 159) q.length = q := (List.cons.inj hstk).2
          refine qy_wp_ok (c := CX2_workOut) (cuts := [5]) vX2_workOut wX2_workOut 2000 5 _ _ _ ?_
          refine And.intro (fun h8 => ?_) (fun h8 => ?_)
          · skip
            have h8 := nI_leT (a := e) (b := i) (by omega) (by omega) h8
            exact absurd h8 (by omega)
          · skip
            have h8 := nI_leF (a := e) (b := i) (by omega) (by omega) h8
            refine And.intro rfl (Exists.intro 7 (Exists.intro (some a) (And.intro rfl (And.intro hu1.2.2.1 ?_))))
            refine And.intro (by rw [show qx_sh qc_T _ a = _ from hu1.1.2.1]; rfl) (Exists.intro (a + 1) (And.intro rfl ?_))
            refine Exists.intro (i) (Exists.intro (nI (q_cd R i)) (And.intro rfl (And.intro ⟨400, hu1.1.2.2.1, by omega, by decide⟩ (And.intro (hu1.2.2.2 i (by omega)) ?_))))
            refine Exists.intro (nI 100012) (And.intro rfl ?_)
            refine And.intro (fun h27 => ?_) (fun h27 => ?_)
            · skip
              have h27 := nI_leT (a := 100012) (b := q_cd R i) (by decide) (by omega) h27
              refine Exists.intro (nI 100021) (And.intro rfl ?_)
              refine And.intro (fun h78 => ?_) (fun h78 => ?_)
              · skip
                have h78 := nI_neT (a := q_cd R i) (b := 100021) (by omega) (by decide) h78
                exact absurd c2 h78
              · skip
                have h78 := nI_eqT (a := q_cd R i) (b := 100021) (by omega) (by decide) h78
                refine Exists.intro (nI 1) (And.intro rfl ?_)
                refine And.intro (fun h83 => ?_) (fun h83 => ?_)
                · skip
                  have h83 := nI_leT (a := 1) (b := q.length + 1) (by decide) (by omega) h83
                  refine And.intro rfl (Exists.intro 159 (And.intro rfl ?_))
                  refine Exists.intro (nI 1) (And.intro rfl ?_)
                  refine Exists.intro (nI q.length) (And.intro ((nI_sub (a := q.length + 1) (b := 1) (by omega)).trans (congrArg nI (by omega))) ?_)
                  refine Exists.intro (lN 1) (And.intro rfl ?_)
                  refine And.intro rfl (Exists.intro 159 (And.intro rfl ?_))
                  refine Exists.intro (nI 1) (And.intro rfl ?_)
                  refine Exists.intro (nI q.length) (And.intro ((nI_sub (a := q.length + 1) (b := 1) (by omega)).trans (congrArg nI (by omega))) ?_)
                  refine Exists.intro (q.length) (Exists.intro x (And.intro rfl (And.intro ⟨64, rfl, by omega, by decide⟩ (And.intro hx ?_))))
                  refine Exists.intro ((lN 1) - x) (And.intro rfl ?_)
                  obtain ⟨σ1, eσ1⟩ : ∃ zs, zs = (qx_wl σ 159 q.length ((lN 1) - x)) := ⟨_, rfl⟩
                  have fσ1 := qn_wl eσ1
                  refine Exists.intro (q.length) (Exists.intro σ1 (And.intro rfl (And.intro ⟨64, rfl, by omega, by decide⟩ (And.intro eσ1.symm ?_))))
                  refine Exists.intro (nI (i + 1)) (And.intro (nI_add _ _) ?_)
                  refine qx_K_le (ls := [.ref 156, .retAddr 0, .int (nI e), .int (nI (q.length + 1)), .int (nI (i + 1)), .retAddr 0]) ⟨Or.inr rfl, Or.inr rfl, Or.inr rfl, Or.inr rfl, Or.inr rfl, Or.inl rfl, trivial⟩ ?_
                  exact hs1 ((lN 1 - x) :: q) ts1 _ hl1 (hf.tr fσ1) ((q_stk_wl eσ1).trans (congrArg (List.cons _) hk2)) (by unfold ev_st; rw [if_neg c0, if_neg c1, if_pos c2]) hy1
                · skip
                  have h83 := nI_leF (a := 1) (b := q.length + 1) (by decide) (by omega) h83
                  exact absurd h83 (by omega)
            · skip
              have h27 := nI_leF (a := 100012) (b := q_cd R i) (by decide) (by omega) h27
              exact absurd h27 (by omega)
      · match s, hty, hsl, hstk, hs1 with
        | [], hty, hsl, hstk, hs1 => exact absurd (ty_st_two c1 c2 hy1) (by rw [← hsl]; decide)
        | [x], hty, hsl, hstk, hs1 => exact absurd (ty_st_two c1 c2 hy1) (by rw [← hsl]; simp)
        | y :: x :: q, hty, hsl, hstk, hs1 =>
          have hq : q.length < 59 := by
            have : (y :: x :: q).length = q.length + 1 + 1 := rfl
            omega
          have hy : qx_ml σ 159 (q.length + 1) = y := (List.cons.inj hstk).1
          have hx : qx_ml σ 159 q.length = x := (List.cons.inj (List.cons.inj hstk).2).1
          have hk2 : q_stk (qx_ml σ 159) q.length = q := (List.cons.inj (List.cons.inj hstk).2).2
          refine qy_wp_ok (c := CX2_workOut) (cuts := [5]) vX2_workOut wX2_workOut 2000 5 _ _ _ ?_
          refine And.intro (fun h8 => ?_) (fun h8 => ?_)
          · skip
            have h8 := nI_leT (a := e) (b := i) (by omega) (by omega) h8
            exact absurd h8 (by omega)
          · skip
            have h8 := nI_leF (a := e) (b := i) (by omega) (by omega) h8
            refine And.intro rfl (Exists.intro 7 (Exists.intro (some a) (And.intro rfl (And.intro hu1.2.2.1 ?_))))
            refine And.intro (by rw [show qx_sh qc_T _ a = _ from hu1.1.2.1]; rfl) (Exists.intro (a + 1) (And.intro rfl ?_))
            refine Exists.intro (i) (Exists.intro (nI (q_cd R i)) (And.intro rfl (And.intro ⟨400, hu1.1.2.2.1, by omega, by decide⟩ (And.intro (hu1.2.2.2 i (by omega)) ?_))))
            refine Exists.intro (nI 100012) (And.intro rfl ?_)
            refine And.intro (fun h27 => ?_) (fun h27 => ?_)
            · skip
              have h27 := nI_leT (a := 100012) (b := q_cd R i) (by decide) (by omega) h27
              refine Exists.intro (nI 100021) (And.intro rfl ?_)
              refine And.intro (fun h78 => ?_) (fun h78 => ?_)
              · skip
                have h78 := nI_neT (a := q_cd R i) (b := 100021) (by omega) (by decide) h78
                refine Exists.intro (nI 2) (And.intro rfl ?_)
                refine And.intro (fun h111 => ?_) (fun h111 => ?_)
                · skip
                  have h111 := nI_leT (a := 2) (b := q.length + 1 + 1) (by decide) (by omega) h111
                  refine Exists.intro (nI (q.length + 1)) (And.intro ((nI_dec (a := q.length + 1 + 1) 1 (by omega)).trans (congrArg nI (by omega))) ?_)
                  refine And.intro rfl (Exists.intro 159 (And.intro rfl ?_))
                  refine Exists.intro (nI 1) (And.intro rfl ?_)
                  refine Exists.intro (nI q.length) (And.intro ((nI_sub (by omega)).trans (congrArg nI (by omega))) ?_)
                  refine And.intro rfl (Exists.intro 159 (And.intro rfl ?_))
                  refine Exists.intro (nI 1) (And.intro rfl ?_)
                  refine Exists.intro (nI q.length) (And.intro ((nI_sub (by omega)).trans (congrArg nI (by omega))) ?_)
                  refine Exists.intro (q.length) (Exists.intro x (And.intro rfl (And.intro ⟨64, rfl, by omega, by decide⟩ (And.intro hx ?_))))
                  refine And.intro rfl (Exists.intro 159 (And.intro rfl ?_))
                  refine Exists.intro (q.length + 1) (Exists.intro y (And.intro rfl (And.intro ⟨64, rfl, by omega, by decide⟩ (And.intro hy ?_))))
                  refine Exists.intro _ (And.intro (by decide) (qx_M_mono (c_joined (c := (q_cd R i)) (x := x) (y := y) (by omega) (by omega) c2) ?_))
                  rintro _ σ1 ⟨rfl, fσ1⟩
                  obtain ⟨σ2, eσ2⟩ : ∃ zs, zs = (qx_wl σ1 159 q.length (q_op ((q_cd R i) - 100010) x y)) := ⟨_, rfl⟩
                  have fσ2 := qn_wl eσ2
                  refine Exists.intro (q.length) (Exists.intro σ2 (And.intro rfl (And.intro ⟨64, rfl, by omega, by decide⟩ (And.intro eσ2.symm ?_))))
                  refine Exists.intro (nI (i + 1)) (And.intro (nI_add _ _) ?_)
                  refine qx_K_le (ls := [.ref 156, .retAddr 0, .int (nI e), .int (nI (q.length + 1)), .int (nI (i + 1)), .retAddr 0]) ⟨Or.inr rfl, Or.inr rfl, Or.inr rfl, Or.inr rfl, Or.inr rfl, Or.inl rfl, trivial⟩ ?_
                  exact hs1 (q_op (q_cd R i - 100010) x y :: q) ts1 _ hl1 (hf.tr ((fσ1.mn rfl).tr fσ2)) ((q_stk_wl eσ2).trans (congrArg (List.cons _) ((q_stk_congr q.length (fun j hj => fσ1.l 159 j rfl)).trans hk2))) (by unfold ev_st; rw [if_neg c0, if_neg c1, if_neg c2]) hy1
                · skip
                  have h111 := nI_leF (a := 2) (b := q.length + 1 + 1) (by decide) (by omega) h111
                  exact absurd h111 (by omega)
              · skip
                have h78 := nI_eqT (a := q_cd R i) (b := 100021) (by omega) (by decide) h78
                exact absurd h78 c2
            · skip
              have h27 := nI_leF (a := 100012) (b := q_cd R i) (by decide) (by omega) h27
              exact absurd h27 (by omega)
    · obtain rfl : i = e := by omega
      rw [Nat.sub_self] at hrun ⊢
      cases hrun
      obtain ⟨x, rfl⟩ := List.length_eq_one_iff.mp (hsl.trans hts')
      have hx : qx_ml σ 159 0 = x := (List.cons.inj hstk).1
      refine qy_wp_ok (c := CX2_workOut) (cuts := [5]) vX2_workOut wX2_workOut 2000 5 _ _ _ ?_
      refine And.intro (fun h8 => ?_) (fun h8 => ?_)
      · skip
        have h8 := nI_leT (a := i) (b := i) (by omega) (by omega) h8
        refine And.intro rfl (Exists.intro 159 (And.intro rfl ?_))
        refine Exists.intro (nI 0) (And.intro rfl ?_)
        refine Exists.intro (0) (Exists.intro x (And.intro rfl (And.intro ⟨64, rfl, by decide, by decide⟩ (And.intro hx ?_))))
        exact ⟨rfl, hf⟩
      · skip
        have h8 := nI_leF (a := i) (b := i) (by omega) (by omega) h8
        exact absurd h8 (by omega)
theorem c_workOut {G : qx_G} {R : qR} {a : Nat} (hR : q_wf R) {σ : qx_S} (hu : uS σ a R) {w : Nat → Int64} (hw : ∀ v, v < 12 → (qx_mi σ 158 v).toInt64 = w v) {b e : Nat} {ty : Bool} (hsq : q_sq (q_cd R) b e ty) (he : e ≤ q_len R) : qx_M G qc_T 1 YX2_workOut [.ref 156, .int (nI b), .int (nI e)] σ (fun r s => r = some (.long (ev (q_cd R) w b e)) ∧ ql kSt σ s) := by
  have hl := hR.2.1
  have hb := hsq.1
  refine qx_M_in rfl (Nat.le_of_ble_eq_true rfl) ?_
  refine qy_wp_ok (c := CX2_workOut) (cuts := [5]) vX2_workOut wX2_workOut 2000 0 _ _ _ ?_
  refine Exists.intro (nI 0) (And.intro rfl ?_)
  refine qx_K_le (ls := [.ref 156, .retAddr 0, .int (nI e), .int (nI 0), .int (nI b), .retAddr 0]) ⟨Or.inr rfl, Or.inl rfl, Or.inr rfl, Or.inr rfl, Or.inr rfl, Or.inr rfl, trivial⟩ ?_
  exact qx_K_mono (l_workOut (b := b) he hl hR.2.2.1 hu hw rfl _ b σ [] [] rfl (Nat.le_refl _) hb qf.rf rfl trivial (by decide) hsq.2) (fun r s h => h)

