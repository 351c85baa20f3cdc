/-! THE CLASS: done -/
theorem dn35_n {G : qx_G} {Φ : qx_F} {s : qx_S} {b w : Nat} {v : Int32} (hv : v = -2 ∨ v = -3) (h : Φ (some (.int v)) s) : qx_K G qc_T 7 RX11 YX11_done 35 [.ref 3, .int (nI w), .ref b, .int v, .retAddr 0] [] s Φ := by
  rcases hv with rfl | rfl
  · skip
    refine qy_wp_ok (c := CX11_done) (cuts := []) vX11_done wX11_done 2000 35 _ _ _ ?_
    refine And.intro (fun h36 => ?_) (fun h36 => ?_)
    · skip
      exact absurd h36 (by decide)
    · skip
      exact h
  · skip
    refine qy_wp_ok (c := CX11_done) (cuts := []) vX11_done wX11_done 2000 35 _ _ _ ?_
    refine And.intro (fun h36 => ?_) (fun h36 => ?_)
    · skip
      exact absurd h36 (by decide)
    · skip
      exact h
theorem dn35_i {G : qx_G} {σ0 σ : qx_S} {S : qS} {rf : Option qR} {e b w i d : Nat} {Q Z : q_Q} {f : Nat → Int32} {Φ : qx_F} (hv : vQ σ0 S rf e b σ Q) (hF : cF σ0 30 (s_n S 1) f) (hi : i < Q.1) (ed : d = Q.2.2.2.1 i) (eZ : Z = q_gt S rf d 2001 Q) (hiZ : i < Z.1) (hw : w ≤ 2) (hB : q_gf d Z = false → ∀ s, vQ σ0 S rf e b s Z → Φ (some (.int (-3))) s) (h0 : q_gf d Z = true → w = 0 → ∀ s, vQ σ0 S rf e b s Z → Φ (some (.int (nI d))) s) (h1 : q_gf d Z = true → w = 1 → ∀ s, vQ σ0 S rf e b s Z → Φ (some (.int (nI (q_cnQ (fun w => q_af f w (s_n S 1) 0) d Z Z.1)))) s) (h2 : q_gf d Z = true → w = 2 → ∀ s, vQ σ0 S rf e b s Z → Φ (some (.int (if Z.2.2.2.2.2.2 i = 1 then nI 1 else nI 0))) s) : qx_K G qc_T 7 RX11 YX11_done 35 [.ref 3, .int (nI w), .ref b, .int (nI i), .retAddr 0] [] σ Φ := by
  have hz := hv.1.2.2.2.2.1
  have c := (hv.1.2.2.2.2.2.2.1 i hi).2.1
  rw [← ed] at c
  have hd : d ≤ 2001 := by have := c.2; omega
  have gt := c_growThrough (G := G) (d := d) (by omega) hv
  rw [← eZ] at gt
  obtain ⟨B, eB⟩ : ∃ B, B = q_gf d Z := ⟨_, rfl⟩
  rw [← eB] at gt hB h0 h1 h2
  obtain ⟨wi, ew⟩ : ∃ wi, wi = Z.2.2.2.2.2.2 i := ⟨_, rfl⟩
  rw [← ew] at h2
  refine qy_wp_ok (c := CX11_done) (cuts := []) vX11_done wX11_done 2000 35 _ _ _ ?_
  refine And.intro (fun h36 => ?_) (fun h36 => ?_)
  · skip
    have h36 := nI_leT (a := 0) (b := i) (by decide) (by omega) h36
    refine And.intro (by rw [show qx_sh qc_T _ b = _ from hv.1.1.1]; rfl) (Exists.intro (b + 2) (And.intro rfl ?_))
    refine Exists.intro (i) (Exists.intro (nI d) (And.intro rfl (And.intro ⟨2001, (hv.1.1.2.1 2 (by decide) (by decide)), by omega, by decide⟩ (And.intro c.1 ?_))))
    refine And.intro ((congrArg Prod.fst (hv.1.1.1)).trans rfl) (Exists.intro _ (And.intro (by decide) (qx_M_mono (gt) ?_)))
    rintro _ ρ ⟨rfl, vρ⟩
    have wl : wi ≤ 2 := by rw [ew]; exact (vρ.1.2.2.2.2.2.2.1 i hiZ).2.2.2.2.2
    refine And.intro (fun h55 => ?_) (fun h55 => ?_)
    · skip
      have h55 := bI_t h55
      refine And.intro (fun h62 => ?_) (fun h62 => ?_)
      · skip
        have h62 := nI_neT (a := w) (b := 0) (by omega) (by decide) h62
        refine Exists.intro (nI 1) (And.intro rfl ?_)
        refine And.intro (fun h70 => ?_) (fun h70 => ?_)
        · skip
          have h70 := nI_neT (a := w) (b := 1) (by omega) (by decide) h70
          refine And.intro (by rw [show qx_sh qc_T _ b = _ from vρ.1.1.1]; rfl) (Exists.intro (b + 5) (And.intro rfl ?_))
          refine Exists.intro (i) (Exists.intro (nI wi) (And.intro rfl (And.intro ⟨2001, (vρ.1.1.2.1 5 (by decide) (by decide)), by omega, by decide⟩ (And.intro ((vρ.1.2.2.2.2.2.2.1 i hiZ).2.2.2.2.1.trans (congrArg nI ew.symm)) ?_))))
          refine Exists.intro (nI 1) (And.intro rfl ?_)
          refine And.intro (fun h94 => ?_) (fun h94 => ?_)
          · skip
            have h94 := nI_neT (a := wi) (b := 1) (by omega) (by decide) h94
            refine Exists.intro (nI 0) (And.intro rfl ?_)
            have z := h2 h55 (by omega) ρ vρ
            rw [if_neg (by omega)] at z
            exact z
          · skip
            have h94 := nI_eqT (a := wi) (b := 1) (by omega) (by decide) h94
            refine Exists.intro (nI 1) (And.intro rfl ?_)
            have z := h2 h55 (by omega) ρ vρ
            rw [if_pos (by omega)] at z
            exact z
        · skip
          have h70 := nI_eqT (a := w) (b := 1) (by omega) (by decide) h70
          refine And.intro rfl (Exists.intro 15 (And.intro rfl ?_))
          refine And.intro rfl (Exists.intro 30 (And.intro rfl ?_))
          refine And.intro ((congrArg Prod.fst (vρ.1.1.1)).trans rfl) (Exists.intro _ (And.intro (by decide) (qx_M_mono (c_countOf hF (by omega) vρ) ?_)))
          rintro _ _ ⟨rfl, rfl⟩
          exact h1 h55 (by omega) ρ vρ
      · skip
        have h62 := nI_eqT (a := w) (b := 0) (by omega) (by decide) h62
        exact h0 h55 (by omega) ρ vρ
    · skip
      have h55 := bI_f h55
      refine Exists.intro ((-3)) (And.intro (by decide) ?_)
      exact hB h55 ρ vρ
  · skip
    have h36 := nI_leF (a := 0) (b := i) (by decide) (by omega) h36
    exact absurd h36 (by omega)
/-! all at HOME -/
theorem q_ho_sA {S : qS} (h10 : s_n S 1 ≤ 10) : sA S (q_ho S) := fun i hi => if_neg (by omega)
theorem q_itQ_cg {f g : Nat → q_Q → q_Q} : ∀ (m i : Nat) (Q : q_Q), (∀ j, i ≤ j → j < i + m → f j = g j) → q_itQ f m i Q = q_itQ g m i Q
  | 0, _, _, _ => rfl
  | m + 1, i, Q, h => by
    show q_itQ f m (i + 1) (f i Q) = q_itQ g m (i + 1) (g i Q)
    rw [h i (Nat.le_refl _) (by omega)]
    exact q_itQ_cg m (i + 1) _ (fun j h1 h2 => h j (by omega) (by omega))
theorem q_gro_cg {S S' : qS} {rf : Option qR} (h10 : s_n S 1 ≤ 10) (h : sA S S') : q_gro S' rf = q_gro S rf := by
  have n1 : s_n S' 1 = s_n S 1 := h.n (by omega)
  have ev : ∀ k w a b, a < s_n S 1 → b < s_n S 1 → q_qv S' rf k w a b = q_qv S rf k w a b := fun k w a b ha hb => by
    funext Q
    unfold q_qv
    rw [n1, show q_c2 S' rf a b (q_dg w a) (q_dg w b) = q_c2 S rf a b (q_dg w a) (q_dg w b) from by
      unfold q_c2
      rw [q_bk_sA h (by omega) (q_dg_lt _ _) (q_dg_lt _ _) (by omega), q_bk_sA h (by omega) (q_dg_lt _ _) (q_dg_lt _ _) (by omega)]]
  have eb : ∀ k w a, a < s_n S 1 → q_qb S' rf k w a = q_qb S rf k w a := fun k w a ha => by
    funext Q
    unfold q_qb
    rw [n1]
    exact q_itQ_cg _ _ _ (fun j h1 h2 => ev k w a j ha (by omega))
  have ea : ∀ k w, q_qa S' rf k w = q_qa S rf k w := fun k w => by
    funext Q
    unfold q_qa
    rw [n1]
    exact q_itQ_cg _ _ _ (fun j h1 h2 => eb k w j (by omega))
  funext Q
  unfold q_gro q_qg
  rw [ea]
theorem q_grn_cg {S S' : qS} {rf : Option qR} (h : q_gro S' rf = q_gro S rf) : ∀ (m : Nat) (Q : q_Q), q_grn S' rf m Q = q_grn S rf m Q
  | 0, _ => rfl
  | m + 1, Q => by
    show q_grn S' rf m (q_gro S' rf Q) = q_grn S rf m (q_gro S rf Q)
    rw [h]
    exact q_grn_cg h m _
theorem q_gt_cg {S S' : qS} {rf : Option qR} {d : Nat} (h : q_gro S' rf = q_gro S rf) : ∀ (m : Nat) (Q : q_Q), q_gt S' rf d m Q = q_gt S rf d m Q
  | 0, _ => rfl
  | m + 1, Q => by
    unfold q_gt
    rw [h]
    split
    · split
      · exact q_gt_cg h m _
      · rfl
    · rfl
theorem q_af_ex {f : Nat → Int32} {w : Nat} : ∀ (m o : Nat), (∀ p, o ≤ p → p < o + m → f p = -1 ∨ ∃ v, v < 8 ∧ f p = nI v) → q_af f w m o = !q_ex (fun p => decide (0 ≤ f p) && decide (¬ nI (q_dg w p) = f p)) m o
  | 0, _, _ => rfl
  | m + 1, o, h => by
    have ih := q_af_ex (f := f) (w := w) m (o + 1) (fun p h1 h2 => h p (by omega) (by omega))
    show _ = !((decide (0 ≤ f o) && decide (¬ nI (q_dg w o) = f o)) || q_ex _ m (o + 1))
    rw [Bool.not_or, ← ih]
    show ((decide (f o = -1) || decide (f o = nI (q_dg w o))) && _) = _
    congr 1
    have dl := q_dg_lt w o
    rcases h o (Nat.le_refl _) (by omega) with v | ⟨q, hq, v⟩
    · rw [v]
      rfl
    · rw [v, decide_eq_false (nI_m1 (by omega)), decide_eq_true (show (0 : Int32) ≤ nI q from (nI_leI (a := 0) (by decide) (by omega)).mpr (Nat.zero_le _)), Bool.false_or, Bool.true_and]
      by_cases z : q_dg w o = q
      · rw [z, decide_eq_true rfl, decide_eq_false (fun y => y rfl)]
        rfl
      · rw [decide_eq_false (fun y => z (nI_eqT (by omega) (by omega) y).symm), decide_eq_true (p := ¬ nI (q_dg w o) = nI q) (fun y => z (nI_eqT (by omega) (by omega) y))]
        rfl
theorem q_ho_af {S : qS} (h10 : s_n S 1 ≤ 10) (hF : gFd S) (w : Nat) : q_af (fun p => S (338 + p)) w (s_n S 1) 0 = !q_nf (q_ho S) w := by
  have sA := q_ho_sA h10
  unfold q_nf
  rw [show s_n (q_ho S) 1 = s_n S 1 from sA.n (by omega), q_af_ex (s_n S 1) 0 (fun p _ hp => hF p (by omega))]
  congr 1
  have : ∀ (m o : Nat), o + m ≤ 10 → q_ex (fun p => decide (0 ≤ S (338 + p)) && decide (¬ nI (q_dg w p) = S (338 + p))) m o = q_ex (fun p => decide (0 ≤ q_ho S (338 + p)) && decide (¬ nI (q_dg w p) = q_ho S (338 + p))) m o := by
    intro m
    induction m with
    | zero => intro o _; rfl
    | succ m ih =>
      intro o ho
      show (_ || _) = (_ || _)
      rw [ih (o + 1) (by omega)]
      dsimp only
      rw [sA (338 + o) (by omega)]
  exact this _ _ (by omega)
theorem q_ho_en {S : qS} (h10 : s_n S 1 ≤ 10) : q_en (s_at (q_ho S)) (s_n S 1) = q_en (fun p => s_n S (10 + 5 * p + 2)) (s_n S 1) := q_en_cg (fun p hp => by
  have e : q_ho S (10 + 5 * p) = S (10 + 5 * p + 2) := by
    have : q_ho S (10 + 5 * p) = S (10 + 5 * ((10 + 5 * p - 10) / 5) + 2) := if_pos (by omega)
    rw [this]
    congr 1
    omega
  show s_n (q_ho S) (10 + 5 * p) = _
  unfold s_n
  rw [e])
theorem q_dz_n {y : q_B × Int32 × Nat × Nat} {w : Nat} (h : y.2.1 = -2 ∨ y.2.1 = -3) : q_dz y w = y.2.1 := by
  unfold q_dz
  rw [if_pos (Or.inl (by rcases h with h | h <;> (rw [h]; decide)))]
theorem q_dz_i {y : q_B × Int32 × Nat × Nat} {w d : Nat} (h : y.2.1 = nI d) (hd : d < 2147483648) : q_dz y w = if w = 0 then nI d else if w = 1 then nI y.2.2.2 else if q_wy y.1 y.2.2.1 = 1 then nI 1 else nI 0 := by
  have hz : ¬ y.2.1 < (0 : Int32) := fun z => by rw [h] at z; exact absurd ((nI_ltI (b := 0) hd (by decide)).mp z) (by omega)
  unfold q_dz
  by_cases w0 : w = 0
  · rw [if_pos (Or.inr w0), if_pos w0, h]
  · rw [if_neg (fun z => z.elim hz w0), if_neg w0]
theorem c_done_no {G : qx_G} {σ : qx_S} {S : qS} {rf : Option qR} {e : Nat} (hI : cI σ S rf e) {w : Int32} (hb : (decide (0 < s_n S 0) && q_in64 w.toInt64 (lN 0) (lN 2)) = false) : qx_M G qc_T 7 YX11_done [.ref 3, .int w] σ (qr (-1) σ) := by
  have wi : ¬ w < nI 0 → w ≤ nI 2 → q_in64 w.toInt64 (lN 0) (lN 2) = true := fun h1 h2 => by
    unfold q_in64
    have a : (lN 0 ≤ w.toInt64) := Int64.le_iff_toInt_le.mpr (by rw [Int32.toInt_toInt64]; have := Int32.le_iff_toInt_le.mp (Int32.not_lt.mp h1); exact this)
    have b : (w.toInt64 ≤ lN 2) := Int64.le_iff_toInt_le.mpr (by rw [Int32.toInt_toInt64]; have := Int32.le_iff_toInt_le.mp h2; exact this)
    rw [decide_eq_true a, decide_eq_true b]
    rfl
  refine qx_M_in rfl (Nat.le_of_ble_eq_true rfl) ?_
  refine qy_wp_ok (c := CX11_done) (cuts := [18]) vX11_done wX11_done 2000 0 _ _ _ ?_
  refine And.intro rfl (Exists.intro _ (And.intro (by decide) (qx_M_mono (c_hasCountry hI.2.1.1 hI.1.1.2.1.1.1 hI.1.1.2.1.1.2) ?_)))
  rintro _ _ ⟨rfl, rfl⟩
  refine And.intro (fun h4 => ?_) (fun h4 => ?_)
  · skip
    have h4 := bI_f h4
    refine Exists.intro ((-1)) (And.intro (by decide) ?_)
    exact ⟨rfl, rfl⟩
  · skip
    have h4 := bI_t h4
    refine And.intro (fun h8 => ?_) (fun h8 => ?_)
    · skip
      refine Exists.intro ((-1)) (And.intro (by decide) ?_)
      exact ⟨rfl, rfl⟩
    · skip
      refine Exists.intro (nI 2) (And.intro rfl ?_)
      refine And.intro (fun h13 => ?_) (fun h13 => ?_)
      · skip
        rw [h4, wi h8 h13] at hb; cases hb
      · skip
        refine Exists.intro ((-1)) (And.intro (by decide) ?_)
        exact ⟨rfl, rfl⟩
theorem c_done_ok {G : qx_G} {σ : qx_S} {S : qS} {rf : Option qR} {e : Nat} (hI : cI σ S rf e) (hh : gH S) (hFd : gFd S) (hs : cSe σ S rf e 18 (q_en (fun p => s_n S (10 + 5 * p + 2)) (s_n S 1))) (h0 : 0 < s_n S 0) {w : Nat} (hw : w ≤ 2) : qx_M G qc_T 7 YX11_done [.ref 3, .int (nI w)] σ (fun r s => r = some (.int (q_dz (q_hd S rf) w)) ∧ jF σ S rf e 18 (q_en (fun p => s_n S (10 + 5 * p + 2)) (s_n S 1)) s) := by
  have hpe := hI.1.pe
  have sA := q_ho_sA hpe
  have gc := q_gro_cg (rf := rf) hpe sA
  have hF : cF σ 30 (s_n S 1) (fun p => S (338 + p)) := ⟨Or.inr rfl, fun p hp => ⟨hI.2.1.2.2.2.2.2.1 p hp, hFd p hp⟩⟩
  have en := q_ho_en hpe
  obtain ⟨w0, e0⟩ : ∃ w0, w0 = q_en (fun p => s_n S (10 + 5 * p + 2)) (s_n S 1) := ⟨_, rfl⟩
  rw [← e0] at en
  have main : ∀ {n1 : Nat} {v : Int32}, q_frA (fun w => q_af (fun p => S (338 + p)) w (s_n S 1) 0) (q_grn S rf n1 (q_Q0 w0)) v → ((v = -2 ∨ v = -3) ∧ (q_hd S rf).2.1 = v) ∨ ∃ i d Z, v = nI i ∧ i < 2001 ∧ i < (q_grn S rf n1 (q_Q0 w0)).1 ∧ d = (q_grn S rf n1 (q_Q0 w0)).2.2.2.1 i ∧ Z = q_gt S rf d 2001 (q_grn S rf n1 (q_Q0 w0)) ∧ i < Z.1 ∧ ((q_gf d Z = false ∧ (q_hd S rf).2.1 = -3) ∨ (q_gf d Z = true ∧ (q_hd S rf).2.1 = nI d ∧ d ≤ 2001 ∧ (q_hd S rf).2.2.2 = q_cnQ (fun w => q_af (fun p => S (338 + p)) w (s_n S 1) 0) d Z Z.1 ∧ q_wy (q_hd S rf).1 (q_hd S rf).2.2.1 = Z.2.2.2.2.2.2 i)) := by
    intro n1 v hv
    rw [← q_grn_cg gc] at hv
    have k := q_done (S := q_ho S) (rf := rf) (w0 := w0) (fun w => q_ho_af hpe hFd w) hv
    have eh : q_fd (q_ho S) rf 2001 0 0 (q_B0 w0) = q_hd S rf := by
      show _ = q_fd (q_ho S) rf 2001 0 0 (q_B0 (q_en (s_at (q_ho S)) (s_n S 1)))
      rw [en]
    rw [eh, q_grn_cg gc] at k
    rcases k with k | ⟨i, d, Z, k1, k2, k3, k4, k5, k6, k7⟩
    · exact Or.inl k
    · rw [q_gt_cg gc] at k5
      exact Or.inr ⟨i, d, Z, k1, k2, k3, k4, k5, k6, k7⟩
  rw [← e0] at hs
  rw [e0] at main hs
  refine qx_M_in rfl (Nat.le_of_ble_eq_true rfl) ?_
  refine qy_wp_ok (c := CX11_done) (cuts := [35]) vX11_done wX11_done 2000 0 _ _ _ ?_
  refine And.intro rfl (Exists.intro _ (And.intro (by decide) (qx_M_mono (c_hasCountry hI.2.1.1 hI.1.1.2.1.1.1 hI.1.1.2.1.1.2) ?_)))
  rintro _ _ ⟨rfl, rfl⟩
  refine And.intro (fun h4 => ?_) (fun h4 => ?_)
  · skip
    have h4 := bI_f h4
    exact absurd (h4.symm.trans (decide_eq_true h0)) (by decide)
  · skip
    have h4 := bI_t h4
    refine And.intro (fun h8 => ?_) (fun h8 => ?_)
    · skip
      have h8 := nI_ltT (a := w) (b := 0) (by omega) (by decide) h8
      exact absurd h8 (by omega)
    · skip
      have h8 := nI_ltF (a := w) (b := 0) (by omega) (by decide) h8
      refine Exists.intro (nI 2) (And.intro rfl ?_)
      refine And.intro (fun h13 => ?_) (fun h13 => ?_)
      · skip
        have h13 := nI_leT (a := w) (b := 2) (by omega) (by decide) h13
        refine And.intro rfl (Exists.intro _ (And.intro (by decide) (qx_M_mono (c_sfH hI hs hh) ?_)))
        rintro _ ρ ⟨b, n, rfl, jρ⟩
        refine And.intro rfl (Exists.intro 15 (And.intro rfl ?_))
        refine And.intro rfl (Exists.intro 30 (And.intro rfl ?_))
        refine And.intro ((congrArg Prod.fst (jρ.2.2.1.1.1)).trans rfl) (Exists.intro _ (And.intro (by decide) (qx_M_mono (c_firstOf (hF.gq jρ.2.2.2.2.1 jρ.2.2.1.2.1.1) jρ.2.2.self) ?_)))
        rintro _ μ ⟨n1, v, vμ, aμ, rfl⟩
        rw [← q_grn_add] at vμ aμ
        have h9 := jρ.2.2.2.1.2.2.2.2.2.2.2.2
        have hFρ := hF.gq jρ.2.2.2.2.1 jρ.2.2.1.2.1.1
        rcases main aμ with ⟨hc, hr⟩ | ⟨i, d, Z, k1, k2, k3, k4, k5, k6, k7⟩
        · exact dn35_n hc ⟨by rw [q_dz_n (by rw [hr]; exact hc), hr], vQ.endJ0 jρ.1 jρ.2.1 vμ.2.2.1 h9 (jρ.2.2.bas vμ)⟩
        · obtain ⟨n2, en2⟩ := q_gt_grn (S := S) (rf := rf) (d := d) 2001 (q_grn S rf (n + n1) (q_Q0 (q_en (fun p => s_n S (10 + 5 * p + 2)) (s_n S 1))))
          rw [← k5, ← q_grn_add] at en2
          have J : ∀ s, vQ ρ S rf e b s Z → jF σ S rf e 18 (q_en (fun p => s_n S (10 + 5 * p + 2)) (s_n S 1)) s := fun s h => by rw [en2] at h; exact vQ.endJ0 jρ.1 jρ.2.1 h.2.2.1 h9 (jρ.2.2.bas h)
          rw [k1]
          rcases k7 with ⟨g, hr⟩ | ⟨g, hr, hd, hm, hy⟩
          · refine dn35_i vμ hFρ k3 k4 k5 k6 hw (fun _ s h => ⟨by rw [q_dz_n (Or.inr hr), hr], J s h⟩) (fun z => ?_) (fun z => ?_) (fun z => ?_)
            · rw [g] at z; cases z
            · rw [g] at z; cases z
            · rw [g] at z; cases z
          · have dz := q_dz_i (w := w) hr (by omega)
            refine dn35_i vμ hFρ k3 k4 k5 k6 hw (fun z => ?_) (fun _ z s h => ⟨by rw [dz, if_pos z], J s h⟩) (fun _ z s h => ⟨by rw [dz, if_neg (show ¬ w = 0 by omega), if_pos z, hm], J s h⟩) (fun _ z s h => ⟨by rw [dz, if_neg (show ¬ w = 0 by omega), if_neg (show ¬ w = 1 by omega), hy], J s h⟩)
            rw [g] at z; cases z
      · skip
        have h13 := nI_leF (a := w) (b := 2) (by omega) (by decide) h13
        exact absurd h13 (by omega)

