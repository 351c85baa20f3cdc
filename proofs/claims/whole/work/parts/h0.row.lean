/-! THE CLASS: MOST, a row's score; a row is taken -/
def q_nxr (r : Nat → Nat) (n i : Nat) : Nat := if i + 1 < n then r (i + 1) else r 0
def q_rsl (can : Nat → Nat → Bool) (gn : Nat → Nat → Int32) (r : Nat → Nat) (n : Nat) : Nat → Nat → Int32 → Int32
  | 0, _, sum => sum * nI 16 - nI n
  | m + 1, i, sum => if can (r i) (q_nxr r n i) = true then q_rsl can gn r n m (i + 1) (sum + gn (r i) (q_nxr r n i)) else (-1000000)
def rwC (σ : qx_S) (r : Nat → Nat) (n : Nat) : Prop := ∀ i, i < n → qx_mi σ 173 i = nI (r i)
theorem l_rs {G : qx_G} {σ : qx_S} {S : qS} {rf : Option qR} {ly : Option (Nat × Nat)} {n : Nat} {r : Nat → Nat} (hpe : s_n S 1 ≤ 10) (hg : gA σ S rf ly) (ho : oA σ S rf ly n) (hn : n ≤ 4) (h0 : 0 < n) (hr : rwC σ r n) (hr2 : ∀ i, i < n → r i < s_n S 1) : ∀ (m i : Nat) (sum : Int32), m + i = n → qx_K G qc_T 1 RX3 YX3_rowScore 19 [.ref 160, .int (nI n), .retAddr 0, .int sum, .int (nI i), .retAddr 0] [] σ (qr (q_rsl (q_cn S rf ly n) (q_gn S rf ly) r n m i sum) σ) := by
  intro m
  induction m with
  | zero =>
    intro i sum hm
    obtain rfl : i = n := by omega
    refine qy_wp_ok (c := CX3_rowScore) (cuts := [19, 53]) vX3_rowScore wX3_rowScore 2000 19 _ _ _ ?_
    refine And.intro (fun h22 => ?_) (fun h22 => ?_)
    · skip
      have h22 := nI_leT (a := i) (b := i) (by omega) (by omega) h22
      refine Exists.intro (nI 16) (And.intro rfl ?_)
      refine Exists.intro (sum * (nI 16)) (And.intro rfl ?_)
      refine Exists.intro ((sum * (nI 16)) - (nI i)) (And.intro rfl ?_)
      exact ⟨rfl, rfl⟩
    · skip
      have h22 := nI_leF (a := i) (b := i) (by omega) (by omega) h22
      exact absurd h22 (by omega)
  | succ m ih =>
    intro i sum hm
    have hi : i < n := by omega
    have ri := hr2 i hi
    obtain ⟨x, ex⟩ : ∃ x, x = q_nxr r n i := ⟨_, rfl⟩
    have xl : x < s_n S 1 := by
      rw [ex]
      unfold q_nxr
      split
      · exact hr2 _ (by omega)
      · exact hr2 0 h0
    have cT : q_cn S rf ly n (r i) x = true → q_rsl (q_cn S rf ly n) (q_gn S rf ly) r n (m + 1) i sum = q_rsl (q_cn S rf ly n) (q_gn S rf ly) r n m (i + 1) (sum + q_gn S rf ly (r i) x) := fun h => by
      show (if q_cn S rf ly n (r i) (q_nxr r n i) = true then _ else _) = _
      rw [← ex, if_pos h]
    have cF : q_cn S rf ly n (r i) x = false → q_rsl (q_cn S rf ly n) (q_gn S rf ly) r n (m + 1) i sum = (-1000000) := fun h => by
      show (if q_cn S rf ly n (r i) (q_nxr r n i) = true then _ else _) = _
      rw [← ex, if_neg (by rw [h]; decide)]
    have k53 : qx_K G qc_T 1 RX3 YX3_rowScore 53 [.ref 160, .int (nI n), .retAddr 0, .int sum, .int (nI i), .int (nI x)] [] σ (qr (q_rsl (q_cn S rf ly n) (q_gn S rf ly) r n (m + 1) i sum) σ) := by
      refine qy_wp_ok (c := CX3_rowScore) (cuts := [19]) vX3_rowScore wX3_rowScore 2000 53 _ _ _ ?_
      refine And.intro rfl (Exists.intro 173 (And.intro rfl ?_))
      refine Exists.intro (i) (Exists.intro (nI (r i)) (And.intro rfl (And.intro ⟨5, rfl, by omega, by decide⟩ (And.intro (hr i hi) ?_))))
      refine And.intro rfl (Exists.intro _ (And.intro (by decide) (qx_M_mono (c_isOpen ho hpe hn ri xl) ?_)))
      rintro _ _ ⟨rfl, rfl⟩
      refine And.intro (fun h67 => ?_) (fun h67 => ?_)
      · skip
        have h67 := bI_t h67
        refine And.intro rfl (Exists.intro 168 (And.intro rfl ?_))
        refine And.intro rfl (Exists.intro 173 (And.intro rfl ?_))
        refine Exists.intro (i) (Exists.intro (nI (r i)) (And.intro rfl (And.intro ⟨5, rfl, by omega, by decide⟩ (And.intro (hr i hi) ?_))))
        refine Exists.intro (nI 10) (And.intro rfl ?_)
        refine Exists.intro (nI ((r i) * 10)) (And.intro (pk_mul _ _) ?_)
        refine Exists.intro (nI ((r i) * 10 + x)) (And.intro (nI_add _ _) ?_)
        refine Exists.intro ((r i) * 10 + x) (Exists.intro (q_gn S rf ly (r i) x) (And.intro rfl (And.intro ⟨100, rfl, by omega, by decide⟩ (And.intro (hg (r i) x ri xl) ?_))))
        refine Exists.intro (sum + (q_gn S rf ly (r i) x)) (And.intro rfl ?_)
        refine Exists.intro (nI (i + 1)) (And.intro (nI_add _ _) ?_)
        refine qx_K_le (ls := [.ref 160, .int (nI n), .retAddr 0, .int (sum + (q_gn S rf ly (r i) x)), .int (nI (i + 1)), .retAddr 0]) ⟨Or.inr rfl, Or.inr rfl, Or.inr rfl, Or.inr rfl, Or.inr rfl, Or.inl rfl, trivial⟩ ?_
        rw [cT h67]; exact ih (i + 1) _ (by omega)
      · skip
        have h67 := bI_f h67
        refine Exists.intro ((-1000000)) (And.intro (by decide) ?_)
        exact ⟨by rw [cF h67], rfl⟩
    refine qy_wp_ok (c := CX3_rowScore) (cuts := [19, 53]) vX3_rowScore wX3_rowScore 2000 19 _ _ _ ?_
    refine And.intro (fun h22 => ?_) (fun h22 => ?_)
    · skip
      have h22 := nI_leT (a := n) (b := i) (by omega) (by omega) h22
      exact absurd h22 (by omega)
    · skip
      have h22 := nI_leF (a := n) (b := i) (by omega) (by omega) h22
      refine Exists.intro (nI 1) (And.intro rfl ?_)
      refine Exists.intro (nI (i + 1)) (And.intro (nI_add _ _) ?_)
      refine And.intro (fun h30 => ?_) (fun h30 => ?_)
      · skip
        have h30 := nI_leT (a := n) (b := i + 1) (by omega) (by omega) h30
        refine And.intro rfl (Exists.intro 173 (And.intro rfl ?_))
        refine Exists.intro (nI 0) (And.intro rfl ?_)
        refine Exists.intro (0) (Exists.intro (nI (r 0)) (And.intro rfl (And.intro ⟨5, rfl, by decide, by decide⟩ (And.intro (hr 0 h0) ?_))))
        have e : x = r 0 := by rw [ex]; exact if_neg (by omega)
        rw [← e]; exact k53
      · skip
        have h30 := nI_leF (a := n) (b := i + 1) (by omega) (by omega) h30
        refine And.intro rfl (Exists.intro 173 (And.intro rfl ?_))
        refine Exists.intro (nI 1) (And.intro rfl ?_)
        refine Exists.intro (nI (i + 1)) (And.intro (nI_add _ _) ?_)
        refine Exists.intro (i + 1) (Exists.intro (nI (r (i + 1))) (And.intro rfl (And.intro ⟨5, rfl, by omega, by decide⟩ (And.intro (hr (i + 1) h30) ?_))))
        have e : x = r (i + 1) := by rw [ex]; exact if_pos h30
        rw [← e]; exact k53
def q_rsc (M : q_Mt) (can : Nat → Nat → Bool) (gn : Nat → Nat → Int32) (r : Nat → Nat) (n set : Nat) : Int32 := if M.1 set = (-1000000) then (-1000000) else q_rsl can gn r n n 0 0
theorem c_rowScore {G : qx_G} {σ : qx_S} {S : qS} {rf : Option qR} {ly : Option (Nat × Nat)} {n set : Nat} {r : Nat → Nat} {M : q_Mt} (hpe : s_n S 1 ≤ 10) (hg : gA σ S rf ly) (ho : oA σ S rf ly n) (hn : n ≤ 4) (h0 : 0 < n) (hr : rwC σ r n) (hr2 : ∀ i, i < n → r i < s_n S 1) (hs : set < 1024) (hR : mR σ M) : qx_M G qc_T 1 YX3_rowScore [.ref 160, .int (nI n), .int (nI set)] σ (qr (q_rsc M (q_cn S rf ly n) (q_gn S rf ly) r n set) σ) := by
  refine qx_M_in rfl (Nat.le_of_ble_eq_true rfl) ?_
  refine qy_wp_ok (c := CX3_rowScore) (cuts := [19]) vX3_rowScore wX3_rowScore 2000 0 _ _ _ ?_
  refine And.intro rfl (Exists.intro 169 (And.intro rfl ?_))
  refine Exists.intro (set) (Exists.intro (M.1 set) (And.intro rfl (And.intro ⟨1024, rfl, by omega, by decide⟩ (And.intro (hR.1 set hs) ?_))))
  refine Exists.intro ((-1000000)) (And.intro (by decide) ?_)
  refine And.intro (fun h8 => ?_) (fun h8 => ?_)
  · skip
    refine Exists.intro (nI 0) (And.intro rfl ?_)
    refine Exists.intro (nI 0) (And.intro rfl ?_)
    refine qx_K_le (ls := [.ref 160, .int (nI n), .retAddr 0, .int (nI 0), .int (nI 0), .retAddr 0]) ⟨Or.inr rfl, Or.inr rfl, Or.inl rfl, Or.inr rfl, Or.inr rfl, Or.inr rfl, trivial⟩ ?_
    unfold q_rsc
    rw [if_neg h8]
    exact l_rs hpe hg ho hn h0 hr hr2 n 0 0 (by omega)
  · skip
    refine Exists.intro ((-1000000)) (And.intro (by decide) ?_)
    exact ⟨by unfold q_rsc; rw [if_pos h8], rfl⟩
def q_tkr (r : Nat → Nat) (n : Nat) : Nat → Nat → (Nat → Nat) → Nat → Nat
  | 0, _, t => t
  | m + 1, i, t => q_tkr r n m (i + 1) (va_up t (r i) (q_nxr r n i))
def tkC (σ : qx_S) (pe : Nat) (t : Nat → Nat) : Prop := ∀ i, i < pe → qx_mi σ 161 i = nI (t i)
theorem l_tr {G : qx_G} {σ0 : qx_S} {pe n : Nat} {r : Nat → Nat} (hpe : pe ≤ 10) (hn : n ≤ 4) (h0 : 0 < n) (hr0 : rwC σ0 r n) (hr2 : ∀ i, i < n → r i < pe) : ∀ (m i : Nat) (σ : qx_S) (t : Nat → Nat), m + i = n → ql [(161, none)] σ0 σ → tkC σ pe t → qx_K G qc_T 0 RX3 YX3_takeRow 2 [.ref 160, .int (nI n), .int (nI i)] [] σ (fun z s => z = none ∧ ql [(161, none)] σ0 s ∧ tkC s pe (q_tkr r n m i t)) := by
  intro m
  induction m with
  | zero =>
    intro i σ t hm hf ht
    obtain rfl : i = n := by omega
    refine qy_wp_ok (c := CX3_takeRow) (cuts := [2]) vX3_takeRow wX3_takeRow 2000 2 _ _ _ ?_
    refine And.intro (fun h4 => ?_) (fun h4 => ?_)
    · skip
      have h4 := nI_leT (a := i) (b := i) (by omega) (by omega) h4
      exact ⟨rfl, hf, ht⟩
    · skip
      have h4 := nI_leF (a := i) (b := i) (by omega) (by omega) h4
      exact absurd h4 (by omega)
  | succ m ih =>
    intro i σ t hm hf ht
    have hi : i < n := by omega
    have ri := hr2 i hi
    have hr : rwC σ r n := fun j hj => (hf.i _ _ rfl).trans (hr0 j hj)
    have st : ∀ s x, q_nxr r n i = x → s = qx_wi σ 161 (r i) (nI x) → qx_K G qc_T 0 RX3 YX3_takeRow 2 [.ref 160, .int (nI n), .int (nI (i + 1))] [] s (fun z s => z = none ∧ ql [(161, none)] σ0 s ∧ tkC s pe (q_tkr r n (m + 1) i t)) := by
      intro s x hx es
      refine ih (i + 1) s (va_up t (r i) (q_nxr r n i)) (by omega) (hf.tr (qn_wi es)) (fun j hj => ?_)
      rw [hx]
      by_cases z : j = r i
      · rw [z, va_up_self]; exact qn_eq es
      · rw [va_up_ne _ _ z]
        exact (qn_ne es (Or.inr z)).trans (ht j hj)
    refine qy_wp_ok (c := CX3_takeRow) (cuts := [2]) vX3_takeRow wX3_takeRow 2000 2 _ _ _ ?_
    refine And.intro (fun h4 => ?_) (fun h4 => ?_)
    · skip
      have h4 := nI_leT (a := n) (b := i) (by omega) (by omega) h4
      exact absurd h4 (by omega)
    · skip
      have h4 := nI_leF (a := n) (b := i) (by omega) (by omega) h4
      refine And.intro rfl (Exists.intro 161 (And.intro rfl ?_))
      refine And.intro rfl (Exists.intro 173 (And.intro rfl ?_))
      refine Exists.intro (i) (Exists.intro (nI (r i)) (And.intro rfl (And.intro ⟨5, rfl, by omega, by decide⟩ (And.intro (hr i hi) ?_))))
      refine Exists.intro (nI 1) (And.intro rfl ?_)
      refine Exists.intro (nI (i + 1)) (And.intro (nI_add _ _) ?_)
      refine And.intro (fun h21 => ?_) (fun h21 => ?_)
      · skip
        have h21 := nI_leT (a := n) (b := i + 1) (by omega) (by omega) h21
        refine And.intro rfl (Exists.intro 173 (And.intro rfl ?_))
        refine Exists.intro (nI 0) (And.intro rfl ?_)
        refine Exists.intro (0) (Exists.intro (nI (r 0)) (And.intro rfl (And.intro ⟨5, rfl, by decide, by decide⟩ (And.intro (hr 0 h0) ?_))))
        obtain ⟨σ1, eσ1⟩ : ∃ zs, zs = (qx_wi σ 161 (r i) (nI (r 0))) := ⟨_, rfl⟩
        have fσ1 := qn_wi eσ1
        refine Exists.intro (r i) (Exists.intro σ1 (And.intro rfl (And.intro ⟨10, rfl, by omega, by decide⟩ (And.intro eσ1.symm ?_))))
        refine Exists.intro (nI (i + 1)) (And.intro (nI_add _ _) ?_)
        first | exact st _ _ (if_neg (by omega)) eσ1 | exact st _ _ (if_pos h21) eσ1
      · skip
        have h21 := nI_leF (a := n) (b := i + 1) (by omega) (by omega) h21
        refine And.intro rfl (Exists.intro 173 (And.intro rfl ?_))
        refine Exists.intro (nI 1) (And.intro rfl ?_)
        refine Exists.intro (nI (i + 1)) (And.intro (nI_add _ _) ?_)
        refine Exists.intro (i + 1) (Exists.intro (nI (r (i + 1))) (And.intro rfl (And.intro ⟨5, rfl, by omega, by decide⟩ (And.intro (hr (i + 1) h21) ?_))))
        obtain ⟨σ1, eσ1⟩ : ∃ zs, zs = (qx_wi σ 161 (r i) (nI (r (i + 1)))) := ⟨_, rfl⟩
        have fσ1 := qn_wi eσ1
        refine Exists.intro (r i) (Exists.intro σ1 (And.intro rfl (And.intro ⟨10, rfl, by omega, by decide⟩ (And.intro eσ1.symm ?_))))
        refine Exists.intro (nI (i + 1)) (And.intro (nI_add _ _) ?_)
        first | exact st _ _ (if_pos h21) eσ1 | exact st _ _ (if_neg (by omega)) eσ1
theorem c_takeRow {G : qx_G} {σ : qx_S} {pe n : Nat} {r t : Nat → Nat} (hpe : pe ≤ 10) (hn : n ≤ 4) (h0 : 0 < n) (hr : rwC σ r n) (hr2 : ∀ i, i < n → r i < pe) (ht : tkC σ pe t) : qx_M G qc_T 0 YX3_takeRow [.ref 160, .int (nI n)] σ (fun z s => z = none ∧ ql [(161, none)] σ s ∧ tkC s pe (q_tkr r n n 0 t)) := by
  refine qx_M_in rfl (Nat.le_of_ble_eq_true rfl) ?_
  refine qy_wp_ok (c := CX3_takeRow) (cuts := [2]) vX3_takeRow wX3_takeRow 2000 0 _ _ _ ?_
  refine Exists.intro (nI 0) (And.intro rfl ?_)
  exact l_tr hpe hn h0 hr hr2 n 0 σ t (by omega) qf.rf ht

