/-! THE REFERENCE: searches -/
theorem l_sa {G : qx_G} {Φ : qx_F} {σ0 : qx_S} {S : qS} {rf : Option qR} {go : Option (Nat × Nat)} {gp gq : Int32} (g : gS S) (hg : gR S go gp gq) {k : Nat} : ∀ (m a : Nat) (B : q_B) (σ : qx_S), m = s_n S 1 - a → a ≤ s_n S 1 → qI σ0 S rf B σ → B.1 ≤ 2000 → k < B.1 →
    (∀ s B', q_lp (q_sb S rf go k) m a B = (B', none) → qI σ0 S rf B' s → B'.1 ≤ 2000 → k < B'.1 → qx_K G qc_T 7 RX12 YX12_searches 188 [.ref 197, .int gp, .int gq, .int (nI k), .retAddr 0, .retAddr 0, .retAddr 0, .retAddr 0] [] s Φ) →
    (∀ s B' r, q_lp (q_sb S rf go k) m a B = (B', some r) → qI σ0 S rf B' s → Φ (some (.int r)) s) →
    qx_K G qc_T 7 RX12 YX12_searches 32 [.ref 197, .int gp, .int gq, .int (nI k), .int (nI a), .retAddr 0, .retAddr 0, .retAddr 0] [] σ Φ := by
  have h10 := g.2.1.2
  intro m
  induction m with
  | zero =>
    intro a B σ hm ha hI hle hk hno hre
    have ep := hI.pe g
    refine qy_wp_ok (c := CX12_searches) (cuts := [32, 49, 188]) vX12_searches wX12_searches 2000 32 _ _ _ ?_
    refine And.intro rfl (Exists.intro 207 (And.intro rfl ?_))
    refine Exists.intro (nI 1) (And.intro rfl ?_)
    refine Exists.intro (1) (Exists.intro (nI (s_n S 1)) (And.intro rfl (And.intro ⟨2788, rfl, by decide, by decide⟩ (And.intro ep ?_))))
    refine And.intro (fun h40 => ?_) (fun h40 => ?_)
    · skip
      have h40 := nI_leT (a := s_n S 1) (b := a) (by omega) (by omega) h40
      refine qx_K_le (ls := [.ref 197, .int gp, .int gq, .int (nI k), .retAddr 0, .retAddr 0, .retAddr 0, .retAddr 0]) ⟨Or.inr rfl, Or.inr rfl, Or.inr rfl, Or.inr rfl, Or.inl rfl, Or.inr rfl, Or.inr rfl, Or.inr rfl, trivial⟩ ?_
      exact hno _ _ rfl hI hle hk
    · skip
      have h40 := nI_leF (a := s_n S 1) (b := a) (by omega) (by omega) h40
      exact absurd h40 (by omega)
  | succ m ih =>
    intro a B σ hm ha hI hle hk hno hre
    have ep := hI.pe g
    have hlt : a < s_n S 1 := by omega
    have key : qx_K G qc_T 7 RX12 YX12_searches 49 [.ref 197, .int gp, .int gq, .int (nI k), .int (nI a), .int (nI (a + 1)), .retAddr 0, .retAddr 0] [] σ Φ := by
      refine l_sb g hg (s_n S 1 - (a + 1)) (a + 1) B σ rfl (by omega) (by omega) hI hle hk ?_ ?_
      · intro s B' he hI' hle' hk'
        rw [q_lp_n (f := q_sb S rf go k) he] at hno hre
        have nx := ih (a + 1) B' s (by omega) (by omega) hI' hle' hk' hno hre
        refine qy_wp_ok (c := CX12_searches) (cuts := [182, 32]) vX12_searches wX12_searches 2000 182 _ _ _ ?_
        refine Exists.intro (nI (a + 1)) (And.intro (nI_add _ _) ?_)
        exact nx
      · intro s B' r he hI'
        exact hre s B' r (q_lp_r (f := q_sb S rf go k) he) hI'
    refine qy_wp_ok (c := CX12_searches) (cuts := [32, 49, 188]) vX12_searches wX12_searches 2000 32 _ _ _ ?_
    refine And.intro rfl (Exists.intro 207 (And.intro rfl ?_))
    refine Exists.intro (nI 1) (And.intro rfl ?_)
    refine Exists.intro (1) (Exists.intro (nI (s_n S 1)) (And.intro rfl (And.intro ⟨2788, rfl, by decide, by decide⟩ (And.intro ep ?_))))
    refine And.intro (fun h40 => ?_) (fun h40 => ?_)
    · skip
      have h40 := nI_leT (a := s_n S 1) (b := a) (by omega) (by omega) h40
      exact absurd h40 (by omega)
    · skip
      have h40 := nI_leF (a := s_n S 1) (b := a) (by omega) (by omega) h40
      refine Exists.intro (nI 1) (And.intro rfl ?_)
      refine Exists.intro (nI (a + 1)) (And.intro (nI_add _ _) ?_)
      exact key
theorem l_sk {G : qx_G} {Φ : qx_F} {σ0 : qx_S} {S : qS} {rf : Option qR} {go : Option (Nat × Nat)} {gp gq : Int32} (g : gS S) (hg : gR S go gp gq) : ∀ (m k : Nat) (B : q_B) (σ : qx_S), m + k = 2001 → k ≤ B.1 → qI σ0 S rf B σ → B.1 ≤ 2000 →
    (∀ s B', q_wk (q_sa S rf go) m k B = (B', none) → qI σ0 S rf B' s → Φ (some (.int (-2))) s) →
    (∀ s B' r, q_wk (q_sa S rf go) m k B = (B', some r) → qI σ0 S rf B' s → Φ (some (.int r)) s) →
    qx_K G qc_T 7 RX12 YX12_searches 21 [.ref 197, .int gp, .int gq, .int (nI k), .retAddr 0, .retAddr 0, .retAddr 0, .retAddr 0] [] σ Φ := by
  intro m
  induction m with
  | zero =>
    intro k B σ hm hkB hI hle hno hre
    exact absurd hkB (by omega)
  | succ m ih =>
    intro k B σ hm hkB hI hle hno hre
    have ez := hI.2.2.1.2.1
    rcases Nat.lt_or_ge k B.1 with hlt | hge
    · have key : qx_K G qc_T 7 RX12 YX12_searches 32 [.ref 197, .int gp, .int gq, .int (nI k), .int (nI 0), .retAddr 0, .retAddr 0, .retAddr 0] [] σ Φ := by
        refine l_sa g hg (s_n S 1) 0 B σ rfl (by omega) hI hle hlt ?_ ?_
        · intro s B' he hI' hle' hk'
          rw [q_wk_n (f := q_sa S rf go) hlt he] at hno hre
          have nx := ih (k + 1) B' s (by omega) (by omega) hI' hle' hno hre
          refine qy_wp_ok (c := CX12_searches) (cuts := [188, 21]) vX12_searches wX12_searches 2000 188 _ _ _ ?_
          refine Exists.intro (nI (k + 1)) (And.intro (nI_add _ _) ?_)
          exact nx
        · intro s B' r he hI'
          exact hre s B' r (q_wk_r (f := q_sa S rf go) hlt he) hI'
      refine qy_wp_ok (c := CX12_searches) (cuts := [21, 32]) vX12_searches wX12_searches 2000 21 _ _ _ ?_
      refine And.intro rfl (Exists.intro 45 (Exists.intro (nI B.1) (And.intro rfl (And.intro ez ?_))))
      refine And.intro (fun h26 => ?_) (fun h26 => ?_)
      · skip
        have h26 := nI_leT (a := B.1) (b := k) (by omega) (by omega) h26
        exact absurd h26 (by omega)
      · skip
        have h26 := nI_leF (a := B.1) (b := k) (by omega) (by omega) h26
        refine Exists.intro (nI 0) (And.intro rfl ?_)
        exact key
    · skip
      refine qy_wp_ok (c := CX12_searches) (cuts := [21, 32]) vX12_searches wX12_searches 2000 21 _ _ _ ?_
      refine And.intro rfl (Exists.intro 45 (Exists.intro (nI B.1) (And.intro rfl (And.intro ez ?_))))
      refine And.intro (fun h26 => ?_) (fun h26 => ?_)
      · skip
        have h26 := nI_leT (a := B.1) (b := k) (by omega) (by omega) h26
        refine Exists.intro ((-2)) (And.intro (by decide) ?_)
        exact hno _ _ (q_wk_e (by omega)) hI
      · skip
        have h26 := nI_leF (a := B.1) (b := k) (by omega) (by omega) h26
        exact absurd h26 (by omega)
def q_se (S : qS) (rf : Option qR) (go : Option (Nat × Nat)) : q_B × Int32 :=
  if q_gl1 go (q_en (s_at S) (s_n S 1)) = true then (q_B0 (q_en (s_at S) (s_n S 1)), nI 0)
  else ((q_wk (q_sa S rf go) 2001 0 (q_B0 (q_en (s_at S) (s_n S 1)))).1, (q_wk (q_sa S rf go) 2001 0 (q_B0 (q_en (s_at S) (s_n S 1)))).2.getD (-2))
theorem q_se_0 {S : qS} {rf : Option qR} {go : Option (Nat × Nat)} (h : q_gl1 go (q_en (s_at S) (s_n S 1)) = true) : q_se S rf go = (q_B0 (q_en (s_at S) (s_n S 1)), nI 0) := if_pos h
theorem q_se_n {S : qS} {rf : Option qR} {go : Option (Nat × Nat)} {B : q_B} (h : q_gl1 go (q_en (s_at S) (s_n S 1)) = false) (e : q_wk (q_sa S rf go) 2001 0 (q_B0 (q_en (s_at S) (s_n S 1))) = (B, none)) : q_se S rf go = (B, -2) := by
  unfold q_se
  rw [if_neg (by rw [h]; exact Bool.false_ne_true), e]
  rfl
theorem q_se_r {S : qS} {rf : Option qR} {go : Option (Nat × Nat)} {B : q_B} {r : Int32} (h : q_gl1 go (q_en (s_at S) (s_n S 1)) = false) (e : q_wk (q_sa S rf go) 2001 0 (q_B0 (q_en (s_at S) (s_n S 1))) = (B, some r)) : q_se S rf go = (B, r) := by
  unfold q_se
  rw [if_neg (by rw [h]; exact Bool.false_ne_true), e]
  rfl
theorem qI.first {σ s : qx_S} {S : qS} {rf : Option qR} (hX : mX σ S rf none) (g : gS S) (f : ql lS σ s) (hB : mS s (q_B0 (q_en (s_at S) (s_n S 1)))) : qI σ S rf (q_B0 (q_en (s_at S) (s_n S 1))) s := by
  refine ⟨f.mn (by decide), ⟨S, hX.fr f rfl, sP.rf⟩, hB, Nat.succ_pos _, fun i hi => ?_⟩
  have hi' : i < 1 := hi
  obtain rfl : i = 0 := by omega
  exact q_en_vd g
theorem m_searches {G : qx_G} {σ : qx_S} {S : qS} {rf : Option qR} {go : Option (Nat × Nat)} {gp gq : Int32} (hX : mX σ S rf none) (g : gS S) (hg : gR S go gp gq) : qx_M G qc_T 7 YX12_searches [.ref 197, .int gp, .int gq] σ (fun r s => r = some (.int (q_se S rf go).2) ∧ qI σ S rf (q_se S rf go).1 s) := by
  have h10 := g.2.1.2
  have key : ∀ s, ql lS σ s → mS s (q_B0 (q_en (s_at S) (s_n S 1))) → q_gl1 go (q_en (s_at S) (s_n S 1)) = false → qx_K G qc_T 7 RX12 YX12_searches 21 [.ref 197, .int gp, .int gq, .int (nI 0), .retAddr 0, .retAddr 0, .retAddr 0, .retAddr 0] [] s (fun r s => r = some (.int (q_se S rf go).2) ∧ qI σ S rf (q_se S rf go).1 s) := by
    intro s f hB hgl
    refine l_sk g hg 2001 0 _ s (by omega) (by omega) (qI.first hX g f hB) (show 1 ≤ 2000 by decide) ?_ ?_
    · intro s' B' e hI'
      rw [q_se_n hgl e]
      exact ⟨rfl, hI'⟩
    · intro s' B' r e hI'
      rw [q_se_r hgl e]
      exact ⟨rfl, hI'⟩
  match go, hg, key with
  | none, hg, key =>
    have hg : gp < 0 := hg
    refine qx_M_in rfl (Nat.le_of_ble_eq_true rfl) ?_
    refine qy_wp_ok (c := CX12_searches) (cuts := [21]) vX12_searches wX12_searches 2000 0 _ _ _ ?_
    refine And.intro rfl (Exists.intro _ (And.intro (by decide) (qx_M_mono (m_begins hX.1 g) ?_)))
    rintro _ σ1 ⟨rfl, fσ1, aσ1⟩
    refine And.intro (fun h5 => ?_) (fun h5 => ?_)
    · skip
      refine Exists.intro (nI 0) (And.intro rfl ?_)
      exact key _ fσ1 aσ1 rfl
    · skip
      exact absurd hg h5
  | some (w, q), hg, key =>
    obtain ⟨rfl, rfl, y1, y2⟩ := hg
    have y1 : w < s_n S 1 := y1
    have y2 : q < 8 := y2
    have gw := g.2.2 w y1
    have h8 := g.1.2
    have hd : s_at S w < 8 := Nat.lt_of_lt_of_le gw.2 h8
    have e8 : ∀ i, i < s_n S 1 → s_at S i < 8 := fun i hi => Nat.lt_of_lt_of_le (g.2.2 i hi).2 h8
    have eg : q_gl1 (some (w, q)) (q_en (s_at S) (s_n S 1)) = decide (s_at S w = q) := by
      show decide (q_dg _ w = q) = _
      rw [q_dg_en _ _ _ e8 y1]
    refine qx_M_in rfl (Nat.le_of_ble_eq_true rfl) ?_
    refine qy_wp_ok (c := CX12_searches) (cuts := [21]) vX12_searches wX12_searches 2000 0 _ _ _ ?_
    refine And.intro rfl (Exists.intro _ (And.intro (by decide) (qx_M_mono (m_begins hX.1 g) ?_)))
    rintro _ σ1 ⟨rfl, fσ1, aσ1⟩
    refine And.intro (fun h5 => ?_) (fun h5 => ?_)
    · skip
      have h5 := nI_ltT (a := w) (b := 0) (by omega) (by decide) h5
      exact absurd h5 (by omega)
    · skip
      have h5 := nI_ltF (a := w) (b := 0) (by omega) (by decide) h5
      refine And.intro rfl (Exists.intro _ (And.intro (by decide) (qx_M_mono (m_at (by omega) (((fσ1.i 207 _ rfl).trans (congrFun hX.1 _)).trans gw.1)) ?_)))
      rintro _ _ ⟨rfl, rfl⟩
      refine And.intro (fun h14 => ?_) (fun h14 => ?_)
      · skip
        have h14 := nI_neT (a := s_at S w) (b := q) (by omega) (by omega) h14
        refine Exists.intro (nI 0) (And.intro rfl ?_)
        exact key _ fσ1 aσ1 (eg.trans (decide_eq_false h14))
      · skip
        have h14 := nI_eqT (a := s_at S w) (b := q) (by omega) (by omega) h14
        refine Exists.intro (nI 0) (And.intro rfl ?_)
        rw [q_se_0 (eg.trans (decide_eq_true h14))]
        exact ⟨rfl, qI.first hX g fσ1 aσ1⟩

