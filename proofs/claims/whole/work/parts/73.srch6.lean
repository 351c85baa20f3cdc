/-! THE REFERENCE: searches, loops -/
def gR (S : qS) (go : Option (Nat × Nat)) (gp gq : Int32) : Prop := match go with
  | none => gp < 0
  | some x => gp = nI x.1 ∧ gq = nI x.2 ∧ x.1 < s_n S 1 ∧ x.2 < 8
def qI (σ0 : qx_S) (S : qS) (rf : Option qR) (B : q_B) (σ : qx_S) : Prop := ql lQ σ0 σ ∧ (∃ S', mX σ S' rf none ∧ sP S S') ∧ mS σ B ∧ 0 < B.1 ∧ ∀ i, i < B.1 → q_vd S (q_co B i)
theorem qI.ap {σ0 σ s : qx_S} {S S' : qS} {rf : Option qR} {B : q_B} {e : q_E} (hf : ql lQ σ0 σ) (hX : mX σ S' rf none) (hs : sP S S') (f : ql lS σ s) (hB : mS s (q_ap B e)) (hv : ∀ i, i < B.1 → q_vd S (q_co B i)) (he : q_vd S e.1) : qI σ0 S rf (q_ap B e) s := by
  refine ⟨hf.tr (f.mn (by decide)), ⟨S', hX.fr f rfl, hs⟩, hB, Nat.succ_pos _, fun i hi => ?_⟩
  have hi' : i < B.1 + 1 := hi
  rw [q_co_ap]
  by_cases z : i = B.1
  · rw [z, va_up_self]
    exact he
  · rw [va_up_ne _ _ z]
    exact hv i (by omega)
theorem l_ev {G : qx_G} {Φ : qx_F} {σ0 : qx_S} {S : qS} {rf : Option qR} {go : Option (Nat × Nat)} {gp gq : Int32} (g : gS S) (hg : gR S go gp gq) {k a b : Nat} {B : q_B} {σ : qx_S} (hI : qI σ0 S rf B σ) (hle : B.1 ≤ 2000) (hk : k < B.1) (hab : a < b) (hb : b < s_n S 1)
    (hno : ∀ s B', q_ev S rf go k a b B = (B', none) → qI σ0 S rf B' s → B'.1 ≤ 2000 → k < B'.1 → qx_K G qc_T 7 RX12 YX12_searches 176 [.ref 197, .int gp, .int gq, .int (nI k), .int (nI a), .int (nI b), .retAddr 0, .retAddr 0] [] s Φ)
    (hre : ∀ s B' r, q_ev S rf go k a b B = (B', some r) → qI σ0 S rf B' s → Φ (some (.int r)) s) :
    qx_K G qc_T 7 RX12 YX12_searches 60 [.ref 197, .int gp, .int gq, .int (nI k), .int (nI a), .int (nI b), .retAddr 0, .retAddr 0] [] σ Φ := by
  obtain ⟨hf, ⟨S', hX, hs⟩, hB, h0, hv⟩ := hI
  have h10 := g.2.1.2
  have ha : a < s_n S 1 := by omega
  have hvk := hv k hk
  have hw := q_sw_vd g hvk ha hb
  refine l_evA g hX hs hB hk rfl hvk ha hb (by omega) ?_ ?_
  · intro s S'' f x y z w
    refine hno s B ?_ ⟨hf.tr f, ⟨S'', x, y⟩, z, h0, hv⟩ hle hk
    rcases w with w | w
    · exact q_ev_no w
    · exact q_ev_old w
  · intro s f x z hc hfi
    have hgr : sP S (q_gr (q_two a b) 2 (q_st S (q_co B k))) := (sP.st _).gr ha hb
    have key : qx_K G qc_T 7 RX12 YX12_searches 131 [.ref 197, .int gp, .int gq, .int (nI k), .int (nI a), .int (nI b), .int (nI (q_sw (s_n S 1) (q_co B k) a b)), .int (bI (q_gl1 go (q_sw (s_n S 1) (q_co B k) a b)))] [] s Φ := by
      refine l_evC z h0 hle hk (by omega) (by omega) hw.1 hfi ?_ ?_ ?_
      · intro y1 y2
        exact hre s B _ (q_ev_full hc hfi y1 y2) ⟨hf.tr f, ⟨_, x, hgr⟩, z, h0, hv⟩
      · intro s' y1 y2 y3
        exact hre s' _ _ (q_ev_goal hc hfi y1) (qI.ap (hf.tr f) x hgr y2 y3 hv hw)
      · intro s' y1 y2 y3 y4
        exact hno s' _ (q_ev_new hc hfi y2 y1) (qI.ap (hf.tr f) x hgr y3 y4 hv hw) y2 (Nat.lt_succ_of_lt hk)
    match go, hg, key with
    | none, hg, key => exact l_evB0 hg key
    | some (w, q), hg, key =>
      obtain ⟨rfl, rfl, y1, y2⟩ := hg
      have y1 : w < s_n S 1 := y1
      refine l_evB1 (d := q_sd (q_co B k) a b w) (by omega) y2 (q_sd_lt _ _ _ _) ?_ ?_
      · rw [x.1]
        exact q_gr_st ha hb (by omega) y1
      · have e : q_gl1 (some (w, q)) (q_sw (s_n S 1) (q_co B k) a b) = decide (q_sd (q_co B k) a b w = q) := by
          show decide (q_dg _ w = q) = _
          rw [q_sw_dg y1]
        rw [e] at key
        exact key
theorem q_lp_n {f : Nat → q_B → q_B × Option Int32} {m i : Nat} {B B' : q_B} (h : f i B = (B', none)) : q_lp f (m + 1) i B = q_lp f m (i + 1) B' := by
  show (if (f i B).2.isSome = true then f i B else q_lp f m (i + 1) (f i B).1) = _
  rw [h]
  exact if_neg Bool.false_ne_true
theorem q_lp_r {f : Nat → q_B → q_B × Option Int32} {m i : Nat} {B B' : q_B} {r : Int32} (h : f i B = (B', some r)) : q_lp f (m + 1) i B = (B', some r) := by
  show (if (f i B).2.isSome = true then f i B else q_lp f m (i + 1) (f i B).1) = _
  rw [h]
  exact if_pos rfl
theorem q_wk_n {f : Nat → q_B → q_B × Option Int32} {m i : Nat} {B B' : q_B} (hi : i < B.1) (h : f i B = (B', none)) : q_wk f (m + 1) i B = q_wk f m (i + 1) B' := by
  show (if i < B.1 then (if (f i B).2.isSome = true then f i B else q_wk f m (i + 1) (f i B).1) else (B, none)) = _
  rw [if_pos hi, h]
  exact if_neg Bool.false_ne_true
theorem q_wk_r {f : Nat → q_B → q_B × Option Int32} {m i : Nat} {B B' : q_B} {r : Int32} (hi : i < B.1) (h : f i B = (B', some r)) : q_wk f (m + 1) i B = (B', some r) := by
  show (if i < B.1 then (if (f i B).2.isSome = true then f i B else q_wk f m (i + 1) (f i B).1) else (B, none)) = _
  rw [if_pos hi, h]
  exact if_pos rfl
theorem q_wk_e {f : Nat → q_B → q_B × Option Int32} {m i : Nat} {B : q_B} (hi : ¬ i < B.1) : q_wk f m i B = (B, none) := by
  cases m with
  | zero => rfl
  | succ m => exact if_neg hi
theorem qI.pe {σ0 σ : qx_S} {S : qS} {rf : Option qR} {B : q_B} (h : qI σ0 S rf B σ) (g : gS S) : qx_mi σ 207 1 = nI (s_n S 1) := by
  obtain ⟨-, ⟨S', hX, hs⟩, -⟩ := h
  rw [hX.1, hs 1 (by omega)]
  exact g.2.1.1
theorem l_sb {G : qx_G} {Φ : qx_F} {σ0 : qx_S} {S : qS} {rf : Option qR} {go : Option (Nat × Nat)} {gp gq : Int32} (g : gS S) (hg : gR S go gp gq) {k a : Nat} : ∀ (m b : Nat) (B : q_B) (σ : qx_S), m = s_n S 1 - b → b ≤ s_n S 1 → a < b → qI σ0 S rf B σ → B.1 ≤ 2000 → k < B.1 →
    (∀ s B', q_lp (q_ev S rf go k a) m b B = (B', none) → qI σ0 S rf B' s → B'.1 ≤ 2000 → k < B'.1 → qx_K G qc_T 7 RX12 YX12_searches 182 [.ref 197, .int gp, .int gq, .int (nI k), .int (nI a), .retAddr 0, .retAddr 0, .retAddr 0] [] s Φ) →
    (∀ s B' r, q_lp (q_ev S rf go k a) m b B = (B', some r) → qI σ0 S rf B' s → Φ (some (.int r)) s) →
    qx_K G qc_T 7 RX12 YX12_searches 49 [.ref 197, .int gp, .int gq, .int (nI k), .int (nI a), .int (nI b), .retAddr 0, .retAddr 0] [] σ Φ := by
  have h10 := g.2.1.2
  intro m
  induction m with
  | zero =>
    intro b B σ hm hb hab hI hle hk hno hre
    have ep := hI.pe g
    refine qy_wp_ok (c := CX12_searches) (cuts := [49, 60, 182]) vX12_searches wX12_searches 2000 49 _ _ _ ?_
    refine And.intro rfl (Exists.intro 207 (And.intro rfl ?_))
    refine Exists.intro (nI 1) (And.intro rfl ?_)
    refine Exists.intro (1) (Exists.intro (nI (s_n S 1)) (And.intro rfl (And.intro ⟨2788, rfl, by decide, by decide⟩ (And.intro ep ?_))))
    refine And.intro (fun h57 => ?_) (fun h57 => ?_)
    · skip
      have h57 := nI_leT (a := s_n S 1) (b := b) (by omega) (by omega) h57
      refine qx_K_le (ls := [.ref 197, .int gp, .int gq, .int (nI k), .int (nI a), .retAddr 0, .retAddr 0, .retAddr 0]) ⟨Or.inr rfl, Or.inr rfl, Or.inr rfl, Or.inr rfl, Or.inr rfl, Or.inl rfl, Or.inr rfl, Or.inr rfl, trivial⟩ ?_
      exact hno _ _ rfl hI hle hk
    · skip
      have h57 := nI_leF (a := s_n S 1) (b := b) (by omega) (by omega) h57
      exact absurd h57 (by omega)
  | succ m ih =>
    intro b B σ hm hb hab hI hle hk hno hre
    have ep := hI.pe g
    have hlt : b < s_n S 1 := by omega
    have key : qx_K G qc_T 7 RX12 YX12_searches 60 [.ref 197, .int gp, .int gq, .int (nI k), .int (nI a), .int (nI b), .retAddr 0, .retAddr 0] [] σ Φ := by
      refine l_ev g hg hI hle hk hab hlt ?_ ?_
      · intro s B' he hI' hle' hk'
        rw [q_lp_n he] at hno hre
        have nx := ih (b + 1) B' s (by omega) (by omega) (by omega) hI' hle' hk' hno hre
        refine qy_wp_ok (c := CX12_searches) (cuts := [176, 49]) vX12_searches wX12_searches 2000 176 _ _ _ ?_
        refine Exists.intro (nI (b + 1)) (And.intro (nI_add _ _) ?_)
        exact nx
      · intro s B' r he hI'
        exact hre s B' r (q_lp_r he) hI'
    refine qy_wp_ok (c := CX12_searches) (cuts := [49, 60, 182]) vX12_searches wX12_searches 2000 49 _ _ _ ?_
    refine And.intro rfl (Exists.intro 207 (And.intro rfl ?_))
    refine Exists.intro (nI 1) (And.intro rfl ?_)
    refine Exists.intro (1) (Exists.intro (nI (s_n S 1)) (And.intro rfl (And.intro ⟨2788, rfl, by decide, by decide⟩ (And.intro ep ?_))))
    refine And.intro (fun h57 => ?_) (fun h57 => ?_)
    · skip
      have h57 := nI_leT (a := s_n S 1) (b := b) (by omega) (by omega) h57
      exact absurd h57 (by omega)
    · skip
      have h57 := nI_leF (a := s_n S 1) (b := b) (by omega) (by omega) h57
      exact key

