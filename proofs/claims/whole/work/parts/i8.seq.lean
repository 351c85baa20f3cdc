/-! SEARCH: the class grows just as the reference does -/
theorem q_fst_no {f : Nat → Bool} {d : Nat} : ∀ (m o : Nat), o + m ≤ d → q_fst f d m o = d → ∀ t, o ≤ t → t < o + m → f t = false
  | 0, _, _, _, t, h1, h2 => absurd h2 (by omega)
  | m + 1, o, hd, h, t, h1, h2 => by
    unfold q_fst at h
    split at h
    · next z => omega
    · next z =>
      by_cases e : t = o
      · rw [e]
        cases y : f o with
        | false => rfl
        | true => exact absurd y z
      · exact q_fst_no m (o + 1) (by omega) h t (by omega) (by omega)
theorem q_ad_old {Q : q_Q} {w f pr i : Nat} (hi : i < Q.1) (hw : Q.2.2.1 i = w) : ∃ wy, q_ad Q w f pr = (Q.1, Q.2.1, Q.2.2.1, Q.2.2.2.1, Q.2.2.2.2.1, Q.2.2.2.2.2.1, wy) := by
  have h : q_ix Q w < Q.1 := by
    rcases q_fst_in (fun i => decide (Q.2.2.1 i = w)) Q.1 Q.1 0 with z | ⟨_, z1, _⟩
    · have k := q_fst_no (f := fun i => decide (Q.2.2.1 i = w)) Q.1 0 (by omega) z i (by omega) (by omega)
      exact absurd hw (of_decide_eq_false k)
    · show q_fst _ _ _ _ < _
      omega
  unfold q_ad
  rw [if_pos h]
  split
  · exact ⟨_, rfl⟩
  · exact ⟨_, rfl⟩
theorem q_ad_new {Q : q_Q} {w f pr : Nat} (h : ∀ i, i < Q.1 → Q.2.2.1 i ≠ w) (hz : Q.1 ≤ 2000) : q_ad Q w f pr = (Q.1 + 1, Q.2.1, va_up Q.2.2.1 Q.1 w, va_up Q.2.2.2.1 Q.1 (Q.2.2.2.1 f + 1), va_up Q.2.2.2.2.1 Q.1 f, va_up Q.2.2.2.2.2.1 Q.1 pr, va_up Q.2.2.2.2.2.2 Q.1 (Q.2.2.2.2.2.2 f)) := by
  unfold q_ad
  rw [q_ix_none h, if_neg (Nat.lt_irrefl _), if_neg (by omega)]
theorem q_qv_no {S : qS} {rf : Option qR} {k w a b : Nat} {Q : q_Q} (h : q_cs S rf w a b = false) : q_qv S rf k w a b Q = Q := by
  unfold q_qv
  split
  · rfl
  · rw [if_neg (show ¬ q_c2 S rf a b (q_dg w a) (q_dg w b) = true from fun y => absurd (h.symm.trans y) (by decide))]
theorem q_qv_y {S : qS} {rf : Option qR} {k w a b : Nat} {Q : q_Q} (h : q_cs S rf w a b = true) : q_qv S rf k w a b Q = q_ad Q (q_sw (s_n S 1) w a b) k (a * 10 + b) := by
  unfold q_qv
  rw [if_neg (fun y => ?_), if_pos (show q_c2 S rf a b (q_dg w a) (q_dg w b) = true from h)]
  unfold q_cs at h
  simp only [Bool.and_eq_true] at h
  have h1 := of_decide_eq_true h.1
  unfold q_bk at h1
  rw [if_pos y.symm] at h1
  exact absurd h1 (by decide)
/-- the class's rows are the reference's (as many as it has) -/
def ePB (Q : q_Q) (B : q_B) : Prop := B.1 ≤ Q.1 ∧ ∀ i, i < B.1 → Q.2.2.1 i = q_co B i ∧ Q.2.2.2.1 i = q_lv B i ∧ (0 < i → Q.2.2.2.2.1 i = q_fr1 B i ∧ Q.2.2.2.2.2.1 i = q_ba B i * 10 + q_bb B i)
def eQB (Q : q_Q) (B : q_B) : Prop := Q.1 = B.1 ∧ ePB Q B
theorem ePB.pf {Q Q' : q_Q} {B : q_B} (h : ePB Q B) (k : q_pf Q Q') : ePB Q' B := by
  refine ⟨Nat.le_trans h.1 k.1.1, fun i hi => ?_⟩
  have h1 := h.2 i hi
  have k1 := k.2 i (Nat.lt_of_lt_of_le hi h.1)
  exact ⟨k1.1.trans h1.1, k1.2.1.trans h1.2.1, fun h0 => ⟨k1.2.2.1.trans (h1.2.2 h0).1, k1.2.2.2.trans (h1.2.2 h0).2⟩⟩
theorem ePB.ap {Q : q_Q} {B : q_B} (h : eQB Q B) {n k a b : Nat} (hk : k < B.1) : eQB (Q.1 + 1, Q.2.1, va_up Q.2.2.1 Q.1 n, va_up Q.2.2.2.1 Q.1 (Q.2.2.2.1 k + 1), va_up Q.2.2.2.2.1 Q.1 k, va_up Q.2.2.2.2.2.1 Q.1 (a * 10 + b), va_up Q.2.2.2.2.2.2 Q.1 (Q.2.2.2.2.2.2 k)) (q_ap B (n, k, a, b, q_lv B k + 1, 0)) := by
  obtain ⟨h1, h2, h3⟩ := h
  refine ⟨by show Q.1 + 1 = B.1 + 1; rw [h1], by show B.1 + 1 ≤ Q.1 + 1; omega, fun i hi => ?_⟩
  have hi : i < B.1 + 1 := hi
  have old : ∀ i, i < B.1 → (q_ap B (n, k, a, b, q_lv B k + 1, 0)).2 i = B.2 i := fun i hi => q_ap_old hi
  have new : (q_ap B (n, k, a, b, q_lv B k + 1, 0)).2 B.1 = (n, k, a, b, q_lv B k + 1, 0) := q_ap_new
  rcases Nat.lt_or_ge i B.1 with z | z
  · have e := h3 i z
    have ne : i ≠ Q.1 := by omega
    show va_up Q.2.2.1 Q.1 n i = ((q_ap B (n, k, a, b, q_lv B k + 1, 0)).2 i).1 ∧ va_up Q.2.2.2.1 Q.1 (Q.2.2.2.1 k + 1) i = ((q_ap B (n, k, a, b, q_lv B k + 1, 0)).2 i).2.2.2.2.1 ∧ (0 < i → va_up Q.2.2.2.2.1 Q.1 k i = ((q_ap B (n, k, a, b, q_lv B k + 1, 0)).2 i).2.1 ∧ va_up Q.2.2.2.2.2.1 Q.1 (a * 10 + b) i = ((q_ap B (n, k, a, b, q_lv B k + 1, 0)).2 i).2.2.1 * 10 + ((q_ap B (n, k, a, b, q_lv B k + 1, 0)).2 i).2.2.2.1)
    rw [old i z, va_up_ne _ _ ne, va_up_ne _ _ ne, va_up_ne _ _ ne, va_up_ne _ _ ne]
    exact e
  · obtain rfl : i = B.1 := by omega
    show va_up Q.2.2.1 Q.1 n B.1 = ((q_ap B (n, k, a, b, q_lv B k + 1, 0)).2 B.1).1 ∧ va_up Q.2.2.2.1 Q.1 (Q.2.2.2.1 k + 1) B.1 = ((q_ap B (n, k, a, b, q_lv B k + 1, 0)).2 B.1).2.2.2.2.1 ∧ (0 < B.1 → va_up Q.2.2.2.2.1 Q.1 k B.1 = ((q_ap B (n, k, a, b, q_lv B k + 1, 0)).2 B.1).2.1 ∧ va_up Q.2.2.2.2.2.1 Q.1 (a * 10 + b) B.1 = ((q_ap B (n, k, a, b, q_lv B k + 1, 0)).2 B.1).2.2.1 * 10 + ((q_ap B (n, k, a, b, q_lv B k + 1, 0)).2 B.1).2.2.2.1)
    rw [new, h1, va_up_self, va_up_self, va_up_self, va_up_self]
    exact ⟨rfl, by rw [(h3 k hk).2.1], fun _ => ⟨rfl, rfl⟩⟩
/-- the search has ended -/
def xSe (P : Nat → Bool) (Q : q_Q) (B : q_B) (r : Int32) : Prop := (∃ i, r = nI i ∧ B.1 = i + 1 ∧ i ≤ 2000 ∧ ePB Q B ∧ P (Q.2.2.1 i) = true ∧ ∀ j, j < i → P (Q.2.2.1 j) = false) ∨ (r = -3 ∧ 2001 ≤ Q.1 ∧ ∀ j, j < 2001 → P (Q.2.2.1 j) = false)
theorem xSe.pf {P : Nat → Bool} {Q Q' : q_Q} {B : q_B} {r : Int32} (h : xSe P Q B r) (k : q_pf Q Q') : xSe P Q' B r := by
  rcases h with ⟨i, h1, h2, h3, h4, h5, h6⟩ | ⟨h1, h2, h3⟩
  · have hl := h4.1
    exact Or.inl ⟨i, h1, h2, h3, h4.pf k, by rw [(k.2 i (by omega)).1]; exact h5, fun j hj => by rw [(k.2 j (by omega)).1]; exact h6 j hj⟩
  · exact Or.inr ⟨h1, Nat.le_trans h2 k.1.1, fun j hj => by rw [(k.2 j (by omega)).1]; exact h3 j hj⟩
/-- under way -/
def wSe (P : Nat → Bool) (k w : Nat) (Q : q_Q) (B : q_B) : Prop := eQB Q B ∧ B.1 ≤ 2000 ∧ (k < B.1 ∧ q_co B k = w) ∧ ∀ i, i < B.1 → P (Q.2.2.1 i) = false
theorem q_ev_qv {S : qS} {rf : Option qR} {go : Option (Nat × Nat)} {k w a b : Nat} {Q : q_Q} {B : q_B} (h : wSe (q_gl1 go) k w Q B) : (∃ B', q_ev S rf go k a b B = (B', none) ∧ wSe (q_gl1 go) k w (q_qv S rf k w a b Q) B') ∨ ∃ B' r, q_ev S rf go k a b B = (B', some r) ∧ xSe (q_gl1 go) (q_qv S rf k w a b Q) B' r := by
  obtain ⟨hE, hz, ⟨hk, hw⟩, hg⟩ := h
  have pf := (q_pf_qv S rf k w a b Q).1
  cases z1 : q_cs S rf w a b with
  | false =>
    rw [q_qv_no z1]
    exact Or.inl ⟨B, q_ev_no (by rw [hw]; exact z1), hE, hz, ⟨hk, hw⟩, hg⟩
  | true =>
    rw [q_qv_y z1]
    cases z2 : q_fi B (q_sw (s_n S 1) (q_co B k) a b) with
    | some t =>
      obtain ⟨t1, t2⟩ := q_fi_some z2
      rw [hw] at t2
      obtain ⟨wy, e⟩ := q_ad_old (Q := Q) (w := q_sw (s_n S 1) w a b) (f := k) (pr := a * 10 + b) (i := t) (by rw [hE.1]; exact t1) ((hE.2.2 t t1).1.trans t2)
      rw [e]
      exact Or.inl ⟨B, q_ev_old (by rw [z2]; rfl), hE, hz, ⟨hk, hw⟩, hg⟩
    | none =>
      have nf := q_fi_none.mp z2
      rw [hw] at nf
      have e := q_ad_new (Q := Q) (w := q_sw (s_n S 1) w a b) (f := k) (pr := a * 10 + b) (fun i hi => by rw [(hE.2.2 i (by rw [← hE.1]; exact hi)).1]; exact nf i (by rw [← hE.1]; exact hi)) (by rw [hE.1]; exact hz)
      have ap := ePB.ap hE (n := q_sw (s_n S 1) w a b) (a := a) (b := b) hk
      have sn : va_up Q.2.2.1 Q.1 (q_sw (s_n S 1) w a b) Q.1 = q_sw (s_n S 1) w a b := va_up_self _ _ _
      have so : ∀ j, j < B.1 → va_up Q.2.2.1 Q.1 (q_sw (s_n S 1) w a b) j = Q.2.2.1 j := fun j hj => va_up_ne _ _ (by rw [hE.1]; omega)
      rw [e]
      have z1' : q_cs S rf (q_co B k) a b = true := by rw [hw]; exact z1
      cases z3 : q_gl1 go (q_sw (s_n S 1) (q_co B k) a b) with
      | true =>
        refine Or.inr ⟨_, _, q_ev_goal z1' z2 z3, Or.inl ⟨B.1, rfl, rfl, hz, ?_, ?_, fun j hj => ?_⟩⟩
        · rw [hw]; exact ap.2
        · show q_gl1 go (va_up Q.2.2.1 Q.1 (q_sw (s_n S 1) w a b) B.1) = true
          rw [← hE.1, sn, ← hw]
          exact z3
        · show q_gl1 go (va_up Q.2.2.1 Q.1 (q_sw (s_n S 1) w a b) j) = false
          rw [so j hj]
          exact hg j hj
      | false =>
        rcases Nat.lt_or_ge B.1 2000 with z4 | z4
        · refine Or.inl ⟨_, q_ev_new z1' z2 z4 z3, by rw [hw]; exact ap, by show B.1 + 1 ≤ 2000; omega, ⟨by show k < B.1 + 1; omega, ?_⟩, fun i hi => ?_⟩
          · show ((q_ap B _).2 k).1 = w
            rw [q_ap_old hk]
            exact hw
          · have hi : i < B.1 + 1 := hi
            show q_gl1 go (va_up Q.2.2.1 Q.1 (q_sw (s_n S 1) w a b) i) = false
            rcases Nat.lt_or_ge i B.1 with y | y
            · rw [so i y]; exact hg i y
            · rw [show i = Q.1 by rw [hE.1]; omega, sn, ← hw]; exact z3
        · refine Or.inr ⟨_, _, q_ev_full z1' z2 z4 z3, Or.inr ⟨rfl, by show 2001 ≤ Q.1 + 1; rw [hE.1]; omega, fun j hj => ?_⟩⟩
          show q_gl1 go (va_up Q.2.2.1 Q.1 (q_sw (s_n S 1) w a b) j) = false
          rcases Nat.lt_or_ge j B.1 with y | y
          · rw [so j y]; exact hg j y
          · rw [show j = Q.1 by rw [hE.1]; omega, sn, ← hw]; exact z3
theorem q_lp_it {f : Nat → q_B → q_B × Option Int32} {F : Nat → q_Q → q_Q} {R : q_Q → q_B → Prop} {X : q_Q → q_B → Int32 → Prop} (hs : ∀ i Q B, R Q B → (∃ B', f i B = (B', none) ∧ R (F i Q) B') ∨ ∃ B' r, f i B = (B', some r) ∧ X (F i Q) B' r) (hx : ∀ i Q B r, X Q B r → X (F i Q) B r) : ∀ (m i : Nat) (Q : q_Q) (B : q_B), R Q B → (∃ B', q_lp f m i B = (B', none) ∧ R (q_itQ F m i Q) B') ∨ ∃ B' r, q_lp f m i B = (B', some r) ∧ X (q_itQ F m i Q) B' r
  | 0, i, Q, B, h => Or.inl ⟨B, rfl, h⟩
  | m + 1, i, Q, B, h => by
    rcases hs i Q B h with ⟨B', e, h'⟩ | ⟨B', r, e, h'⟩
    · rw [q_lp_n e]
      exact q_lp_it hs hx m (i + 1) (F i Q) B' h'
    · rw [q_lp_r e]
      refine Or.inr ⟨B', r, rfl, ?_⟩
      have go : ∀ (m i : Nat) (Q : q_Q), X Q B' r → X (q_itQ F m i Q) B' r := by
        intro m
        induction m with
        | zero => intro i Q h; exact h
        | succ m ih => intro i Q h; exact ih (i + 1) (F i Q) (hx i Q _ _ h)
      exact go m (i + 1) (F i Q) h'
theorem q_sa_qa {S : qS} {rf : Option qR} {go : Option (Nat × Nat)} {k w : Nat} {Q : q_Q} {B : q_B} (h : wSe (q_gl1 go) k w Q B) : (∃ B', q_sa S rf go k B = (B', none) ∧ wSe (q_gl1 go) k w (q_qa S rf k w Q) B') ∨ ∃ B' r, q_sa S rf go k B = (B', some r) ∧ xSe (q_gl1 go) (q_qa S rf k w Q) B' r :=
  q_lp_it (f := q_sb S rf go k) (F := q_qb S rf k w) (R := wSe (q_gl1 go) k w) (X := xSe (q_gl1 go)) (fun a Q B h => q_lp_it (f := q_ev S rf go k a) (F := q_qv S rf k w a) (R := wSe (q_gl1 go) k w) (X := xSe (q_gl1 go)) (fun b Q B h => q_ev_qv h) (fun b Q B r h => h.pf (q_pf_qv S rf k w a b Q).1) _ _ Q B h) (fun a Q B r h => h.pf (q_pf_it (fun _ _ => q_pf_qv S rf k w a _ _) _ _ _).1) _ _ Q B h
/-- between two situations -/
def uSe (P : Nat → Bool) (k : Nat) (Q : q_Q) (B : q_B) : Prop := eQB Q B ∧ B.1 ≤ 2000 ∧ Q.2.1 = k ∧ ∀ i, i < B.1 → P (Q.2.2.1 i) = false
theorem q_wk_grn {S : qS} {rf : Option qR} {go : Option (Nat × Nat)} : ∀ (m k : Nat) (Q : q_Q) (B : q_B), m + k = 2001 → uSe (q_gl1 go) k Q B → (∃ B' k', q_wk (q_sa S rf go) m k B = (B', none) ∧ uSe (q_gl1 go) k' (q_grn S rf m Q) B' ∧ q_gok (q_grn S rf m Q) = false) ∨ ∃ B' r, q_wk (q_sa S rf go) m k B = (B', some r) ∧ xSe (q_gl1 go) (q_grn S rf m Q) B' r
  | 0, k, Q, B, hm, h => by
    refine Or.inl ⟨B, k, rfl, h, ?_⟩
    show q_gok Q = false
    unfold q_gok
    have := h.1.1
    have := h.2.1
    rw [decide_eq_false (show ¬ Q.2.1 < Q.1 by rw [h.2.2.1]; omega)]
    rfl
  | m + 1, k, Q, B, hm, h => by
    obtain ⟨hE, hz, hg, hP⟩ := h
    by_cases hk : k < B.1
    · have ok : q_gok Q = true := q_gok_i (by rw [hg, hE.1]; exact hk) (by rw [hE.1]; exact hz)
      have e1 : q_grn S rf (m + 1) Q = q_grn S rf m (q_qg S rf Q) := by
        show q_grn S rf m (q_gro S rf Q) = _
        rw [q_gro_y ok]
      have eg : q_qg S rf Q = ((q_qa S rf k (Q.2.2.1 k) Q).1, k + 1, (q_qa S rf k (Q.2.2.1 k) Q).2.2) := by
        unfold q_qg
        rw [hg]
      rw [e1, eg]
      rcases q_sa_qa (S := S) (rf := rf) (go := go) (k := k) (w := Q.2.2.1 k) ⟨hE, hz, ⟨hk, (hE.2.2 k hk).1.symm⟩, hP⟩ with ⟨B', e, h'⟩ | ⟨B', r, e, h'⟩
      · rw [q_wk_n hk e]
        exact q_wk_grn m (k + 1) _ B' (by omega) ⟨h'.1, h'.2.1, rfl, h'.2.2.2⟩
      · rw [q_wk_r hk e]
        refine Or.inr ⟨B', r, rfl, xSe.pf (Q := ((q_qa S rf k (Q.2.2.1 k) Q).1, k + 1, (q_qa S rf k (Q.2.2.1 k) Q).2.2)) ?_ (q_pf_grn S rf m _)⟩
        exact h'
    · have no : q_gok Q = false := by
        unfold q_gok
        rw [decide_eq_false (show ¬ Q.2.1 < Q.1 by rw [hg, hE.1]; exact hk)]
        rfl
      rw [q_wk_e hk, q_grn_no no]
      exact Or.inl ⟨B, k, rfl, ⟨hE, hz, hg, hP⟩, no⟩
/-- both ends -/
theorem q_se_grn (S : qS) (rf : Option qR) (go : Option (Nat × Nat)) : ((q_se S rf go).2 = -2 ∧ eQB (q_grn S rf 2001 (q_Q0 (q_en (s_at S) (s_n S 1)))) (q_se S rf go).1 ∧ (q_se S rf go).1.1 ≤ 2000 ∧ (∀ i, i < (q_se S rf go).1.1 → q_gl1 go ((q_grn S rf 2001 (q_Q0 (q_en (s_at S) (s_n S 1)))).2.2.1 i) = false)) ∨ xSe (q_gl1 go) (q_grn S rf 2001 (q_Q0 (q_en (s_at S) (s_n S 1)))) (q_se S rf go).1 (q_se S rf go).2 := by
  obtain ⟨w, ew⟩ : ∃ w, w = q_en (s_at S) (s_n S 1) := ⟨_, rfl⟩
  have e0 : eQB (q_Q0 w) (q_B0 w) := by
    refine ⟨rfl, Nat.le_refl _, fun i hi => ?_⟩
    have hi : i < 1 := hi
    obtain rfl : i = 0 := by omega
    exact ⟨rfl, rfl, fun h => absurd h (by omega)⟩
  cases z : q_gl1 go w with
  | true =>
    rw [ew] at z
    rw [q_se_0 z]
    refine Or.inr (xSe.pf (Q := q_Q0 (q_en (s_at S) (s_n S 1))) (Or.inl ⟨0, rfl, rfl, by omega, ?_, z, fun j hj => absurd hj (by omega)⟩) (q_pf_grn S rf 2001 _))
    rw [← ew]
    exact e0.2
  | false =>
    have u : uSe (q_gl1 go) 0 (q_Q0 w) (q_B0 w) := ⟨e0, by show 1 ≤ 2000; omega, rfl, fun i _ => z⟩
    rw [ew] at z u
    rcases q_wk_grn (S := S) (rf := rf) 2001 0 _ _ (by omega) u with ⟨B', k', e, h', _⟩ | ⟨B', r, e, h'⟩
    · rw [q_se_n z e]
      exact Or.inl ⟨rfl, h'.1, h'.2.1, h'.2.2.2⟩
    · rw [q_se_r z e]
      exact Or.inr h'

