/-! THE CLASS: the book is judged -/
/-- a row of places, as a state tells them -/
def zA (σ : qx_S) (z pe : Nat) (S : qS) : Prop := ∀ p, p < pe → qx_mi σ z p = S (10 + 5 * p)
theorem zA.up {σ s : qx_S} {z pe r : Nat} {S : qS} {v : Int32} (h : zA σ z pe S) (e : s = qx_wi σ z r v) : zA s z pe (va_up S (10 + 5 * r) v) := by
  intro p hp
  by_cases w : p = r
  · rw [w, va_up_self]
    exact qn_eq e
  · rw [va_up_ne _ _ (by omega)]
    exact (qn_ne e (Or.inr w)).trans (h p hp)
theorem l_shift {G : qx_G} {σ0 : qx_S} {y z n pe : Nat} {rg : Nat → Nat} {first : Int32} (hpe : pe ≤ 10) (h0 : 0 < n) (hn : n ≤ 6) (hrg : ∀ k, k < n → rg k < pe) (hzy : z ≠ y ∧ z ≠ y + 1) (hz : qx_sh qc_T σ0 z = (0, 10)) (hR0 : rgC σ0 y rg n) : ∀ (m k : Nat) (σ : qx_S) (S : qS), m + k + 1 = n → ql [(z, none)] σ0 σ → zA σ z pe S → qx_K G qc_T 0 RX4 YX4_shift 11 [.ref y, .ref z, .int first, .int (nI k)] [] σ (fun r s => r = none ∧ ql [(z, none)] σ0 s ∧ zA s z pe (q_grc rg n first (m + 1) k S)) := by
  intro m
  induction m with
  | zero =>
    intro k σ S hk hf hA
    have hR := hR0.fr hf (pL_ne (by simp; omega)) (fun j => pL_ne (by simp; omega))
    have hk2 := hrg k (by omega)
    have e1 : q_grc rg n first (0 + 1) k S = va_up S (10 + 5 * rg k) first := by
      show va_up S (10 + 5 * rg k) (if k + 1 < n then _ else _) = _
      rw [if_neg (by omega)]
    rw [e1]
    refine qy_wp_ok (c := CX4_shift) (cuts := [11]) vX4_shift wX4_shift 2000 11 _ _ _ ?_
    refine Exists.intro (nI 1) (And.intro rfl ?_)
    refine Exists.intro (nI (k + 1)) (And.intro (nI_add _ _) ?_)
    refine And.intro (by rw [show qx_sh qc_T _ y = _ from hR.1.1]; rfl) (Exists.intro 1 (Exists.intro (nI n) (And.intro rfl (And.intro hR.2.1 ?_))))
    refine And.intro (fun h18 => ?_) (fun h18 => ?_)
    · skip
      have h18 := nI_leT (a := n) (b := k + 1) (by omega) (by omega) h18
      refine And.intro (by rw [show qx_sh qc_T _ y = _ from hR.1.1]; rfl) (Exists.intro 1 (Exists.intro (nI n) (And.intro rfl (And.intro hR.2.1 ?_))))
      refine And.intro (fun h49 => ?_) (fun h49 => ?_)
      · skip
        have h49 := nI_leT (a := n) (b := 0) (by omega) (by decide) h49
        exact absurd h49 (by omega)
      · skip
        have h49 := nI_leF (a := n) (b := 0) (by omega) (by decide) h49
        refine And.intro (by rw [show qx_sh qc_T _ y = _ from hR.1.1]; rfl) (Exists.intro (y + 1) (And.intro rfl ?_))
        refine And.intro (by rw [show qx_sh qc_T _ y = _ from hR.1.1]; rfl) (Exists.intro 1 (Exists.intro (nI n) (And.intro rfl (And.intro hR.2.1 ?_))))
        refine Exists.intro (nI 1) (And.intro rfl ?_)
        refine Exists.intro (nI k) (And.intro ((nI_sub (by omega)).trans (congrArg nI (by omega))) ?_)
        refine Exists.intro (k) (Exists.intro (nI (rg k)) (And.intro rfl (And.intro ⟨6, hR.1.2, by omega, by decide⟩ (And.intro (hR.2.2 k (by omega)) ?_))))
        obtain ⟨σ1, eσ1⟩ : ∃ zs, zs = (qx_wi σ z (rg k) first) := ⟨_, rfl⟩
        have fσ1 := qn_wi eσ1
        refine Exists.intro (rg k) (Exists.intro σ1 (And.intro rfl (And.intro ⟨10, ((hf.s _).trans hz), by omega, by decide⟩ (And.intro eσ1.symm ?_))))
        exact ⟨rfl, hf.tr fσ1, hA.up eσ1⟩
    · skip
      have h18 := nI_leF (a := n) (b := k + 1) (by omega) (by omega) h18
      exact absurd h18 (by omega)
  | succ m ih =>
    intro k σ S hk hf hA
    have hR := hR0.fr hf (pL_ne (by simp; omega)) (fun j => pL_ne (by simp; omega))
    have hk2 := hrg k (by omega)
    have hk3 := hrg (k + 1) (by omega)
    have e1 : q_grc rg n first (m + 1 + 1) k S = q_grc rg n first (m + 1) (k + 1) (va_up S (10 + 5 * rg k) (S (10 + 5 * rg (k + 1)))) := by
      show q_grc rg n first (m + 1) (k + 1) (va_up S (10 + 5 * rg k) (if k + 1 < n then _ else _)) = _
      rw [if_pos (by omega)]
    rw [e1]
    refine qy_wp_ok (c := CX4_shift) (cuts := [11]) vX4_shift wX4_shift 2000 11 _ _ _ ?_
    refine Exists.intro (nI 1) (And.intro rfl ?_)
    refine Exists.intro (nI (k + 1)) (And.intro (nI_add _ _) ?_)
    refine And.intro (by rw [show qx_sh qc_T _ y = _ from hR.1.1]; rfl) (Exists.intro 1 (Exists.intro (nI n) (And.intro rfl (And.intro hR.2.1 ?_))))
    refine And.intro (fun h18 => ?_) (fun h18 => ?_)
    · skip
      have h18 := nI_leT (a := n) (b := k + 1) (by omega) (by omega) h18
      exact absurd h18 (by omega)
    · skip
      have h18 := nI_leF (a := n) (b := k + 1) (by omega) (by omega) h18
      refine And.intro (by rw [show qx_sh qc_T _ y = _ from hR.1.1]; rfl) (Exists.intro (y + 1) (And.intro rfl ?_))
      refine Exists.intro (k) (Exists.intro (nI (rg k)) (And.intro rfl (And.intro ⟨6, hR.1.2, by omega, by decide⟩ (And.intro (hR.2.2 k (by omega)) ?_))))
      refine And.intro (by rw [show qx_sh qc_T _ y = _ from hR.1.1]; rfl) (Exists.intro (y + 1) (And.intro rfl ?_))
      refine Exists.intro (nI 1) (And.intro rfl ?_)
      refine Exists.intro (nI (k + 1)) (And.intro (nI_add _ _) ?_)
      refine Exists.intro (k + 1) (Exists.intro (nI (rg (k + 1))) (And.intro rfl (And.intro ⟨6, hR.1.2, by omega, by decide⟩ (And.intro (hR.2.2 (k + 1) (by omega)) ?_))))
      refine Exists.intro (rg (k + 1)) (Exists.intro (S (10 + 5 * rg (k + 1))) (And.intro rfl (And.intro ⟨10, ((hf.s _).trans hz), by omega, by decide⟩ (And.intro (hA _ hk3) ?_))))
      obtain ⟨σ1, eσ1⟩ : ∃ zs, zs = (qx_wi σ z (rg k) (S (10 + 5 * rg (k + 1)))) := ⟨_, rfl⟩
      have fσ1 := qn_wi eσ1
      refine Exists.intro (rg k) (Exists.intro σ1 (And.intro rfl (And.intro ⟨10, ((hf.s _).trans hz), by omega, by decide⟩ (And.intro eσ1.symm ?_))))
      refine Exists.intro (nI (k + 1)) (And.intro (nI_add _ _) ?_)
      exact ih (k + 1) _ _ (by omega) (hf.tr fσ1) (hA.up eσ1)
theorem c_shift {G : qx_G} {σ : qx_S} {y z n pe : Nat} {rg : Nat → Nat} {S : qS} (hpe : pe ≤ 10) (h0 : 0 < n) (hn : n ≤ 6) (hrg : ∀ k, k < n → rg k < pe) (hzy : z ≠ y ∧ z ≠ y + 1) (hz : qx_sh qc_T σ z = (0, 10)) (hR : rgC σ y rg n) (hA : zA σ z pe S) : qx_M G qc_T 0 YX4_shift [.ref y, .ref z] σ (fun r s => r = none ∧ ql [(z, none)] σ s ∧ zA s z pe (q_gr rg n S)) := by
  have hk0 := hrg 0 h0
  obtain ⟨m, em⟩ : ∃ m, n = m + 1 := ⟨n - 1, by omega⟩
  have key := l_shift (G := G) (first := S (10 + 5 * rg 0)) hpe h0 hn hrg hzy hz hR m 0 σ S (by omega) qf.rf hA
  rw [← em] at key
  refine qx_M_in rfl (Nat.le_of_ble_eq_true rfl) ?_
  refine qy_wp_ok (c := CX4_shift) (cuts := [11]) vX4_shift wX4_shift 2000 0 _ _ _ ?_
  refine And.intro (by rw [show qx_sh qc_T _ y = _ from hR.1.1]; rfl) (Exists.intro (y + 1) (And.intro rfl ?_))
  refine Exists.intro (nI 0) (And.intro rfl ?_)
  refine Exists.intro (0) (Exists.intro (nI (rg 0)) (And.intro rfl (And.intro ⟨6, hR.1.2, by decide, by decide⟩ (And.intro (hR.2.2 0 h0) ?_))))
  refine Exists.intro (rg 0) (Exists.intro (S (10 + 5 * rg 0)) (And.intro rfl (And.intro ⟨10, hz, by omega, by decide⟩ (And.intro (hA _ hk0) ?_))))
  refine Exists.intro (nI 0) (And.intro rfl ?_)
  exact key
/-- laws hang on where all are by at alone -/
theorem sA.lw {S S' : qS} (h : sA S S') : eLw S S' := fun i hi => h i (by omega)
theorem q_lbc_sA {S S' : qS} (h : sA S S') (rf : Option qR) {rg : Nat → Nat} {n : Nat} (h1 : s_n S 1 ≤ 10) (g' : gS S') (hrg : ∀ k, k < n → rg k < s_n S 1) : ∀ m k, m + k ≤ n → q_lbc S' rf none rg n m k = q_lbg S rf (s_at S') rg n m k
  | 0, _, _ => rfl
  | m + 1, k, hk => by
    have n1 := h.n (i := 1) (by omega)
    have g8 := g'.1.2
    have hm : (k + 1) % n < n := Nat.mod_lt _ (by omega)
    have hr1 := hrg k (by omega)
    have hr2 := hrg _ hm
    have a1 := (g'.2.2 (rg k) (by rw [n1]; exact hr1)).2
    have a2 := (g'.2.2 (rg ((k + 1) % n)) (by rw [n1]; exact hr2)).2
    unfold q_lbc q_lbg
    rw [q_lbc_sA h rf h1 g' hrg m (k + 1) (by omega), q_bk_cg h.lw rf (by omega) (Nat.lt_of_lt_of_le a1 g8) (Nat.lt_of_lt_of_le a2 g8) (by omega) h1]
/-- the verdict as one number -/
def q_jv (rf : Option qR) : Nat → Nat → qS → Int32
  | 0, _, _ => -1
  | m + 1, b, S => if 0 < q_lb S rf none (q_bm S b) (s_n S (254 + 7 * b)) then nI (b * 4 + q_lb S rf none (q_bm S b) (s_n S (254 + 7 * b))) else q_jv rf m (b + 1) (q_gr (q_bm S b) (s_n S (254 + 7 * b)) S)
theorem q_jv_jd (rf : Option qR) : ∀ (m b : Nat) (S : qS), b + m ≤ 12 → (q_jv rf m b S = -1 ∧ (q_jdc rf m b S).1 = -1 ∧ (q_jdc rf m b S).2.1 = 0) ∨ ∃ c l, c < 12 ∧ 0 < l ∧ l ≤ 3 ∧ q_jv rf m b S = nI (c * 4 + l) ∧ (q_jdc rf m b S).1 = nI c ∧ (q_jdc rf m b S).2.1 = l
  | 0, _, _, _ => Or.inl ⟨rfl, rfl, rfl⟩
  | m + 1, b, S, h => by
    unfold q_jv q_jdc
    split
    · next z => exact Or.inr ⟨b, _, by omega, z, q_lbc_le _ _ _ _ _ _ _, rfl, rfl, rfl⟩
    · exact q_jv_jd rf m (b + 1) _ (by omega)
abbrev kJ : List (Nat × Option Nat) := [(157, none), (158, none), (159, none), (188, none)]
theorem cI.told {σ : qx_S} {S : qS} {rf : Option qR} {e : Nat} (hI : cI σ S rf e) {b : Nat} (hb : b < s_n S 5) : qx_mr σ 29 b = some (131 + 2 * b) ∧ rgC σ (131 + 2 * b) (q_bm S b) (s_n S (254 + 7 * b)) := by
  have b12 := hI.1.b12
  have w := hI.2.2.1.2.2.2.2.2.2.2.2 b (by omega)
  have k := hI.2.1.2.2.2.2.1 b hb
  obtain ⟨y1, y2, y3, y4⟩ := hI.1.2.2.2.1.2.2 b hb
  exact ⟨w.1, w.2, k.1.trans y1, fun j hj => (k.2 j hj).trans (y4 j hj).1⟩
theorem cI.lwJ {s s2 : qx_S} {S : qS} {rf : Option qR} {e : Nat} (h : cI s S rf e) (f : ql [(188, none)] s s2) : cI s2 S rf e := h.fr f rfl rfl
theorem l_judge {G : qx_G} {σ0 : qx_S} {S : qS} {rf : Option qR} {e : Nat} : ∀ (m b : Nat) (σ : qx_S) (S1 : qS), m + b = s_n S 5 → cI σ S rf e → sA S S1 → gS S1 → ql kJ σ0 σ → zA σ 188 (s_n S 1) S1 → qx_K G qc_T 5 RX11 YX11_judgeBook 23 [.ref 3, .int (nI b), .retAddr 0] [] σ (fun r s => r = some (.int (q_jv rf m b S1)) ∧ ql kJ σ0 s ∧ cI s S rf e ∧ zA s 188 (s_n S 1) (q_jdc rf m b S1).2.2) := by
  intro m
  induction m with
  | zero =>
    intro b σ S1 hb hI hs g1 hf hA
    have b12 := hI.1.b12
    obtain rfl : b = s_n S 5 := by omega
    refine qy_wp_ok (c := CX11_judgeBook) (cuts := [23]) vX11_judgeBook wX11_judgeBook 2000 23 _ _ _ ?_
    refine And.intro rfl (Exists.intro 15 (And.intro rfl ?_))
    refine And.intro rfl (Exists.intro 8 (Exists.intro (nI (s_n S 5)) (And.intro rfl (And.intro (hI.2.1.2.2.2.2.2.2.2.1.trans hI.1.2.2.2.1.1) ?_))))
    refine And.intro (fun h31 => ?_) (fun h31 => ?_)
    · skip
      have h31 := nI_leT (a := s_n S 5) (b := s_n S 5) (by omega) (by omega) h31
      refine Exists.intro ((-1)) (And.intro (by decide) ?_)
      exact ⟨rfl, hf, hI, hA⟩
    · skip
      have h31 := nI_leF (a := s_n S 5) (b := s_n S 5) (by omega) (by omega) h31
      exact absurd h31 (by omega)
  | succ m ih =>
    intro b σ S1 hb hI hs g1 hf hA
    have b12 := hI.1.b12
    have hpe := hI.1.pe
    have hbl : b < s_n S 5 := by omega
    obtain ⟨t1, t2⟩ := hI.told hbl
    obtain ⟨y1, y2, y3, y4⟩ := hI.1.2.2.2.1.2.2 b hbl
    have n1 := hs.n (i := 1) (by omega)
    have nb := hs.n (i := 254 + 7 * b) (by omega)
    have eb : q_bm S1 b = q_bm S b := funext fun k => hs.n (i := 254 + 7 * b + 1 + k) (by omega)
    have hrg : ∀ k, k < s_n S (254 + 7 * b) → q_bm S b k < s_n S 1 := fun k hk => (y4 k hk).2
    have at1 : atC σ 188 (s_at S1) (s_n S 1) := ⟨rfl, fun p hp => ⟨(hA p hp).trans (g1.2.2 p (by rw [n1]; exact hp)).1, Nat.lt_of_lt_of_le (g1.2.2 p (by rw [n1]; exact hp)).2 g1.1.2⟩⟩
    have key := c_brokenByRing (G := G) hI.W hI.K cH_rf y3 hrg (y := 131 + 2 * b) (z := 188) (Or.inl (by omega)) (Or.inl (by omega)) (Or.inr (by decide)) t2 at1
    rw [← q_lbc_sA hs rf hpe g1 hrg (s_n S (254 + 7 * b)) 0 (by omega)] at key
    have key : qx_M G qc_T 4 YX2_brokenByRing [.ref 156, .ref (131 + 2 * b), .ref 188] σ (fun r s => r = some (.int (nI (q_lb S1 rf none (q_bm S1 b) (s_n S1 (254 + 7 * b))))) ∧ ql kLw σ s ∧ cK s e true (s_n S 1) (q_lk S rf)) := by
      rw [eb, nb]
      exact key
    have l3 : q_lb S1 rf none (q_bm S1 b) (s_n S1 (254 + 7 * b)) ≤ 3 := q_lbc_le _ _ _ _ _ _ _
    have nx : ∀ s s2, cI s S rf e → ql kJ σ0 s → ql [(188, none)] s s2 → ¬ 0 < q_lb S1 rf none (q_bm S1 b) (s_n S1 (254 + 7 * b)) → zA s2 188 (s_n S 1) (q_gr (q_bm S b) (s_n S (254 + 7 * b)) S1) → qx_K G qc_T 5 RX11 YX11_judgeBook 23 [.ref 3, .int (nI (b + 1)), .retAddr 0] [] s2 (fun r s => r = some (.int (q_jv rf (m + 1) b S1)) ∧ ql kJ σ0 s ∧ cI s S rf e ∧ zA s 188 (s_n S 1) (q_jdc rf (m + 1) b S1).2.2) := by
      intro s s2 i1 f1 f2 hl hA2
      have e1 : q_jv rf (m + 1) b S1 = q_jv rf m (b + 1) (q_gr (q_bm S b) (s_n S (254 + 7 * b)) S1) := by
        show (if _ then _ else _) = _
        rw [if_neg hl, eb, nb]
      have e2 : (q_jdc rf (m + 1) b S1) = q_jdc rf m (b + 1) (q_gr (q_bm S b) (s_n S (254 + 7 * b)) S1) := by
        show (if _ then _ else _) = _
        rw [if_neg hl, eb, nb]
      rw [e1, e2]
      refine ih (b + 1) s2 _ (by omega) (i1.lwJ f2) (hs.tr (q_gr_sA (fun k hk => Nat.lt_of_lt_of_le (hrg k hk) hpe))) (q_gr_g g1 y2 (fun k hk => by rw [n1]; exact hrg k hk)) (f1.tr (f2.mn (by decide))) hA2
    refine qy_wp_ok (c := CX11_judgeBook) (cuts := [23]) vX11_judgeBook wX11_judgeBook 2000 23 _ _ _ ?_
    refine And.intro rfl (Exists.intro 15 (And.intro rfl ?_))
    refine And.intro rfl (Exists.intro 8 (Exists.intro (nI (s_n S 5)) (And.intro rfl (And.intro (hI.2.1.2.2.2.2.2.2.2.1.trans hI.1.2.2.2.1.1) ?_))))
    refine And.intro (fun h31 => ?_) (fun h31 => ?_)
    · skip
      have h31 := nI_leT (a := s_n S 5) (b := b) (by omega) (by omega) h31
      exact absurd h31 (by omega)
    · skip
      have h31 := nI_leF (a := s_n S 5) (b := b) (by omega) (by omega) h31
      refine And.intro rfl (Exists.intro 156 (And.intro rfl ?_))
      refine And.intro rfl (Exists.intro 15 (And.intro rfl ?_))
      refine And.intro rfl (Exists.intro 29 (And.intro rfl ?_))
      refine Exists.intro (b) (Exists.intro (some (131 + 2 * b)) (Exists.intro 4 (And.intro rfl (And.intro ⟨⟨12, rfl, by omega, by decide⟩, by decide, by decide⟩ (And.intro t1 ?_)))))
      refine And.intro rfl (Exists.intro 188 (And.intro rfl ?_))
      refine And.intro rfl (Exists.intro _ (And.intro (by decide) (qx_M_mono (key) ?_)))
      rintro _ σ1 ⟨rfl, fσ1, kσ1⟩
      refine And.intro (fun h56 => ?_) (fun h56 => ?_)
      · skip
        have h56 := nI_eqT (a := q_lb S1 rf none (q_bm S1 b) (s_n S1 (254 + 7 * b))) (b := 0) (by omega) (by decide) h56
        refine And.intro rfl (Exists.intro 15 (And.intro rfl ?_))
        refine And.intro rfl (Exists.intro 29 (And.intro rfl ?_))
        refine Exists.intro (b) (Exists.intro (some (131 + 2 * b)) (Exists.intro 4 (And.intro rfl (And.intro ⟨⟨12, rfl, by omega, by decide⟩, by decide, by decide⟩ (And.intro ((fσ1.r _ _).trans (t1)) ?_)))))
        refine And.intro rfl (Exists.intro 188 (And.intro rfl ?_))
        refine And.intro ((congrArg Prod.fst ((fσ1.s _).trans (t2.1.1))).trans rfl) (Exists.intro _ (And.intro (by decide) (qx_M_mono (c_shift hpe y2 y3 hrg (by omega) rfl (t2.fr fσ1 (nLw.ne (Or.inl (by omega))) (fun j => nLw.ne (Or.inl (by omega)))) (fun p hp => (fσ1.i _ _ rfl).trans (hA p hp))) ?_)))
        rintro _ σ2 ⟨rfl, fσ2, aσ2⟩
        refine Exists.intro (nI (b + 1)) (And.intro (nI_add _ _) ?_)
        refine qx_K_le (ls := [.ref 3, .int (nI (b + 1)), .retAddr 0]) ⟨Or.inr rfl, Or.inr rfl, Or.inl rfl, trivial⟩ ?_
        exact nx _ _ (hI.lw fσ1 kσ1) (hf.tr (fσ1.mn (by decide))) fσ2 (by omega) aσ2
      · skip
        have h56 := nI_neT (a := q_lb S1 rf none (q_bm S1 b) (s_n S1 (254 + 7 * b))) (b := 0) (by omega) (by decide) h56
        refine Exists.intro (nI 4) (And.intro rfl ?_)
        refine Exists.intro (nI (b * 4)) (And.intro (pk_mul _ _) ?_)
        refine Exists.intro (nI (b * 4 + (q_lb S1 rf none (q_bm S1 b) (s_n S1 (254 + 7 * b))))) (And.intro (nI_add _ _) ?_)
        refine ⟨?_, hf.tr (fσ1.mn (by decide)), hI.lw fσ1 kσ1, ?_⟩
        · show _ = some (Value.int (if _ then _ else _))
          rw [if_pos (by omega)]
        · have e9 : (q_jdc rf (m + 1) b S1).2.2 = S1 := by unfold q_jdc; rw [if_pos (by omega)]
          rw [e9]
          exact fun p hp => (fσ1.i _ _ rfl).trans (hA p hp)
theorem c_judgeBook {G : qx_G} {σ : qx_S} {S : qS} {rf : Option qR} {e : Nat} (hI : cI σ S rf e) : qx_M G qc_T 5 YX11_judgeBook [.ref 3] σ (fun r s => r = some (.int (q_jv rf (s_n S 5) 0 S)) ∧ ql kJ σ s ∧ cI s S rf e ∧ zA s 188 (s_n S 1) (q_jd rf S).2.2) := by
  have hpe := hI.1.pe
  refine qx_M_in rfl (Nat.le_of_ble_eq_true rfl) ?_
  refine qy_wp_ok (c := CX11_judgeBook) (cuts := [23]) vX11_judgeBook wX11_judgeBook 2000 0 _ _ _ ?_
  refine And.intro rfl (Exists.intro 15 (And.intro rfl ?_))
  refine And.intro rfl (Exists.intro 21 (And.intro rfl ?_))
  refine And.intro rfl (Exists.intro 22 (And.intro rfl ?_))
  refine Exists.intro (nI 0) (And.intro rfl ?_)
  refine And.intro rfl (Exists.intro 188 (And.intro rfl ?_))
  refine Exists.intro (nI 0) (And.intro rfl ?_)
  refine Exists.intro (nI 10) (And.intro rfl ?_)
  obtain ⟨σ1, eσ1⟩ : ∃ zs, zs = (qy_cp σ 22 188 0 0 10) := ⟨_, rfl⟩
  have fσ1 := qn_cp eσ1
  refine Exists.intro 10 (Exists.intro 0 (Exists.intro 0 (Exists.intro σ1 (And.intro rfl (And.intro rfl (And.intro rfl (And.intro (by decide) (And.intro ⟨10, rfl, by decide, by decide⟩ (And.intro ⟨10, rfl, by decide, by decide⟩ (And.intro eσ1.symm ?_))))))))))
  refine Exists.intro (nI 0) (And.intro rfl ?_)
  exact qx_K_mono (l_judge (s_n S 5) 0 _ S (by omega) (hI.lwJ fσ1) sA.rf hI.1.1.2.1 (fσ1.mn (by decide)) (fun p hp => (qn_cpeq eσ1 (by omega)).trans ((hI.2.1.2.1.2.2.1 p hp).1.trans (q_nw_at S (by omega))))) (fun r s h => h)
theorem c_judged {G : qx_G} {σ : qx_S} {S : qS} {rf : Option qR} {e : Nat} (hI : cI σ S rf e) (x : Int32) : qx_M G qc_T 6 YX11_judged [.ref 3, .int x] σ (fun r s => r = some (.int (if nI 0 ≤ x ∧ x ≤ nI 1 then (if x = 0 then (q_jd rf S).1 else nI (q_jd rf S).2.1) else -2)) ∧ ql kJ σ s ∧ cI s S rf e) := by
  have b12 := hI.1.b12
  have mj := c_judgeBook (G := G) hI
  have u0 : x < 0 → ¬ (nI 0 ≤ x ∧ x ≤ nI 1) := fun h z => absurd h (Int32.not_lt.mpr z.1)
  rcases q_jv_jd rf (s_n S 5) 0 S (by omega) with ⟨j1, j2, j3⟩ | ⟨c, l, c12, l0, l3, j1, j2, j3⟩
  · rw [j1] at mj
    refine qx_M_in rfl (Nat.le_of_ble_eq_true rfl) ?_
    refine qy_wp_ok (c := CX11_judged) (cuts := []) vX11_judged wX11_judged 2000 0 _ _ _ ?_
    refine And.intro (fun h1 => ?_) (fun h1 => ?_)
    · skip
      refine Exists.intro ((-2)) (And.intro (by decide) ?_)
      refine ⟨?_, qf.rf, hI⟩
      first | rw [if_neg (u0 h1)] | rw [if_neg (fun z => h6 z.2)]
    · skip
      refine Exists.intro (nI 1) (And.intro rfl ?_)
      refine And.intro (fun h6 => ?_) (fun h6 => ?_)
      · skip
        refine And.intro rfl (Exists.intro _ (And.intro (by decide) (qx_M_mono (mj) ?_)))
        rintro _ σ1 ⟨rfl, fσ1, iσ1, zσ1⟩
        refine Exists.intro ((-1)) (And.intro (by decide) ?_)
        refine And.intro (fun h19 => ?_) (fun h19 => ?_)
        · skip
          exact absurd (by decide) h19
        · skip
          refine And.intro (fun h23 => ?_) (fun h23 => ?_)
          · skip
            refine Exists.intro (nI 0) (And.intro rfl ?_)
            refine ⟨?_, fσ1, iσ1⟩
            first
              | (rw [if_pos ⟨Int32.not_lt.mp h1, h6⟩, if_pos h23]; exact congrArg (fun z => some (Value.int z)) j2.symm)
              | (rw [if_pos ⟨Int32.not_lt.mp h1, h6⟩, if_neg h23]; exact congrArg (fun z => some (Value.int (nI z))) j3.symm)
          · skip
            refine Exists.intro ((-1)) (And.intro (by decide) ?_)
            refine ⟨?_, fσ1, iσ1⟩
            first
              | (rw [if_pos ⟨Int32.not_lt.mp h1, h6⟩, if_pos h23]; exact congrArg (fun z => some (Value.int z)) j2.symm)
              | (rw [if_pos ⟨Int32.not_lt.mp h1, h6⟩, if_neg h23]; exact congrArg (fun z => some (Value.int (nI z))) j3.symm)
      · skip
        refine Exists.intro ((-2)) (And.intro (by decide) ?_)
        refine ⟨?_, qf.rf, hI⟩
        first | rw [if_neg (u0 h1)] | rw [if_neg (fun z => h6 z.2)]
  · rw [j1] at mj
    have e1 : (c * 4 + l) / 4 = c := by omega
    have e2 : (c * 4 + l) &&& 3 = l := (Nat.and_two_pow_sub_one_eq_mod _ 2).trans (by show (c * 4 + l) % 4 = l; omega)
    refine qx_M_in rfl (Nat.le_of_ble_eq_true rfl) ?_
    refine qy_wp_ok (c := CX11_judged) (cuts := []) vX11_judged wX11_judged 2000 0 _ _ _ ?_
    refine And.intro (fun h1 => ?_) (fun h1 => ?_)
    · skip
      refine Exists.intro ((-2)) (And.intro (by decide) ?_)
      refine ⟨?_, qf.rf, hI⟩
      first | rw [if_neg (u0 h1)] | rw [if_neg (fun z => h6 z.2)]
    · skip
      refine Exists.intro (nI 1) (And.intro rfl ?_)
      refine And.intro (fun h6 => ?_) (fun h6 => ?_)
      · skip
        refine And.intro rfl (Exists.intro _ (And.intro (by decide) (qx_M_mono (mj) ?_)))
        rintro _ σ1 ⟨rfl, fσ1, iσ1, zσ1⟩
        refine Exists.intro ((-1)) (And.intro (by decide) ?_)
        refine And.intro (fun h19 => ?_) (fun h19 => ?_)
        · skip
          refine And.intro (fun h33 => ?_) (fun h33 => ?_)
          · skip
            refine Exists.intro (nI 3) (And.intro rfl ?_)
            refine Exists.intro (nI l) (And.intro ((nI_and _ _).trans (congrArg nI e2)) ?_)
            refine ⟨?_, fσ1, iσ1⟩
            first
              | (rw [if_pos ⟨Int32.not_lt.mp h1, h6⟩, if_pos h33]; exact congrArg (fun z => some (Value.int z)) j2.symm)
              | (rw [if_pos ⟨Int32.not_lt.mp h1, h6⟩, if_neg h33]; exact congrArg (fun z => some (Value.int (nI z))) j3.symm)
          · skip
            refine Exists.intro (nI 2) (And.intro rfl ?_)
            refine Exists.intro (nI c) (And.intro ((nI_shr (by omega) (by decide)).trans (congrArg nI e1)) ?_)
            refine ⟨?_, fσ1, iσ1⟩
            first
              | (rw [if_pos ⟨Int32.not_lt.mp h1, h6⟩, if_pos h33]; exact congrArg (fun z => some (Value.int z)) j2.symm)
              | (rw [if_pos ⟨Int32.not_lt.mp h1, h6⟩, if_neg h33]; exact congrArg (fun z => some (Value.int (nI z))) j3.symm)
        · skip
          exact absurd h19 (nI_nm1 (by omega))
      · skip
        refine Exists.intro ((-2)) (And.intro (by decide) ?_)
        refine ⟨?_, qf.rf, hI⟩
        first | rw [if_neg (u0 h1)] | rw [if_neg (fun z => h6 z.2)]
theorem c_then {G : qx_G} {σ : qx_S} {S : qS} {rf : Option qR} {e : Nat} (hI : cI σ S rf e) (x : Int32) : qx_M G qc_T 6 YX11_then [.ref 3, .int x] σ (fun r s => r = some (.int (if q_is x (s_n S 1) = true then (q_jd rf S).2.2 (10 + 5 * x.toNatClampNeg) else -1)) ∧ ql kJ σ s ∧ cI s S rf e) := by
  have hpe := hI.1.pe
  have mj := c_judgeBook (G := G) hI
  cases hb : q_is x (s_n S 1) with
  | false =>
    refine qx_M_in rfl (Nat.le_of_ble_eq_true rfl) ?_
    refine qy_wp_ok (c := CX11_then) (cuts := []) vX11_then wX11_then 2000 0 _ _ _ ?_
    refine And.intro rfl (Exists.intro _ (And.intro (by decide) (qx_M_mono (c_isPerson hI.2.1.1 hI.1.1.2.1.2.1.1 x) ?_)))
    rintro _ _ ⟨rfl, rfl⟩
    refine And.intro (fun h5 => ?_) (fun h5 => ?_)
    · skip
      have h5 := bI_t h5
      exact absurd (h5.symm.trans (hb)) (by decide)
    · skip
      have h5 := bI_f h5
      refine Exists.intro ((-1)) (And.intro (by decide) ?_)
      exact ⟨rfl, qf.rf, hI⟩
  | true =>
    obtain ⟨k, hk, rfl⟩ := q_is_t hb (by omega)
    rw [nI_clamp (by omega)]
    refine qx_M_in rfl (Nat.le_of_ble_eq_true rfl) ?_
    refine qy_wp_ok (c := CX11_then) (cuts := []) vX11_then wX11_then 2000 0 _ _ _ ?_
    refine And.intro rfl (Exists.intro _ (And.intro (by decide) (qx_M_mono (c_isPerson hI.2.1.1 hI.1.1.2.1.2.1.1 (nI k)) ?_)))
    rintro _ _ ⟨rfl, rfl⟩
    refine And.intro (fun h5 => ?_) (fun h5 => ?_)
    · skip
      have h5 := bI_t h5
      refine And.intro rfl (Exists.intro _ (And.intro (by decide) (qx_M_mono (mj) ?_)))
      rintro _ σ1 ⟨rfl, fσ1, iσ1, zσ1⟩
      refine And.intro rfl (Exists.intro 188 (And.intro rfl ?_))
      refine Exists.intro (k) (Exists.intro ((q_jd rf S).2.2 (10 + 5 * k)) (And.intro rfl (And.intro ⟨10, rfl, by omega, by decide⟩ (And.intro (zσ1 k hk) ?_))))
      exact ⟨rfl, fσ1, iσ1⟩
    · skip
      have h5 := bI_f h5
      exact absurd (h5.symm.trans (hb)) (by decide)

