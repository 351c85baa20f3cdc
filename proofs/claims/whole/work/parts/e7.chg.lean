/-! THE CLASS: who would change with whom -/
theorem cI.gw {σ s : qx_S} {S : qS} {rf : Option qR} {e : Nat} {l : List (Nat × Option Nat)} (h : cI σ S rf e) (f : qg l σ s) (hl : k15 l = true) (hl2 : kLow l = true) (h3 : pL l 3 15 = false) (k : cK s e true (s_n S 1) (q_lk S rf)) (t : kTw s e (s_n S 1) (q_c2 S rf)) : cI s S rf e := by
  obtain ⟨a1, a2, a3, a4, a5, a6, a7, a8, a9⟩ := h
  have fr : ∀ a j, a = 14 ∨ a = 26 ∨ a = 29 → qx_mr s a j = qx_mr σ a j := fun a j ha => f.2.2.2.2.2.1 a j (by omega) (pL_ne (by simp; omega))
  refine ⟨a1, a2.gr a1.1.1 a1.b12 f hl, ?_, (f.r _ _ rfl).trans a4, a5.gr f hl2, ?_, k, t, f.le⟩
  · obtain ⟨b1, b2, b3, b4, b5, b6, b7, b8, b9⟩ := a3
    refine ⟨rfl, b2, b3, rfl, b5, rfl, rfl, fun i hi => ⟨(fr _ _ (by omega)).trans (b8 i hi).1, ?_⟩, fun i hi => ⟨(fr _ _ (by omega)).trans (b9 i hi).1, ?_⟩⟩
    · have w := (b8 i hi).2
      exact ⟨(f.sv (by omega)).trans w.1, (f.sv (by omega)).trans w.2.1, (f.sv (by omega)).trans w.2.2.1, (f.sv (by omega)).trans w.2.2.2.1, (f.sv (by omega)).trans w.2.2.2.2⟩
    · have w := (b9 i hi).2
      exact ⟨(f.sv (by omega)).trans w.1, (f.sv (by omega)).trans w.2⟩
  · rw [show qx_mr s 156 7 = qx_mr σ 156 7 from f.r _ _ rfl]
    rcases a6 with ⟨a, b⟩ | ⟨g, nr, x, c1, c2, c3, c4, c5, c6⟩
    · exact Or.inl ⟨a, (f.iv (by omega) (Or.inl (by omega)) (k15_ne hl (by omega) (by omega))).trans b⟩
    · exact Or.inr ⟨g, nr, x, c1, (f.iv (by omega) (Or.inl (by omega)) (k15_ne hl (by omega) (by omega))).trans c2, (f.iv (by omega) (Or.inl (by omega)) h3).trans c3, c4, c5, (fr _ _ (by omega)).trans c6⟩
theorem q_can_c2 (S : qS) (rf : Option qR) (a b : Nat) : q_can S rf a b = q_c2 S rf a b (s_at S a) (s_at S b) := by
  unfold q_can q_c2
  have e : q_lb S rf none (q_two a b) 2 = if 0 < q_bk S rf none a (s_at S a) (s_at S b) b 2 then q_bk S rf none a (s_at S a) (s_at S b) b 2 else if 0 < q_bk S rf none b (s_at S b) (s_at S a) a 2 then q_bk S rf none b (s_at S b) (s_at S a) a 2 else 0 := rfl
  rw [e]
  by_cases h1 : q_bk S rf none a (s_at S a) (s_at S b) b 2 = 0
  · rw [if_neg (by omega), decide_eq_true h1, Bool.true_and]
    by_cases h2 : q_bk S rf none b (s_at S b) (s_at S a) a 2 = 0
    · rw [if_neg (by omega), decide_eq_true h2]
      rfl
    · rw [if_pos (by omega)]
  · rw [if_pos (by omega), decide_eq_false h1, Bool.false_and]
theorem c_canI {G : qx_G} {σ : qx_S} {S : qS} {rf : Option qR} {e : Nat} (hI : cI σ S rf e) {i j : Nat} (hi : i < s_n S 1) (hj : j < s_n S 1) : qx_M G qc_T 4 YX2_canChange [.ref 156, .int (nI i), .int (nI j), .int (nI (s_at S i)), .int (nI (s_at S j))] σ (fun r s => r = some (.int (bI (q_can S rf i j))) ∧ qg kLw σ s ∧ cI s S rf e) := by
  rw [q_can_c2]
  exact qx_M_mono (c_canChange hI.W hI.K cH_rf hI.T cH2_rf hI.2.2.2.2.2.2.2.2 hi hj (hI.at8 hi) (hI.at8 hj)) (fun r s h => ⟨h.1, h.2.1, hI.gw h.2.1 rfl rfl rfl h.2.2.1 h.2.2.2⟩)
theorem l_chg2 {G : qx_G} {σ0 : qx_S} {S : qS} {rf : Option qR} {e : Nat} {k x v : Int32} (hx0 : nI 0 ≤ x) (hx2 : x ≤ nI 2) {i : Nat} (hi : i < s_n S 1) : ∀ (m j : Nat) (σ : qx_S) (n : Int32), m + j = s_n S 1 → cI σ S rf e → qg kLw σ0 σ → (∀ r n', q_cgi (q_can S rf) k x i m j n = (some r, n') → r = v) → (∀ σ' n', q_cgi (q_can S rf) k x i m j n = (none, n') → cI σ' S rf e → qg kLw σ0 σ' → qx_K G qc_T 5 RX11 YX11_changers 125 [.ref 3, .int k, .int x, .ref 22, .int n', .int (nI i), .retAddr 0] [] σ' (fun r s => r = some (.int v) ∧ qg kLw σ0 s ∧ cI s S rf e)) → qx_K G qc_T 5 RX11 YX11_changers 56 [.ref 3, .int k, .int x, .ref 22, .int n, .int (nI i), .int (nI j)] [] σ (fun r s => r = some (.int v) ∧ qg kLw σ0 s ∧ cI s S rf e) := by
  intro m
  induction m with
  | zero =>
    intro j σ n hj hI hf hr hc
    have hpe := hI.1.pe
    obtain rfl : j = s_n S 1 := by omega
    refine qy_wp_ok (c := CX11_changers) (cuts := [56, 125]) vX11_changers wX11_changers 2000 56 _ _ _ ?_
    refine And.intro rfl (Exists.intro 15 (And.intro rfl ?_))
    refine And.intro rfl (Exists.intro 16 (And.intro rfl ?_))
    refine And.intro rfl (Exists.intro 5 (Exists.intro (nI (s_n S 1)) (And.intro rfl (And.intro (hI.2.1.1.2.1.trans hI.1.1.2.1.2.1.1) ?_))))
    refine And.intro (fun h68 => ?_) (fun h68 => ?_)
    · skip
      have h68 := nI_leT (a := s_n S 1) (b := s_n S 1) (by omega) (by omega) h68
      refine qx_K_le (ls := [.ref 3, .int k, .int x, .ref 22, .int n, .int (nI i), .retAddr 0]) ⟨Or.inr rfl, Or.inr rfl, Or.inr rfl, Or.inr rfl, Or.inr rfl, Or.inr rfl, Or.inl rfl, trivial⟩ ?_
      exact hc _ _ rfl hI hf
    · skip
      have h68 := nI_leF (a := s_n S 1) (b := s_n S 1) (by omega) (by omega) h68
      exact absurd h68 (by omega)
  | succ m ih =>
    intro j σ n hj hI hf hr hc
    have hpe := hI.1.pe
    have hj1 : j < s_n S 1 := by omega
    have a1 := hI.at8 hi
    have a2 := hI.at8 hj1
    have x2 : ¬ x = nI 2 → x < nI 2 := fun h => Int32.lt_of_le_of_ne hx2 h
    have e1 : q_can S rf i j = false → q_cgi (q_can S rf) k x i (m + 1) j n = q_cgi (q_can S rf) k x i m (j + 1) n := fun h => by
      show (if _ then _ else _) = _
      rw [if_neg (by rw [h]; decide)]
    have e2 : q_can S rf i j = true → ¬ (x < nI 2 ∧ n = k) → q_cgi (q_can S rf) k x i (m + 1) j n = q_cgi (q_can S rf) k x i m (j + 1) (n + nI 1) := fun h h2 => by
      show (if _ then _ else _) = _
      rw [if_pos h, if_neg h2]
    have e3 : q_can S rf i j = true → ¬ x = nI 2 → n = k → q_cgi (q_can S rf) k x i (m + 1) j n = (some (if x = 0 then nI i else nI j), n) := fun h h2 h3 => by
      show (if _ then _ else _) = _
      rw [if_pos h, if_pos ⟨x2 h2, h3⟩]
    refine qy_wp_ok (c := CX11_changers) (cuts := [56, 125]) vX11_changers wX11_changers 2000 56 _ _ _ ?_
    refine And.intro rfl (Exists.intro 15 (And.intro rfl ?_))
    refine And.intro rfl (Exists.intro 16 (And.intro rfl ?_))
    refine And.intro rfl (Exists.intro 5 (Exists.intro (nI (s_n S 1)) (And.intro rfl (And.intro (hI.2.1.1.2.1.trans hI.1.1.2.1.2.1.1) ?_))))
    refine And.intro (fun h68 => ?_) (fun h68 => ?_)
    · skip
      have h68 := nI_leT (a := s_n S 1) (b := j) (by omega) (by omega) h68
      exact absurd h68 (by omega)
    · skip
      have h68 := nI_leF (a := s_n S 1) (b := j) (by omega) (by omega) h68
      refine And.intro rfl (Exists.intro 156 (And.intro rfl ?_))
      refine Exists.intro (i) (Exists.intro (nI (s_at S i)) (And.intro rfl (And.intro ⟨10, rfl, by omega, by decide⟩ (And.intro (hI.at hi) ?_))))
      refine Exists.intro (j) (Exists.intro (nI (s_at S j)) (And.intro rfl (And.intro ⟨10, rfl, by omega, by decide⟩ (And.intro (hI.at hj1) ?_))))
      refine And.intro rfl (Exists.intro _ (And.intro (by decide) (qx_M_mono (c_canI hI hi hj1) ?_)))
      rintro _ σ1 ⟨rfl, fσ1, iσ1⟩
      refine And.intro (fun h90 => ?_) (fun h90 => ?_)
      · skip
        have h90 := bI_f h90
        refine Exists.intro (nI (j + 1)) (And.intro (nI_add _ _) ?_)
        first
          | exact ih (j + 1) _ _ (by omega) iσ1 (hf.tr fσ1) (fun r n' z => hr r n' ((e1 h90).trans z)) (fun σ' n' z => hc σ' n' ((e1 h90).trans z))
          | exact ih (j + 1) _ _ (by omega) iσ1 (hf.tr fσ1) (fun r n' z => hr r n' ((e2 h90 (fun y => absurd (h95 ▸ y.1) (by decide))).trans z)) (fun σ' n' z => hc σ' n' ((e2 h90 (fun y => absurd (h95 ▸ y.1) (by decide))).trans z))
          | exact ih (j + 1) _ _ (by omega) iσ1 (hf.tr fσ1) (fun r n' z => hr r n' ((e2 h90 (fun y => h101 y.2)).trans z)) (fun σ' n' z => hc σ' n' ((e2 h90 (fun y => h101 y.2)).trans z))
      · skip
        have h90 := bI_t h90
        refine Exists.intro (nI 2) (And.intro rfl ?_)
        refine And.intro (fun h95 => ?_) (fun h95 => ?_)
        · skip
          refine Exists.intro (n + (nI 1)) (And.intro rfl ?_)
          refine Exists.intro (nI (j + 1)) (And.intro (nI_add _ _) ?_)
          first
            | exact ih (j + 1) _ _ (by omega) iσ1 (hf.tr fσ1) (fun r n' z => hr r n' ((e1 h90).trans z)) (fun σ' n' z => hc σ' n' ((e1 h90).trans z))
            | exact ih (j + 1) _ _ (by omega) iσ1 (hf.tr fσ1) (fun r n' z => hr r n' ((e2 h90 (fun y => absurd (h95 ▸ y.1) (by decide))).trans z)) (fun σ' n' z => hc σ' n' ((e2 h90 (fun y => absurd (h95 ▸ y.1) (by decide))).trans z))
            | exact ih (j + 1) _ _ (by omega) iσ1 (hf.tr fσ1) (fun r n' z => hr r n' ((e2 h90 (fun y => h101 y.2)).trans z)) (fun σ' n' z => hc σ' n' ((e2 h90 (fun y => h101 y.2)).trans z))
        · skip
          refine And.intro (fun h101 => ?_) (fun h101 => ?_)
          · skip
            refine Exists.intro (n + (nI 1)) (And.intro rfl ?_)
            refine Exists.intro (nI (j + 1)) (And.intro (nI_add _ _) ?_)
            first
              | exact ih (j + 1) _ _ (by omega) iσ1 (hf.tr fσ1) (fun r n' z => hr r n' ((e1 h90).trans z)) (fun σ' n' z => hc σ' n' ((e1 h90).trans z))
              | exact ih (j + 1) _ _ (by omega) iσ1 (hf.tr fσ1) (fun r n' z => hr r n' ((e2 h90 (fun y => absurd (h95 ▸ y.1) (by decide))).trans z)) (fun σ' n' z => hc σ' n' ((e2 h90 (fun y => absurd (h95 ▸ y.1) (by decide))).trans z))
              | exact ih (j + 1) _ _ (by omega) iσ1 (hf.tr fσ1) (fun r n' z => hr r n' ((e2 h90 (fun y => h101 y.2)).trans z)) (fun σ' n' z => hc σ' n' ((e2 h90 (fun y => h101 y.2)).trans z))
          · skip
            refine And.intro (fun h105 => ?_) (fun h105 => ?_)
            · skip
              refine ⟨congrArg (fun z => some (Value.int z)) ?_, hf.tr fσ1, iσ1⟩
              have z := hr _ _ (e3 h90 h95 h101)
              first | (rw [if_pos h105] at z; exact z) | (rw [if_neg h105] at z; exact z)
            · skip
              refine ⟨congrArg (fun z => some (Value.int z)) ?_, hf.tr fσ1, iσ1⟩
              have z := hr _ _ (e3 h90 h95 h101)
              first | (rw [if_pos h105] at z; exact z) | (rw [if_neg h105] at z; exact z)
theorem l_chg1 {G : qx_G} {σ0 : qx_S} {S : qS} {rf : Option qR} {e : Nat} {k x v : Int32} (hx0 : nI 0 ≤ x) (hx2 : x ≤ nI 2) : ∀ (m i : Nat) (σ : qx_S) (n : Int32), m + i = s_n S 1 → cI σ S rf e → qg kLw σ0 σ → (∀ r n', q_cgo (q_can S rf) k x (s_n S 1) m i n = (some r, n') → r = v) → (∀ n', q_cgo (q_can S rf) k x (s_n S 1) m i n = (none, n') → (if x = nI 2 then n' else -1) = v) → qx_K G qc_T 5 RX11 YX11_changers 35 [.ref 3, .int k, .int x, .ref 22, .int n, .int (nI i), .retAddr 0] [] σ (fun r s => r = some (.int v) ∧ qg kLw σ0 s ∧ cI s S rf e) := by
  intro m
  induction m with
  | zero =>
    intro i σ n hi hI hf hr hn
    have hpe := hI.1.pe
    obtain rfl : i = s_n S 1 := by omega
    have hn0 := hn n rfl
    refine qy_wp_ok (c := CX11_changers) (cuts := [35, 56, 125]) vX11_changers wX11_changers 2000 35 _ _ _ ?_
    refine And.intro rfl (Exists.intro 15 (And.intro rfl ?_))
    refine And.intro rfl (Exists.intro 16 (And.intro rfl ?_))
    refine And.intro rfl (Exists.intro 5 (Exists.intro (nI (s_n S 1)) (And.intro rfl (And.intro (hI.2.1.1.2.1.trans hI.1.1.2.1.2.1.1) ?_))))
    refine And.intro (fun h47 => ?_) (fun h47 => ?_)
    · skip
      have h47 := nI_leT (a := s_n S 1) (b := s_n S 1) (by omega) (by omega) h47
      refine Exists.intro (nI 2) (And.intro rfl ?_)
      refine And.intro (fun h133 => ?_) (fun h133 => ?_)
      · skip
        refine Exists.intro ((-1)) (And.intro (by decide) ?_)
        refine ⟨congrArg (fun z => some (Value.int z)) ?_, hf, hI⟩
        first | (rw [if_pos h133] at hn0; exact hn0) | (rw [if_neg h133] at hn0; exact hn0)
      · skip
        refine ⟨congrArg (fun z => some (Value.int z)) ?_, hf, hI⟩
        first | (rw [if_pos h133] at hn0; exact hn0) | (rw [if_neg h133] at hn0; exact hn0)
    · skip
      have h47 := nI_leF (a := s_n S 1) (b := s_n S 1) (by omega) (by omega) h47
      exact absurd h47 (by omega)
  | succ m ih =>
    intro i σ n hi hI hf hr hn
    have hpe := hI.1.pe
    have hi1 : i < s_n S 1 := by omega
    have s1 : ∀ r n', q_cgi (q_can S rf) k x i (s_n S 1 - (i + 1)) (i + 1) n = (some r, n') → q_cgo (q_can S rf) k x (s_n S 1) (m + 1) i n = (some r, n') := fun r n' h => by
      unfold q_cgo
      rw [h]
    have s2 : ∀ n', q_cgi (q_can S rf) k x i (s_n S 1 - (i + 1)) (i + 1) n = (none, n') → q_cgo (q_can S rf) k x (s_n S 1) (m + 1) i n = q_cgo (q_can S rf) k x (s_n S 1) m (i + 1) n' := fun n' h => by
      show (match q_cgi (q_can S rf) k x i (s_n S 1 - (i + 1)) (i + 1) n with
        | (some r, n') => (some r, n')
        | (none, n') => q_cgo (q_can S rf) k x (s_n S 1) m (i + 1) n') = _
      rw [h]
    have key : ∀ σ' n', q_cgi (q_can S rf) k x i (s_n S 1 - (i + 1)) (i + 1) n = (none, n') → cI σ' S rf e → qg kLw σ0 σ' → qx_K G qc_T 5 RX11 YX11_changers 125 [.ref 3, .int k, .int x, .ref 22, .int n', .int (nI i), .retAddr 0] [] σ' (fun r s => r = some (.int v) ∧ qg kLw σ0 s ∧ cI s S rf e) := by
      intro σ' n' hq hI' hf'
      refine qy_wp_ok (c := CX11_changers) (cuts := [35, 56]) vX11_changers wX11_changers 2000 125 _ _ _ ?_
      refine Exists.intro (nI (i + 1)) (And.intro (nI_add _ _) ?_)
      exact ih (i + 1) _ _ (by omega) hI' hf' (fun r n2 z => hr r n2 ((s2 _ hq).trans z)) (fun n2 z => hn n2 ((s2 _ hq).trans z))
    refine qy_wp_ok (c := CX11_changers) (cuts := [35, 56, 125]) vX11_changers wX11_changers 2000 35 _ _ _ ?_
    refine And.intro rfl (Exists.intro 15 (And.intro rfl ?_))
    refine And.intro rfl (Exists.intro 16 (And.intro rfl ?_))
    refine And.intro rfl (Exists.intro 5 (Exists.intro (nI (s_n S 1)) (And.intro rfl (And.intro (hI.2.1.1.2.1.trans hI.1.1.2.1.2.1.1) ?_))))
    refine And.intro (fun h47 => ?_) (fun h47 => ?_)
    · skip
      have h47 := nI_leT (a := s_n S 1) (b := i) (by omega) (by omega) h47
      exact absurd h47 (by omega)
    · skip
      have h47 := nI_leF (a := s_n S 1) (b := i) (by omega) (by omega) h47
      refine Exists.intro (nI 1) (And.intro rfl ?_)
      refine Exists.intro (nI (i + 1)) (And.intro (nI_add _ _) ?_)
      exact l_chg2 hx0 hx2 hi1 (s_n S 1 - (i + 1)) (i + 1) σ n (by omega) hI hf (fun r n' z => hr r n' (s1 r n' z)) key
theorem c_changers {G : qx_G} {σ : qx_S} {S : qS} {rf : Option qR} {e : Nat} (hI : cI σ S rf e) (k x : Int32) : qx_M G qc_T 5 YX11_changers [.ref 3, .int k, .int x] σ (fun r s => r = some (.int (if 0 < s_n S 0 ∧ nI 0 ≤ x ∧ x ≤ nI 2 then q_cg (q_can S rf) k x (s_n S 1) else -1)) ∧ qg kLw σ s ∧ cI s S rf e) := by
  have h9 := hI.2.2.2.2.2.2.2.2
  have n1 : decide (0 < s_n S 0) = false → ¬ (0 < s_n S 0 ∧ nI 0 ≤ x ∧ x ≤ nI 2) := fun h z => absurd z.1 (of_decide_eq_false h)
  have n2 : x < 0 → ¬ (0 < s_n S 0 ∧ nI 0 ≤ x ∧ x ≤ nI 2) := fun h z => absurd h (Int32.not_lt.mpr z.2.1)
  have n3 : ¬ x ≤ nI 2 → ¬ (0 < s_n S 0 ∧ nI 0 ≤ x ∧ x ≤ nI 2) := fun h z => h z.2.2
  refine qx_M_in rfl (Nat.le_of_ble_eq_true rfl) ?_
  refine qy_wp_ok (c := CX11_changers) (cuts := [35]) vX11_changers wX11_changers 2000 0 _ _ _ ?_
  refine And.intro rfl (Exists.intro _ (And.intro (by decide) (qx_M_mono (c_hasCountry hI.2.1.1 hI.1.1.2.1.1.1 hI.1.1.2.1.1.2) ?_)))
  rintro _ _ ⟨rfl, rfl⟩
  refine And.intro (fun h4 => ?_) (fun h4 => ?_)
  · skip
    have h4 := bI_f h4
    refine Exists.intro ((-1)) (And.intro (by decide) ?_)
    refine ⟨?_, qg.rf h9, hI⟩
    first | rw [if_neg (n1 h4)] | rw [if_neg (n2 h8)] | rw [if_neg (n3 h13)]
  · skip
    have h4 := bI_t h4
    refine And.intro (fun h8 => ?_) (fun h8 => ?_)
    · skip
      refine Exists.intro ((-1)) (And.intro (by decide) ?_)
      refine ⟨?_, qg.rf h9, hI⟩
      first | rw [if_neg (n1 h4)] | rw [if_neg (n2 h8)] | rw [if_neg (n3 h13)]
    · skip
      refine Exists.intro (nI 2) (And.intro rfl ?_)
      refine And.intro (fun h13 => ?_) (fun h13 => ?_)
      · skip
        refine And.intro rfl (Exists.intro 15 (And.intro rfl ?_))
        refine And.intro rfl (Exists.intro 21 (And.intro rfl ?_))
        refine And.intro rfl (Exists.intro 22 (And.intro rfl ?_))
        refine Exists.intro (nI 0) (And.intro rfl ?_)
        refine Exists.intro (nI 0) (And.intro rfl ?_)
        rw [if_pos ⟨of_decide_eq_true h4, Int32.not_lt.mp h8, h13⟩]
        refine l_chg1 (Int32.not_lt.mp h8) h13 (s_n S 1) 0 σ (nI 0) (by omega) hI (qg.rf h9) (fun r n' z => ?_) (fun n' z => ?_)
        · unfold q_cg
          rw [show q_cgo (q_can S rf) k x (s_n S 1) (s_n S 1) 0 0 = (some r, n') from z]
        · unfold q_cg
          rw [show q_cgo (q_can S rf) k x (s_n S 1) (s_n S 1) 0 0 = (none, n') from z]
      · skip
        refine Exists.intro ((-1)) (And.intro (by decide) ?_)
        refine ⟨?_, qg.rf h9, hI⟩
        first | rw [if_neg (n1 h4)] | rw [if_neg (n2 h8)] | rw [if_neg (n3 h13)]

