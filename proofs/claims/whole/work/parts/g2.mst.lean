/-! THE CLASS: MOST, what may be taken -/
def gA (σ : qx_S) (S : qS) (rf : Option qR) (ly : Option (Nat × Nat)) : Prop := ∀ a b, a < s_n S 1 → b < s_n S 1 → qx_mi σ 168 (a * 10 + b) = q_gn S rf ly a b
def oA (σ : qx_S) (S : qS) (rf : Option qR) (ly : Option (Nat × Nat)) (n : Nat) : Prop := ∀ a, a < s_n S 1 → ∃ w, w < 1024 ∧ qx_mi σ 167 (n * 10 + a) = nI w ∧ ∀ b, b < s_n S 1 → w.testBit b = q_cn S rf ly n a b
theorem l_cg2 {G : qx_G} {σ0 : qx_S} {S : qS} {rf : Option qR} {ly : Option (Nat × Nat)} {e L a : Nat} (ha : a < s_n S 1) (hL : L ≠ 168) {Φ : qx_F} (key : ∀ s, cI s S rf e → qx_sh qc_T s L = (0, 80) → lkA s L S rf ly → ql [(168, none)] σ0 s → (∀ a' b, a' < a + 1 → b < s_n S 1 → qx_mi s 168 (a' * 10 + b) = q_gn S rf ly a' b) → qx_K G qc_T 0 RX3 YX3_countGains 92 [.ref 160, .ref L, .int (nI a), .retAddr 0, .retAddr 0, .retAddr 0] [] s Φ) : ∀ (m k : Nat) (σ : qx_S), m + k = s_n S 1 → cI σ S rf e → qx_sh qc_T σ L = (0, 80) → lkA σ L S rf ly → ql [(168, none)] σ0 σ → (∀ a' b, a' < a → b < s_n S 1 → qx_mi σ 168 (a' * 10 + b) = q_gn S rf ly a' b) → (∀ b, b < k → qx_mi σ 168 (a * 10 + b) = q_gn S rf ly a b) → qx_K G qc_T 0 RX3 YX3_countGains 36 [.ref 160, .ref L, .int (nI a), .int (q_ll S rf ly a (s_at S a) (s_at S a)), .int (nI k), .retAddr 0] [] σ Φ := by
  intro m
  induction m with
  | zero =>
    intro k σ hk hI hs hA hf h1 h2
    have hpe := hI.1.pe
    have e5 := hI.2.1.1.2.1.trans hI.1.1.2.1.2.1.1
    rw [show k = s_n S 1 by omega] at h2 ⊢
    refine qy_wp_ok (c := CX3_countGains) (cuts := [36, 92]) vX3_countGains wX3_countGains 2000 36 _ _ _ ?_
    refine And.intro rfl (Exists.intro 156 (And.intro rfl ?_))
    refine And.intro rfl (Exists.intro 16 (And.intro rfl ?_))
    refine And.intro rfl (Exists.intro 5 (Exists.intro (nI (s_n S 1)) (And.intro rfl (And.intro e5 ?_))))
    refine And.intro (fun h48 => ?_) (fun h48 => ?_)
    · skip
      have h48 := nI_leT (a := s_n S 1) (b := s_n S 1) (by omega) (by omega) h48
      refine qx_K_le (ls := [.ref 160, .ref L, .int (nI a), .retAddr 0, .retAddr 0, .retAddr 0]) ⟨Or.inr rfl, Or.inr rfl, Or.inr rfl, Or.inl rfl, Or.inl rfl, Or.inr rfl, trivial⟩ ?_
      refine key _ hI hs hA hf (fun a' b ha' hb => ?_)
      by_cases z : a' = a
      · rw [z]; exact h2 b hb
      · exact h1 a' b (by omega) hb
    · skip
      have h48 := nI_leF (a := s_n S 1) (b := s_n S 1) (by omega) (by omega) h48
      exact absurd h48 (by omega)
  | succ m ih =>
    intro k σ hk hI hs hA hf h1 h2
    have hpe := hI.1.pe
    have hpl := hI.1.pl
    have e5 := hI.2.1.1.2.1.trans hI.1.1.2.1.2.1.1
    have hk1 : k < s_n S 1 := by omega
    have aK := (hI.1.1.2.1.2.2 k hk1).2
    have aK8 := hI.at8 hk1
    obtain ⟨x, ex⟩ : ∃ x, x = q_ll S rf ly a (s_at S a) (s_at S k) := ⟨_, rfl⟩
    obtain ⟨y, ey⟩ : ∃ y, y = q_ll S rf ly a (s_at S a) (s_at S a) := ⟨_, rfl⟩
    have dx := hA a (s_at S k) ha aK
    rw [← ex] at dx
    have eg : x - y = q_gn S rf ly a k := by rw [ex, ey]; rfl
    rw [← ey] at ih ⊢
    refine qy_wp_ok (c := CX3_countGains) (cuts := [36, 92]) vX3_countGains wX3_countGains 2000 36 _ _ _ ?_
    refine And.intro rfl (Exists.intro 156 (And.intro rfl ?_))
    refine And.intro rfl (Exists.intro 16 (And.intro rfl ?_))
    refine And.intro rfl (Exists.intro 5 (Exists.intro (nI (s_n S 1)) (And.intro rfl (And.intro e5 ?_))))
    refine And.intro (fun h48 => ?_) (fun h48 => ?_)
    · skip
      have h48 := nI_leT (a := s_n S 1) (b := k) (by omega) (by omega) h48
      exact absurd h48 (by omega)
    · skip
      have h48 := nI_leF (a := s_n S 1) (b := k) (by omega) (by omega) h48
      refine Exists.intro (nI 8) (And.intro rfl ?_)
      refine Exists.intro (nI (a * 8)) (And.intro (pk_mul _ _) ?_)
      refine And.intro rfl (Exists.intro 21 (And.intro rfl ?_))
      refine And.intro rfl (Exists.intro 22 (And.intro rfl ?_))
      refine Exists.intro (k) (Exists.intro (nI (s_at S k)) (And.intro rfl (And.intro ⟨10, rfl, by omega, by decide⟩ (And.intro (hI.at hk1) ?_))))
      refine Exists.intro (nI (a * 8 + (s_at S k))) (And.intro (nI_add _ _) ?_)
      refine Exists.intro (a * 8 + (s_at S k)) (Exists.intro x (And.intro rfl (And.intro ⟨80, hs, by omega, by decide⟩ (And.intro dx ?_))))
      refine And.intro rfl (Exists.intro 168 (And.intro rfl ?_))
      refine Exists.intro (nI 10) (And.intro rfl ?_)
      refine Exists.intro (nI (a * 10)) (And.intro (pk_mul _ _) ?_)
      refine Exists.intro (nI (a * 10 + k)) (And.intro (nI_add _ _) ?_)
      refine Exists.intro (q_gn S rf ly a k) (And.intro eg ?_)
      obtain ⟨σ1, eσ1⟩ : ∃ zs, zs = (qx_wi σ 168 (a * 10 + k) (q_gn S rf ly a k)) := ⟨_, rfl⟩
      have fσ1 := qn_wi eσ1
      refine Exists.intro (a * 10 + k) (Exists.intro σ1 (And.intro rfl (And.intro ⟨100, rfl, by omega, by decide⟩ (And.intro eσ1.symm ?_))))
      refine Exists.intro (nI (k + 1)) (And.intro (nI_add _ _) ?_)
      refine qx_K_le (ls := [.ref 160, .ref L, .int (nI a), .int y, .int (nI (k + 1)), .retAddr 0]) ⟨Or.inr rfl, Or.inr rfl, Or.inr rfl, Or.inr rfl, Or.inr rfl, Or.inl rfl, trivial⟩ ?_
      refine ih (k + 1) _ (by omega) (hI.fr fσ1 rfl rfl) ((fσ1.s _).trans hs) (hA.fr fσ1 (fun j => pL_ne (by simp; omega))) (hf.tr fσ1) (fun a' b ha' hb => ?_) (fun b hb => ?_)
      · exact (qn_ne eσ1 (Or.inr (by omega))).trans (h1 a' b ha' hb)
      · by_cases z : b = k
        · rw [z]; exact qn_eq eσ1
        · exact (qn_ne eσ1 (Or.inr (by omega))).trans (h2 b (by omega))
theorem l_cg1 {G : qx_G} {σ0 : qx_S} {S : qS} {rf : Option qR} {ly : Option (Nat × Nat)} {e L : Nat} (hL : L ≠ 168) : ∀ (m a : Nat) (σ : qx_S), m + a = s_n S 1 → cI σ S rf e → qx_sh qc_T σ L = (0, 80) → lkA σ L S rf ly → ql [(168, none)] σ0 σ → (∀ a' b, a' < a → b < s_n S 1 → qx_mi σ 168 (a' * 10 + b) = q_gn S rf ly a' b) → qx_K G qc_T 0 RX3 YX3_countGains 2 [.ref 160, .ref L, .int (nI a), .retAddr 0, .retAddr 0, .retAddr 0] [] σ (fun r s => r = none ∧ ql [(168, none)] σ0 s ∧ gA s S rf ly) := by
  intro m
  induction m with
  | zero =>
    intro a σ hk hI hs hA hf h1
    have hpe := hI.1.pe
    have e5 := hI.2.1.1.2.1.trans hI.1.1.2.1.2.1.1
    rw [show a = s_n S 1 by omega] at h1 ⊢
    refine qy_wp_ok (c := CX3_countGains) (cuts := [2, 36]) vX3_countGains wX3_countGains 2000 2 _ _ _ ?_
    refine And.intro rfl (Exists.intro 156 (And.intro rfl ?_))
    refine And.intro rfl (Exists.intro 16 (And.intro rfl ?_))
    refine And.intro rfl (Exists.intro 5 (Exists.intro (nI (s_n S 1)) (And.intro rfl (And.intro e5 ?_))))
    refine And.intro (fun h13 => ?_) (fun h13 => ?_)
    · skip
      have h13 := nI_leT (a := s_n S 1) (b := s_n S 1) (by omega) (by omega) h13
      exact ⟨rfl, hf, h1⟩
    · skip
      have h13 := nI_leF (a := s_n S 1) (b := s_n S 1) (by omega) (by omega) h13
      exact absurd h13 (by omega)
  | succ m ih =>
    intro a σ hk hI hs hA hf h1
    have hpe := hI.1.pe
    have hpl := hI.1.pl
    have e5 := hI.2.1.1.2.1.trans hI.1.1.2.1.2.1.1
    have ha : a < s_n S 1 := by omega
    have aA := (hI.1.1.2.1.2.2 a ha).2
    have aA8 := hI.at8 ha
    have k92 : ∀ s, cI s S rf e → qx_sh qc_T s L = (0, 80) → lkA s L S rf ly → ql [(168, none)] σ0 s → (∀ a' b, a' < a + 1 → b < s_n S 1 → qx_mi s 168 (a' * 10 + b) = q_gn S rf ly a' b) → qx_K G qc_T 0 RX3 YX3_countGains 92 [.ref 160, .ref L, .int (nI a), .retAddr 0, .retAddr 0, .retAddr 0] [] s (fun r s => r = none ∧ ql [(168, none)] σ0 s ∧ gA s S rf ly) := by
      intro s i1 s1 a1 f1 c1
      refine qy_wp_ok (c := CX3_countGains) (cuts := [2]) vX3_countGains wX3_countGains 2000 92 _ _ _ ?_
      refine Exists.intro (nI (a + 1)) (And.intro (nI_add _ _) ?_)
      exact ih (a + 1) _ (by omega) i1 s1 a1 f1 c1
    refine qy_wp_ok (c := CX3_countGains) (cuts := [2, 36]) vX3_countGains wX3_countGains 2000 2 _ _ _ ?_
    refine And.intro rfl (Exists.intro 156 (And.intro rfl ?_))
    refine And.intro rfl (Exists.intro 16 (And.intro rfl ?_))
    refine And.intro rfl (Exists.intro 5 (Exists.intro (nI (s_n S 1)) (And.intro rfl (And.intro e5 ?_))))
    refine And.intro (fun h13 => ?_) (fun h13 => ?_)
    · skip
      have h13 := nI_leT (a := s_n S 1) (b := a) (by omega) (by omega) h13
      exact absurd h13 (by omega)
    · skip
      have h13 := nI_leF (a := s_n S 1) (b := a) (by omega) (by omega) h13
      refine Exists.intro (nI 8) (And.intro rfl ?_)
      refine Exists.intro (nI (a * 8)) (And.intro (pk_mul _ _) ?_)
      refine And.intro rfl (Exists.intro 21 (And.intro rfl ?_))
      refine And.intro rfl (Exists.intro 22 (And.intro rfl ?_))
      refine Exists.intro (a) (Exists.intro (nI (s_at S a)) (And.intro rfl (And.intro ⟨10, rfl, by omega, by decide⟩ (And.intro (hI.at ha) ?_))))
      refine Exists.intro (nI (a * 8 + (s_at S a))) (And.intro (nI_add _ _) ?_)
      refine Exists.intro (a * 8 + (s_at S a)) (Exists.intro (q_ll S rf ly a (s_at S a) (s_at S a)) (And.intro rfl (And.intro ⟨80, hs, by omega, by decide⟩ (And.intro (hA a (s_at S a) ha aA) ?_))))
      refine Exists.intro (nI 0) (And.intro rfl ?_)
      exact l_cg2 ha hL k92 (s_n S 1) 0 _ (by omega) hI hs hA hf h1 (fun b hb => absurd hb (Nat.not_lt_zero b))
theorem c_countGains {G : qx_G} {σ : qx_S} {S : qS} {rf : Option qR} {ly : Option (Nat × Nat)} {e L : Nat} (hI : cI σ S rf e) (hL : L ≠ 168) (hs : qx_sh qc_T σ L = (0, 80)) (hA : lkA σ L S rf ly) : qx_M G qc_T 0 YX3_countGains [.ref 160, .ref L] σ (fun r s => r = none ∧ ql [(168, none)] σ s ∧ gA s S rf ly) := by
  refine qx_M_in rfl (Nat.le_of_ble_eq_true rfl) ?_
  refine qy_wp_ok (c := CX3_countGains) (cuts := [2]) vX3_countGains wX3_countGains 2000 0 _ _ _ ?_
  refine Exists.intro (nI 0) (And.intro rfl ?_)
  exact l_cg1 hL (s_n S 1) 0 _ (by omega) hI hs hA qf.rf (fun a b ha => absurd ha (Nat.not_lt_zero a))
/-- by the bars alone -/
def q_ub (S : qS) (rf : Option qR) (n a b : Nat) : Bool := !decide (s_at S a = s_at S b) && !q_br S rf a (s_at S a) (s_at S b) b n
def uA (σ : qx_S) (S : qS) (rf : Option qR) (n : Nat) : Prop := ∀ a, a < s_n S 1 → qx_mi σ 165 (n * 10 + a) = nI (q_set (q_ub S rf n a) (s_n S 1))
def cUb (σ : qx_S) (S : qS) (rf : Option qR) (e : Nat) : Prop := ∀ n, 2 ≤ n → n ≤ 4 → ∃ eu, qx_mi σ 166 n = nI eu ∧ eu ≤ e ∧ (eu = e → uA σ S rf n)
abbrev kUb : List (Nat × Option Nat) := [(165, none), (166, none), (158, none), (159, none)]
theorem cI.l2 {σ s : qx_S} {S : qS} {rf : Option qR} {e : Nat} (h : cI σ S rf e) (f : ql kL2 σ s) : cI s S rf e := h.fr f rfl rfl
theorem l_ub2 {G : qx_G} {σ0 : qx_S} {S : qS} {rf : Option qR} {e n a : Nat} (hn : n ≤ 4) (ha : a < s_n S 1) {Φ : qx_F} (key : ∀ s, cI s S rf e → ql kL2 σ0 s → qx_K G qc_T 3 RX3 YX3_findUnbarred 123 [.ref 160, .int (nI n), .int (nI (s_n S 1)), .int (nI a), .int (nI (q_set (q_ub S rf n a) (s_n S 1))), .retAddr 0, .retAddr 0, .retAddr 0] [] s Φ) : ∀ (m k : Nat) (σ : qx_S), m + k = s_n S 1 → cI σ S rf e → ql kL2 σ0 σ → qx_K G qc_T 3 RX3 YX3_findUnbarred 54 [.ref 160, .int (nI n), .int (nI (s_n S 1)), .int (nI a), .int (nI (q_set (q_ub S rf n a) k)), .int (nI k), .retAddr 0, .retAddr 0] [] σ Φ := by
  intro m
  induction m with
  | zero =>
    intro k σ hk hI hf
    have hpe := hI.1.pe
    rw [show k = s_n S 1 by omega]
    refine qy_wp_ok (c := CX3_findUnbarred) (cuts := [54, 123]) vX3_findUnbarred wX3_findUnbarred 2000 54 _ _ _ ?_
    refine And.intro (fun h57 => ?_) (fun h57 => ?_)
    · skip
      have h57 := nI_leT (a := s_n S 1) (b := s_n S 1) (by omega) (by omega) h57
      refine qx_K_le (ls := [.ref 160, .int (nI n), .int (nI (s_n S 1)), .int (nI a), .int (nI (q_set (q_ub S rf n a) (s_n S 1))), .retAddr 0, .retAddr 0, .retAddr 0]) ⟨Or.inr rfl, Or.inr rfl, Or.inr rfl, Or.inr rfl, Or.inr rfl, Or.inl rfl, Or.inr rfl, Or.inr rfl, trivial⟩ ?_
      exact key _ hI hf
    · skip
      have h57 := nI_leF (a := s_n S 1) (b := s_n S 1) (by omega) (by omega) h57
      exact absurd h57 (by omega)
  | succ m ih =>
    intro k σ hk hI hf
    have hpe := hI.1.pe
    have hk1 : k < s_n S 1 := by omega
    have a8 := hI.at8 ha
    have k8 := hI.at8 hk1
    have n1 : s_at S a = s_at S k → q_ub S rf n a k = false := fun h => by
      unfold q_ub
      rw [decide_eq_true h]
      rfl
    have n2 : q_br S rf a (s_at S a) (s_at S k) k n = true → q_ub S rf n a k = false := fun h => by
      unfold q_ub
      rw [h]
      exact Bool.and_false _
    have n3 : ¬ s_at S a = s_at S k → q_br S rf a (s_at S a) (s_at S k) k n = false → q_ub S rf n a k = true := fun h1 h => by
      unfold q_ub
      rw [h, decide_eq_false h1]
      rfl
    refine qy_wp_ok (c := CX3_findUnbarred) (cuts := [54, 123]) vX3_findUnbarred wX3_findUnbarred 2000 54 _ _ _ ?_
    refine And.intro (fun h57 => ?_) (fun h57 => ?_)
    · skip
      have h57 := nI_leT (a := s_n S 1) (b := k) (by omega) (by omega) h57
      exact absurd h57 (by omega)
    · skip
      have h57 := nI_leF (a := s_n S 1) (b := k) (by omega) (by omega) h57
      refine And.intro rfl (Exists.intro 21 (And.intro rfl ?_))
      refine And.intro rfl (Exists.intro 22 (And.intro rfl ?_))
      refine Exists.intro (a) (Exists.intro (nI (s_at S a)) (And.intro rfl (And.intro ⟨10, rfl, by omega, by decide⟩ (And.intro (hI.at ha) ?_))))
      refine And.intro rfl (Exists.intro 21 (And.intro rfl ?_))
      refine And.intro rfl (Exists.intro 22 (And.intro rfl ?_))
      refine Exists.intro (k) (Exists.intro (nI (s_at S k)) (And.intro rfl (And.intro ⟨10, rfl, by omega, by decide⟩ (And.intro (hI.at hk1) ?_))))
      refine And.intro (fun h87 => ?_) (fun h87 => ?_)
      · skip
        have h87 := nI_eqT (a := s_at S a) (b := s_at S k) (by omega) (by omega) h87
        refine Exists.intro (nI (k + 1)) (And.intro (nI_add _ _) ?_)
        refine qx_K_le (ls := [.ref 160, .int (nI n), .int (nI (s_n S 1)), .int (nI a), .int (nI (q_set (q_ub S rf n a) k)), .int (nI (k + 1)), .retAddr 0, .retAddr 0]) ⟨Or.inr rfl, Or.inr rfl, Or.inr rfl, Or.inr rfl, Or.inr rfl, Or.inr rfl, Or.inl rfl, Or.inl rfl, trivial⟩ ?_
        rw [← q_set_f (n1 h87)]; exact ih (k + 1) _ (by omega) hI hf
      · skip
        have h87 := nI_neT (a := s_at S a) (b := s_at S k) (by omega) (by omega) h87
        refine And.intro rfl (Exists.intro 156 (And.intro rfl ?_))
        refine And.intro rfl (Exists.intro _ (And.intro (by decide) (qx_M_mono (c_isBarred hI.W ha k8 hk1) ?_)))
        rintro _ σ1 ⟨rfl, fσ1⟩
        refine And.intro (fun h105 => ?_) (fun h105 => ?_)
        · skip
          have h105 := bI_t h105
          refine Exists.intro (nI (k + 1)) (And.intro (nI_add _ _) ?_)
          refine qx_K_le (ls := [.ref 160, .int (nI n), .int (nI (s_n S 1)), .int (nI a), .int (nI (q_set (q_ub S rf n a) k)), .int (nI (k + 1)), .retAddr 0, .retAddr 0]) ⟨Or.inr rfl, Or.inr rfl, Or.inr rfl, Or.inr rfl, Or.inr rfl, Or.inr rfl, Or.inl rfl, Or.inl rfl, trivial⟩ ?_
          rw [← q_set_f (n2 h105)]; exact ih (k + 1) _ (by omega) (hI.l2 fσ1) (hf.tr fσ1)
        · skip
          have h105 := bI_f h105
          refine Exists.intro (nI 1) (And.intro rfl ?_)
          refine Exists.intro (nI (2 ^ k)) (And.intro (nI_sh1 (by omega)) ?_)
          refine Exists.intro (nI ((q_set (q_ub S rf n a) k) ||| (2 ^ k))) (And.intro (nI_or _ _) ?_)
          refine Exists.intro (nI (k + 1)) (And.intro (nI_add _ _) ?_)
          refine qx_K_le (ls := [.ref 160, .int (nI n), .int (nI (s_n S 1)), .int (nI a), .int (nI ((q_set (q_ub S rf n a) k) ||| (2 ^ k))), .int (nI (k + 1)), .retAddr 0, .retAddr 0]) ⟨Or.inr rfl, Or.inr rfl, Or.inr rfl, Or.inr rfl, Or.inr rfl, Or.inr rfl, Or.inl rfl, Or.inl rfl, trivial⟩ ?_
          rw [← q_set_t (n3 h87 h105)]; exact ih (k + 1) _ (by omega) (hI.l2 fσ1) (hf.tr fσ1)
theorem l_ub1 {G : qx_G} {σ0 : qx_S} {S : qS} {rf : Option qR} {e n : Nat} (hn : n ≤ 4) : ∀ (m a : Nat) (σ : qx_S), m + a = s_n S 1 → cI σ S rf e → ql ((165, none) :: kL2) σ0 σ → (∀ j, j / 10 ≠ n → qx_mi σ 165 j = qx_mi σ0 165 j) → (∀ a', a' < a → qx_mi σ 165 (n * 10 + a') = nI (q_set (q_ub S rf n a') (s_n S 1))) → qx_K G qc_T 3 RX3 YX3_findUnbarred 43 [.ref 160, .int (nI n), .int (nI (s_n S 1)), .int (nI a), .retAddr 0, .retAddr 0, .retAddr 0, .retAddr 0] [] σ (fun r s => r = none ∧ ql ((165, none) :: kL2) σ0 s ∧ cI s S rf e ∧ (∀ j, j / 10 ≠ n → qx_mi s 165 j = qx_mi σ0 165 j) ∧ uA s S rf n) := by
  intro m
  induction m with
  | zero =>
    intro a σ hk hI hf ho h1
    have hpe := hI.1.pe
    rw [show a = s_n S 1 by omega] at h1 ⊢
    refine qy_wp_ok (c := CX3_findUnbarred) (cuts := [43, 54]) vX3_findUnbarred wX3_findUnbarred 2000 43 _ _ _ ?_
    refine And.intro (fun h45 => ?_) (fun h45 => ?_)
    · skip
      have h45 := nI_leT (a := s_n S 1) (b := s_n S 1) (by omega) (by omega) h45
      exact ⟨rfl, hf, hI, ho, h1⟩
    · skip
      have h45 := nI_leF (a := s_n S 1) (b := s_n S 1) (by omega) (by omega) h45
      exact absurd h45 (by omega)
  | succ m ih =>
    intro a σ hk hI hf ho h1
    have hpe := hI.1.pe
    have ha : a < s_n S 1 := by omega
    have k123 : ∀ s, cI s S rf e → ql kL2 σ s → qx_K G qc_T 3 RX3 YX3_findUnbarred 123 [.ref 160, .int (nI n), .int (nI (s_n S 1)), .int (nI a), .int (nI (q_set (q_ub S rf n a) (s_n S 1))), .retAddr 0, .retAddr 0, .retAddr 0] [] s (fun r s => r = none ∧ ql ((165, none) :: kL2) σ0 s ∧ cI s S rf e ∧ (∀ j, j / 10 ≠ n → qx_mi s 165 j = qx_mi σ0 165 j) ∧ uA s S rf n) := by
      intro s i1 f1
      refine qy_wp_ok (c := CX3_findUnbarred) (cuts := [43]) vX3_findUnbarred wX3_findUnbarred 2000 123 _ _ _ ?_
      refine And.intro rfl (Exists.intro 165 (And.intro rfl ?_))
      refine Exists.intro (nI 10) (And.intro rfl ?_)
      refine Exists.intro (nI (n * 10)) (And.intro (pk_mul _ _) ?_)
      refine Exists.intro (nI (n * 10 + a)) (And.intro (nI_add _ _) ?_)
      obtain ⟨σ1, eσ1⟩ : ∃ zs, zs = (qx_wi s 165 (n * 10 + a) (nI (q_set (q_ub S rf n a) (s_n S 1)))) := ⟨_, rfl⟩
      have fσ1 := qn_wi eσ1
      refine Exists.intro (n * 10 + a) (Exists.intro σ1 (And.intro rfl (And.intro ⟨50, rfl, by omega, by decide⟩ (And.intro eσ1.symm ?_))))
      refine Exists.intro (nI (a + 1)) (And.intro (nI_add _ _) ?_)
      refine qx_K_le (ls := [.ref 160, .int (nI n), .int (nI (s_n S 1)), .int (nI (a + 1)), .retAddr 0, .retAddr 0, .retAddr 0, .retAddr 0]) ⟨Or.inr rfl, Or.inr rfl, Or.inr rfl, Or.inr rfl, Or.inl rfl, Or.inr rfl, Or.inr rfl, Or.inr rfl, trivial⟩ ?_
      refine ih (a + 1) _ (by omega) (i1.fr fσ1 rfl rfl) ((hf.tr (f1.mn rfl)).tr (fσ1.mn rfl)) (fun j hj => ?_) (fun a' ha' => ?_)
      · exact (qn_ne eσ1 (Or.inr (by omega))).trans ((f1.i _ _ rfl).trans (ho j hj))
      · by_cases z : a' = a
        · rw [z]; exact qn_eq eσ1
        · exact (qn_ne eσ1 (Or.inr (by omega))).trans ((f1.i _ _ rfl).trans (h1 a' (by omega)))
    refine qy_wp_ok (c := CX3_findUnbarred) (cuts := [43, 54]) vX3_findUnbarred wX3_findUnbarred 2000 43 _ _ _ ?_
    refine And.intro (fun h45 => ?_) (fun h45 => ?_)
    · skip
      have h45 := nI_leT (a := s_n S 1) (b := a) (by omega) (by omega) h45
      exact absurd h45 (by omega)
    · skip
      have h45 := nI_leF (a := s_n S 1) (b := a) (by omega) (by omega) h45
      refine Exists.intro (nI 0) (And.intro rfl ?_)
      refine Exists.intro (nI 0) (And.intro rfl ?_)
      exact l_ub2 hn ha k123 (s_n S 1) 0 _ (by omega) hI qf.rf
theorem c_findUnbarred {G : qx_G} {σ : qx_S} {S : qS} {rf : Option qR} {e n : Nat} (hI : cI σ S rf e) (hU : cUb σ S rf e) (h2 : 2 ≤ n) (hn : n ≤ 4) : qx_M G qc_T 3 YX3_findUnbarred [.ref 160, .int (nI n)] σ (fun r s => r = none ∧ ql kUb σ s ∧ cI s S rf e ∧ cUb s S rf e ∧ uA s S rf n) := by
  obtain ⟨eu, u1, u2, u3⟩ := hU n h2 hn
  have he := hI.K.2.1
  have hpe := hI.1.pe
  have e5 := hI.2.1.1.2.1.trans hI.1.1.2.1.2.1.1
  have fin : ∀ s1 s, s1 = qx_wi σ 166 n (nI e) → ql ((165, none) :: kL2) s1 s → (∀ j, j / 10 ≠ n → qx_mi s 165 j = qx_mi s1 165 j) → uA s S rf n → cUb s S rf e := by
    intro s1 s e1 f ho hu n' h2' hn'
    by_cases z : n' = n
    · rw [z]
      exact ⟨e, (f.i _ _ rfl).trans (qn_eq e1), Nat.le_refl _, fun _ => hu⟩
    · obtain ⟨w, w1, w2, w3⟩ := hU n' h2' hn'
      exact ⟨w, (f.i _ _ rfl).trans ((qn_ne e1 (Or.inr z)).trans w1), w2, fun y a ha => (ho _ (by omega)).trans ((qn_ne e1 (Or.inl (by decide))).trans (w3 y a ha))⟩
  refine qx_M_in rfl (Nat.le_of_ble_eq_true rfl) ?_
  refine qy_wp_ok (c := CX3_findUnbarred) (cuts := [43]) vX3_findUnbarred wX3_findUnbarred 2000 0 _ _ _ ?_
  refine And.intro rfl (Exists.intro 166 (And.intro rfl ?_))
  refine Exists.intro (n) (Exists.intro (nI eu) (And.intro rfl (And.intro ⟨5, rfl, by omega, by decide⟩ (And.intro u1 ?_))))
  refine And.intro rfl (Exists.intro 156 (And.intro rfl ?_))
  refine And.intro rfl (Exists.intro 8 (Exists.intro (nI e) (And.intro rfl (And.intro hI.K.1 ?_))))
  refine And.intro (fun h13 => ?_) (fun h13 => ?_)
  · skip
    have h13 := nI_neT (a := eu) (b := e) (by omega) (by omega) h13
    refine And.intro rfl (Exists.intro 166 (And.intro rfl ?_))
    refine And.intro rfl (Exists.intro 156 (And.intro rfl ?_))
    refine And.intro rfl (Exists.intro 8 (Exists.intro (nI e) (And.intro rfl (And.intro hI.K.1 ?_))))
    obtain ⟨σ1, eσ1⟩ : ∃ zs, zs = (qx_wi σ 166 n (nI e)) := ⟨_, rfl⟩
    have fσ1 := qn_wi eσ1
    refine Exists.intro (n) (Exists.intro σ1 (And.intro rfl (And.intro ⟨5, rfl, by omega, by decide⟩ (And.intro eσ1.symm ?_))))
    refine And.intro rfl (Exists.intro 156 (And.intro rfl ?_))
    refine And.intro rfl (Exists.intro 16 (And.intro rfl ?_))
    refine And.intro rfl (Exists.intro 5 (Exists.intro (nI (s_n S 1)) (And.intro rfl (And.intro ((fσ1.i _ _ rfl).trans (e5)) ?_))))
    refine Exists.intro (nI 0) (And.intro rfl ?_)
    refine qx_K_mono (l_ub1 hn (s_n S 1) 0 _ (by omega) (hI.fr fσ1 rfl rfl) qf.rf (fun _ _ => rfl) (fun a ha => absurd ha (Nat.not_lt_zero a))) (fun r s h => ⟨h.1, (fσ1.mn rfl).tr (h.2.1.mn rfl), h.2.2.1, fin _ _ eσ1 h.2.1 h.2.2.2.1 h.2.2.2.2, h.2.2.2.2⟩)
  · skip
    have h13 := nI_eqT (a := eu) (b := e) (by omega) (by omega) h13
    exact ⟨rfl, qf.rf, hI, hU, u3 h13⟩
/-- by all LAWS -/
def q_wd1 (S : qS) (rf : Option qR) (ly : Option (Nat × Nat)) (a b : Nat) : Bool := !decide (S (10 + 5 * a + 3) = nI 0) || decide (0 < q_gn S rf ly a b)
theorem q_cn_eq {S : qS} {rf : Option qR} {ly : Option (Nat × Nat)} (g : gL S) {n a b : Nat} (ha : a < s_n S 1) (hb : b < s_n S 1) : (q_wd1 S rf ly a b && q_ub S rf n a b) = q_cn S rf ly n a b := by
  have a8 : s_at S a < 8 := Nat.lt_of_lt_of_le (g.2.1.2.2 a ha).2 g.1.1.2
  have b8 : s_at S b < 8 := Nat.lt_of_lt_of_le (g.2.1.2.2 b hb).2 g.1.1.2
  have sg := sm9_gt (q_ll_sm (rf := rf) (ly := ly) (a := s_at S a) g ha b8) (q_ll_sm (rf := rf) (ly := ly) (a := s_at S a) g ha a8)
  unfold q_cn q_wd1 q_ub q_bk
  by_cases h1 : s_at S b = s_at S a
  · rw [if_pos h1, decide_eq_true h1.symm]
    simp
  · rw [if_neg h1, decide_eq_false (show ¬ s_at S a = s_at S b from fun z => h1 z.symm)]
    by_cases h2 : S (10 + 5 * a + 3) = nI 0 ∧ q_ll S rf ly a (s_at S a) (s_at S b) ≤ q_ll S rf ly a (s_at S a) (s_at S a)
    · rw [if_pos h2, decide_eq_true h2.1, decide_eq_false (show ¬ 0 < q_gn S rf ly a b from fun z => absurd (sg.mp z) (Int32.not_lt.mpr h2.2))]
      rfl
    · rw [if_neg h2]
      have w : (!decide (S (10 + 5 * a + 3) = nI 0) || decide (0 < q_gn S rf ly a b)) = true := by
        by_cases h3 : S (10 + 5 * a + 3) = nI 0
        · rw [decide_eq_true (show 0 < q_gn S rf ly a b from sg.mpr (Int32.not_le.mp (fun z => h2 ⟨h3, z⟩)))]
          exact Bool.or_true _
        · rw [decide_eq_false h3]
          rfl
      rw [w]
      cases q_br S rf a (s_at S a) (s_at S b) b n <;> rfl
theorem l_op2 {G : qx_G} {σ : qx_S} {S : qS} {rf : Option qR} {ly : Option (Nat × Nat)} {e n a : Nat} (hI : cI σ S rf e) (hg : gA σ S rf ly) (ha : a < s_n S 1) {Φ : qx_F} (key : qx_K G qc_T 1 RX3 YX3_findOpen 74 [.ref 160, .int (nI n), .int (nI (s_n S 1)), .int (nI a), .int (nI (q_set (q_wd1 S rf ly a) (s_n S 1))), .retAddr 0] [] σ Φ) : ∀ (m k : Nat), m + k = s_n S 1 → qx_K G qc_T 1 RX3 YX3_findOpen 24 [.ref 160, .int (nI n), .int (nI (s_n S 1)), .int (nI a), .int (nI (q_set (q_wd1 S rf ly a) k)), .int (nI k)] [] σ Φ := by
  have hpe := hI.1.pe
  intro m
  induction m with
  | zero =>
    intro k hk
    rw [show k = s_n S 1 by omega]
    refine qy_wp_ok (c := CX3_findOpen) (cuts := [24, 74]) vX3_findOpen wX3_findOpen 2000 24 _ _ _ ?_
    refine And.intro (fun h27 => ?_) (fun h27 => ?_)
    · skip
      have h27 := nI_leT (a := s_n S 1) (b := s_n S 1) (by omega) (by omega) h27
      refine qx_K_le (ls := [.ref 160, .int (nI n), .int (nI (s_n S 1)), .int (nI a), .int (nI (q_set (q_wd1 S rf ly a) (s_n S 1))), .retAddr 0]) ⟨Or.inr rfl, Or.inr rfl, Or.inr rfl, Or.inr rfl, Or.inr rfl, Or.inl rfl, trivial⟩ ?_
      exact key
    · skip
      have h27 := nI_leF (a := s_n S 1) (b := s_n S 1) (by omega) (by omega) h27
      exact absurd h27 (by omega)
  | succ m ih =>
    intro k hk
    have hk1 : k < s_n S 1 := by omega
    have n1 : decide (¬ S (10 + 5 * a + 3) = nI 0) = true → q_wd1 S rf ly a k = true := fun h => by
      unfold q_wd1
      rw [decide_eq_false (of_decide_eq_true h)]
      rfl
    have n2 : 0 < q_gn S rf ly a k → q_wd1 S rf ly a k = true := fun h => by
      unfold q_wd1
      rw [decide_eq_true h]
      exact Bool.or_true _
    have n3 : decide (¬ S (10 + 5 * a + 3) = nI 0) = false → ¬ 0 < q_gn S rf ly a k → q_wd1 S rf ly a k = false := fun h1 h => by
      unfold q_wd1
      rw [decide_eq_false h, decide_eq_true (Classical.not_not.mp (of_decide_eq_false h1))]
      rfl
    refine qy_wp_ok (c := CX3_findOpen) (cuts := [24, 74]) vX3_findOpen wX3_findOpen 2000 24 _ _ _ ?_
    refine And.intro (fun h27 => ?_) (fun h27 => ?_)
    · skip
      have h27 := nI_leT (a := s_n S 1) (b := k) (by omega) (by omega) h27
      exact absurd h27 (by omega)
    · skip
      have h27 := nI_leF (a := s_n S 1) (b := k) (by omega) (by omega) h27
      refine And.intro rfl (Exists.intro 156 (And.intro rfl ?_))
      refine And.intro rfl (Exists.intro 16 (And.intro rfl ?_))
      refine And.intro rfl (Exists.intro _ (And.intro (by decide) (qx_M_mono (c_onBench hI.1.1 hI.2.1.1 ha) ?_)))
      rintro _ _ ⟨rfl, rfl⟩
      refine And.intro (fun h41 => ?_) (fun h41 => ?_)
      · skip
        have h41 := bI_t h41
        refine Exists.intro (nI 1) (And.intro rfl ?_)
        refine Exists.intro (nI (2 ^ k)) (And.intro (nI_sh1 (by omega)) ?_)
        refine Exists.intro (nI ((q_set (q_wd1 S rf ly a) k) ||| (2 ^ k))) (And.intro (nI_or _ _) ?_)
        refine Exists.intro (nI (k + 1)) (And.intro (nI_add _ _) ?_)
        rw [← q_set_t (n1 h41)]; exact ih (k + 1) (by omega)
      · skip
        have h41 := bI_f h41
        refine And.intro rfl (Exists.intro 168 (And.intro rfl ?_))
        refine Exists.intro (nI 10) (And.intro rfl ?_)
        refine Exists.intro (nI (a * 10)) (And.intro (pk_mul _ _) ?_)
        refine Exists.intro (nI (a * 10 + k)) (And.intro (nI_add _ _) ?_)
        refine Exists.intro (a * 10 + k) (Exists.intro (q_gn S rf ly a k) (And.intro rfl (And.intro ⟨100, rfl, by omega, by decide⟩ (And.intro (hg a k ha hk1) ?_))))
        refine And.intro (fun h56 => ?_) (fun h56 => ?_)
        · skip
          refine Exists.intro (nI (k + 1)) (And.intro (nI_add _ _) ?_)
          rw [← q_set_f (n3 h41 (Int32.not_lt.mpr h56))]; exact ih (k + 1) (by omega)
        · skip
          refine Exists.intro (nI 1) (And.intro rfl ?_)
          refine Exists.intro (nI (2 ^ k)) (And.intro (nI_sh1 (by omega)) ?_)
          refine Exists.intro (nI ((q_set (q_wd1 S rf ly a) k) ||| (2 ^ k))) (And.intro (nI_or _ _) ?_)
          refine Exists.intro (nI (k + 1)) (And.intro (nI_add _ _) ?_)
          rw [← q_set_t (n2 (Int32.not_le.mp h56))]; exact ih (k + 1) (by omega)
theorem l_op1 {G : qx_G} {σ0 : qx_S} {S : qS} {rf : Option qR} {ly : Option (Nat × Nat)} {e n : Nat} (hn : n ≤ 4) : ∀ (m a : Nat) (σ : qx_S), m + a = s_n S 1 → cI σ S rf e → gA σ S rf ly → uA σ S rf n → ql [(167, none)] σ0 σ → (∀ j, j / 10 ≠ n → qx_mi σ 167 j = qx_mi σ0 167 j) → (∀ a', a' < a → ∃ w, w < 1024 ∧ qx_mi σ 167 (n * 10 + a') = nI w ∧ ∀ b, b < s_n S 1 → w.testBit b = q_cn S rf ly n a' b) → qx_K G qc_T 1 RX3 YX3_findOpen 13 [.ref 160, .int (nI n), .int (nI (s_n S 1)), .int (nI a), .retAddr 0, .retAddr 0] [] σ (fun r s => r = none ∧ ql [(167, none)] σ0 s ∧ (∀ j, j / 10 ≠ n → qx_mi s 167 j = qx_mi σ0 167 j) ∧ oA s S rf ly n) := by
  intro m
  induction m with
  | zero =>
    intro a σ hk hI hg hu hf ho h1
    have hpe := hI.1.pe
    rw [show a = s_n S 1 by omega] at h1 ⊢
    refine qy_wp_ok (c := CX3_findOpen) (cuts := [13, 24]) vX3_findOpen wX3_findOpen 2000 13 _ _ _ ?_
    refine And.intro (fun h15 => ?_) (fun h15 => ?_)
    · skip
      have h15 := nI_leT (a := s_n S 1) (b := s_n S 1) (by omega) (by omega) h15
      exact ⟨rfl, hf, ho, h1⟩
    · skip
      have h15 := nI_leF (a := s_n S 1) (b := s_n S 1) (by omega) (by omega) h15
      exact absurd h15 (by omega)
  | succ m ih =>
    intro a σ hk hI hg hu hf ho h1
    have hpe := hI.1.pe
    have ha : a < s_n S 1 := by omega
    have h1024 : 2 ^ s_n S 1 ≤ 1024 := Nat.pow_le_pow_right (by decide) hpe
    have w1 := q_set_lt (q_wd1 S rf ly a) (s_n S 1)
    have k74 : qx_K G qc_T 1 RX3 YX3_findOpen 74 [.ref 160, .int (nI n), .int (nI (s_n S 1)), .int (nI a), .int (nI (q_set (q_wd1 S rf ly a) (s_n S 1))), .retAddr 0] [] σ (fun r s => r = none ∧ ql [(167, none)] σ0 s ∧ (∀ j, j / 10 ≠ n → qx_mi s 167 j = qx_mi σ0 167 j) ∧ oA s S rf ly n) := by
      refine qy_wp_ok (c := CX3_findOpen) (cuts := [13]) vX3_findOpen wX3_findOpen 2000 74 _ _ _ ?_
      refine And.intro rfl (Exists.intro 167 (And.intro rfl ?_))
      refine Exists.intro (nI 10) (And.intro rfl ?_)
      refine Exists.intro (nI (n * 10)) (And.intro (pk_mul _ _) ?_)
      refine Exists.intro (nI (n * 10 + a)) (And.intro (nI_add _ _) ?_)
      refine And.intro rfl (Exists.intro 165 (And.intro rfl ?_))
      refine Exists.intro (nI 10) (And.intro rfl ?_)
      refine Exists.intro (nI (n * 10)) (And.intro (pk_mul _ _) ?_)
      refine Exists.intro (nI (n * 10 + a)) (And.intro (nI_add _ _) ?_)
      refine Exists.intro (n * 10 + a) (Exists.intro (nI (q_set (q_ub S rf n a) (s_n S 1))) (And.intro rfl (And.intro ⟨50, rfl, by omega, by decide⟩ (And.intro (hu a ha) ?_))))
      refine Exists.intro (nI ((q_set (q_wd1 S rf ly a) (s_n S 1)) &&& (q_set (q_ub S rf n a) (s_n S 1)))) (And.intro (nI_and _ _) ?_)
      obtain ⟨σ1, eσ1⟩ : ∃ zs, zs = (qx_wi σ 167 (n * 10 + a) (nI ((q_set (q_wd1 S rf ly a) (s_n S 1)) &&& (q_set (q_ub S rf n a) (s_n S 1))))) := ⟨_, rfl⟩
      have fσ1 := qn_wi eσ1
      refine Exists.intro (n * 10 + a) (Exists.intro σ1 (And.intro rfl (And.intro ⟨50, rfl, by omega, by decide⟩ (And.intro eσ1.symm ?_))))
      refine Exists.intro (nI (a + 1)) (And.intro (nI_add _ _) ?_)
      refine qx_K_le (ls := [.ref 160, .int (nI n), .int (nI (s_n S 1)), .int (nI (a + 1)), .retAddr 0, .retAddr 0]) ⟨Or.inr rfl, Or.inr rfl, Or.inr rfl, Or.inr rfl, Or.inl rfl, Or.inr rfl, trivial⟩ ?_
      refine ih (a + 1) _ (by omega) (hI.fr fσ1 rfl rfl) (fun x y hx hy => (fσ1.i _ _ rfl).trans (hg x y hx hy)) (fun x hx => (fσ1.i _ _ rfl).trans (hu x hx)) (hf.tr fσ1) (fun j hj => (qn_ne eσ1 (Or.inr (by omega))).trans (ho j hj)) (fun a' ha' => ?_)
      by_cases z : a' = a
      · rw [z]
        refine ⟨_, Nat.lt_of_le_of_lt Nat.and_le_left (Nat.lt_of_lt_of_le w1 h1024), qn_eq eσ1, fun b hb => ?_⟩
        rw [Nat.testBit_and, q_set_bit, q_set_bit, decide_eq_true hb, Bool.true_and, Bool.true_and, q_cn_eq hI.1.1 ha hb]
      · obtain ⟨w, y1, y2, y3⟩ := h1 a' (by omega)
        exact ⟨w, y1, (qn_ne eσ1 (Or.inr (by omega))).trans y2, y3⟩
    refine qy_wp_ok (c := CX3_findOpen) (cuts := [13, 24]) vX3_findOpen wX3_findOpen 2000 13 _ _ _ ?_
    refine And.intro (fun h15 => ?_) (fun h15 => ?_)
    · skip
      have h15 := nI_leT (a := s_n S 1) (b := a) (by omega) (by omega) h15
      exact absurd h15 (by omega)
    · skip
      have h15 := nI_leF (a := s_n S 1) (b := a) (by omega) (by omega) h15
      refine Exists.intro (nI 0) (And.intro rfl ?_)
      refine Exists.intro (nI 0) (And.intro rfl ?_)
      exact l_op2 hI hg ha k74 (s_n S 1) 0 (by omega)
theorem c_findOpen {G : qx_G} {σ : qx_S} {S : qS} {rf : Option qR} {ly : Option (Nat × Nat)} {e n : Nat} (hI : cI σ S rf e) (hg : gA σ S rf ly) (hu : uA σ S rf n) (hn : n ≤ 4) : qx_M G qc_T 1 YX3_findOpen [.ref 160, .int (nI n)] σ (fun r s => r = none ∧ ql [(167, none)] σ s ∧ (∀ j, j / 10 ≠ n → qx_mi s 167 j = qx_mi σ 167 j) ∧ oA s S rf ly n) := by
  have hpe := hI.1.pe
  have e5 := hI.2.1.1.2.1.trans hI.1.1.2.1.2.1.1
  refine qx_M_in rfl (Nat.le_of_ble_eq_true rfl) ?_
  refine qy_wp_ok (c := CX3_findOpen) (cuts := [13]) vX3_findOpen wX3_findOpen 2000 0 _ _ _ ?_
  refine And.intro rfl (Exists.intro 156 (And.intro rfl ?_))
  refine And.intro rfl (Exists.intro 16 (And.intro rfl ?_))
  refine And.intro rfl (Exists.intro 5 (Exists.intro (nI (s_n S 1)) (And.intro rfl (And.intro e5 ?_))))
  refine Exists.intro (nI 0) (And.intro rfl ?_)
  exact l_op1 hn (s_n S 1) 0 _ (by omega) hI hg hu qf.rf (fun _ _ => rfl) (fun a ha => absurd ha (Nat.not_lt_zero a))
theorem c_isOpen {G : qx_G} {σ : qx_S} {S : qS} {rf : Option qR} {ly : Option (Nat × Nat)} {n a b : Nat} (ho : oA σ S rf ly n) (hpe : s_n S 1 ≤ 10) (hn : n ≤ 4) (ha : a < s_n S 1) (hb : b < s_n S 1) : qx_M G qc_T 0 YX3_isOpen [.ref 160, .int (nI n), .int (nI a), .int (nI b)] σ (qr (bI (q_cn S rf ly n a b)) σ) := by
  obtain ⟨w, w1, w2, w3⟩ := ho a ha
  have hl : w / 2 ^ b &&& 1 ≤ 1 := Nat.and_le_right
  rw [← w3 b hb]
  refine qx_M_in rfl (Nat.le_of_ble_eq_true rfl) ?_
  refine qy_wp_ok (c := CX3_isOpen) (cuts := []) vX3_isOpen wX3_isOpen 2000 0 _ _ _ ?_
  refine And.intro rfl (Exists.intro 167 (And.intro rfl ?_))
  refine Exists.intro (nI 10) (And.intro rfl ?_)
  refine Exists.intro (nI (n * 10)) (And.intro (pk_mul _ _) ?_)
  refine Exists.intro (nI (n * 10 + a)) (And.intro (nI_add _ _) ?_)
  refine Exists.intro (n * 10 + a) (Exists.intro (nI w) (And.intro rfl (And.intro ⟨50, rfl, by omega, by decide⟩ (And.intro w2 ?_))))
  refine Exists.intro (nI (w / 2 ^ b)) (And.intro (nI_shr (by omega) (by omega)) ?_)
  refine Exists.intro (nI 1) (And.intro rfl ?_)
  refine Exists.intro (nI ((w / 2 ^ b) &&& 1)) (And.intro (nI_and _ _) ?_)
  refine And.intro (fun h15 => ?_) (fun h15 => ?_)
  · skip
    have h15 := nI_eqT (a := (w / 2 ^ b) &&& 1) (b := 0) (by omega) (by decide) h15
    refine Exists.intro (nI 0) (And.intro rfl ?_)
    refine And.intro (Or.inl rfl) ?_
    first | exact ⟨congrArg (fun z => some (Value.int z)) (bI_true (q_tb.mp (by omega))).symm, rfl⟩ | exact ⟨congrArg (fun z => some (Value.int z)) (bI_false (Bool.eq_false_iff.mpr (fun y => absurd ((q_tb.mpr y).symm.trans h15) (by decide)))).symm, rfl⟩
  · skip
    have h15 := nI_neT (a := (w / 2 ^ b) &&& 1) (b := 0) (by omega) (by decide) h15
    refine Exists.intro (nI 1) (And.intro rfl ?_)
    refine And.intro (Or.inr rfl) ?_
    first | exact ⟨congrArg (fun z => some (Value.int z)) (bI_true (q_tb.mp (by omega))).symm, rfl⟩ | exact ⟨congrArg (fun z => some (Value.int z)) (bI_false (Bool.eq_false_iff.mpr (fun y => absurd ((q_tb.mpr y).symm.trans h15) (by decide)))).symm, rfl⟩

