/-! THE REFERENCE: MOST, marks, all sets -/
/-- who can take whose place in a ring of n, what is gained -/
def q_cn (S : qS) (rf : Option qR) (ly : Option (Nat × Nat)) (n a b : Nat) : Bool := decide (q_bk S rf ly a (s_at S a) (s_at S b) b n = 0)
def q_gn (S : qS) (rf : Option qR) (ly : Option (Nat × Nat)) (a b : Nat) : Int32 := q_ll S rf ly a (s_at S a) (s_at S b) - q_ll S rf ly a (s_at S a) (s_at S a)
abbrev lMk : List (Nat × Option Nat) := [(205, none), (206, none), (197, some 18), (212, none), (213, none)]
/-- marked ahead of a, b -/
def mKd (σ : qx_S) (can : Nat → Nat → Nat → Bool) (gn : Nat → Nat → Int32) (pe k a b : Nat) : Prop := ∀ x y, x < pe → y < pe → x ≠ y → (x < a ∨ x = a ∧ y < b) → qx_mi σ 213 (10 * x + y) = gn x y ∧ ∀ n, 2 ≤ n → n ≤ k → qx_mi σ 212 (100 * n + 10 * x + y) = bI (can n x y)
theorem mKd.fr {σ σ' : qx_S} {can : Nat → Nat → Nat → Bool} {gn : Nat → Nat → Int32} {pe k a b : Nat} {l : List (Nat × Option Nat)} (h : mKd σ can gn pe k a b) (hf : ql l σ σ') (h2 : ∀ j, pL l 212 j = false) (h3 : ∀ j, pL l 213 j = false) : mKd σ' can gn pe k a b := fun x y z1 z2 z3 z4 => ⟨(hf.i _ _ (h3 _)).trans (h x y z1 z2 z3 z4).1, fun n y1 y2 => (hf.i _ _ (h2 _)).trans ((h x y z1 z2 z3 z4).2 n y1 y2)⟩
theorem l_marks3 {G : qx_G} {σ0 : qx_S} {S : qS} {rf : Option qR} {ly : Option (Nat × Nat)} (g : gS S) {k a b : Nat} (hk : k ≤ 4) (ha : a < s_n S 1) (hb : b < s_n S 1) (hab : a ≠ b) {Φ : qx_F} : ∀ (m n : Nat) (σ : qx_S), m = k + 1 - n → 2 ≤ n → n ≤ k + 1 → ql lMk σ0 σ → mX σ S rf ly → mKd σ (q_cn S rf ly) (q_gn S rf ly) (s_n S 1) k a b → qx_mi σ 213 (10 * a + b) = q_gn S rf ly a b → (∀ n', 2 ≤ n' → n' < n → qx_mi σ 212 (100 * n' + 10 * a + b) = bI (q_cn S rf ly n' a b)) →
    (∀ s, ql lMk σ0 s → mX s S rf ly → mKd s (q_cn S rf ly) (q_gn S rf ly) (s_n S 1) k a (b + 1) → qx_K G qc_T 5 RX12 YX12_marks 112 [.ref 197, .int (nI k), .int (nI a), .int (nI b), .retAddr 0] [] s Φ) →
    qx_K G qc_T 5 RX12 YX12_marks 67 [.ref 197, .int (nI k), .int (nI a), .int (nI b), .int (nI n)] [] σ Φ := by
  intro m
  have h10 := g.2.1.2
  induction m using Nat.strongRecOn with
  | _ m ih =>
    intro n σ hm h2 hn hf hX hM e1 e2 hcont
    rcases Nat.lt_or_ge k n with hge | hlt
    · skip
      refine qy_wp_ok (c := CX12_marks) (cuts := [67, 112]) vX12_marks wX12_marks 2000 67 _ _ _ ?_
      refine And.intro (fun h70 => ?_) (fun h70 => ?_)
      · skip
        have h70 := nI_ltT (a := k) (b := n) (by omega) (by omega) h70
        refine qx_K_le (ls := [.ref 197, .int (nI k), .int (nI a), .int (nI b), .retAddr 0]) ⟨Or.inr rfl, Or.inr rfl, Or.inr rfl, Or.inr rfl, Or.inl rfl, trivial⟩ ?_
        refine hcont _ hf hX (fun x y z1 z2 z3 z4 => ?_)
        by_cases e : x = a ∧ y = b
        · obtain ⟨rfl, rfl⟩ := e
          exact ⟨e1, fun n' y1 y2 => e2 n' y1 (by omega)⟩
        · exact hM x y z1 z2 z3 (by omega)
      · skip
        have h70 := nI_ltF (a := k) (b := n) (by omega) (by omega) h70
        exact absurd h70 (by omega)
    · have hl3 := q_bk_le S rf ly a (s_at S a) (s_at S b) b n
      have u1 : q_bk S rf ly a (s_at S a) (s_at S b) b n = 0 → nI 1 = bI (q_cn S rf ly n a b) := fun z => (bI_true (decide_eq_true z)).symm
      have u2 : ¬ q_bk S rf ly a (s_at S a) (s_at S b) b n = 0 → nI 0 = bI (q_cn S rf ly n a b) := fun z => (bI_false (decide_eq_false z)).symm
      have st : ∀ s s', ql lMk σ0 s → mX s S rf ly → mKd s (q_cn S rf ly) (q_gn S rf ly) (s_n S 1) k a b → qx_mi s 213 (10 * a + b) = q_gn S rf ly a b → (∀ n', 2 ≤ n' → n' < n → qx_mi s 212 (100 * n' + 10 * a + b) = bI (q_cn S rf ly n' a b)) → s' = qx_wi s 212 (100 * n + 10 * a + b) (bI (q_cn S rf ly n a b)) → qx_K G qc_T 5 RX12 YX12_marks 67 [.ref 197, .int (nI k), .int (nI a), .int (nI b), .int (nI (n + 1))] [] s' Φ := by
        intro s s' y1 y2 y3 y4 y5 e
        have f := qn_wi e
        refine ih _ (by omega) (n + 1) s' rfl (by omega) (by omega) (y1.tr (f.mn rfl)) (y2.fr f rfl) (fun x y z1 z2 z3 z4 => ⟨(f.i _ _ rfl).trans (y3 x y z1 z2 z3 z4).1, fun n' w1 w2 => (qn_ne e (Or.inr ?_)).trans ((y3 x y z1 z2 z3 z4).2 n' w1 w2)⟩) ((f.i _ _ rfl).trans y4) (fun n' w1 w2 => ?_) hcont
        · omega
        · by_cases e' : n' = n
          · subst e'
            exact qn_eq e
          · exact (qn_ne e (Or.inr (by omega))).trans (y5 n' w1 (by omega))
      refine qy_wp_ok (c := CX12_marks) (cuts := [67, 112]) vX12_marks wX12_marks 2000 67 _ _ _ ?_
      refine And.intro (fun h70 => ?_) (fun h70 => ?_)
      · skip
        have h70 := nI_ltT (a := k) (b := n) (by omega) (by omega) h70
        exact absurd h70 (by omega)
      · skip
        have h70 := nI_ltF (a := k) (b := n) (by omega) (by omega) h70
        refine And.intro rfl (Exists.intro 212 (And.intro rfl ?_))
        refine Exists.intro (nI 100) (And.intro rfl ?_)
        refine Exists.intro (nI (100 * n)) (And.intro (pk_mul _ _) ?_)
        refine Exists.intro (nI 10) (And.intro rfl ?_)
        refine Exists.intro (nI (10 * a)) (And.intro (pk_mul _ _) ?_)
        refine Exists.intro (nI (100 * n + 10 * a)) (And.intro (nI_add _ _) ?_)
        refine Exists.intro (nI (100 * n + 10 * a + b)) (And.intro (nI_add _ _) ?_)
        refine And.intro rfl (Exists.intro _ (And.intro (by decide) (qx_M_mono (m_brokenBy (p := a) (o := b) (ring := n) hX (by omega) (by omega) (g.2.2 a (by omega)).1 (g.2.2 b (by omega)).1 (Nat.lt_of_lt_of_le (g.2.2 a (by omega)).2 g.1.2) (Nat.lt_of_lt_of_le (g.2.2 b (by omega)).2 g.1.2)) ?_)))
        rintro _ σ1 ⟨rfl, fσ1⟩
        have hf_σ1 : ql lMk σ0 σ1 := hf.tr (fσ1.mn rfl)
        have hX_σ1 : mX σ1 S rf ly := hX.fr fσ1 rfl
        refine And.intro (fun h97 => ?_) (fun h97 => ?_)
        · skip
          have h97 := nI_neT (a := q_bk S rf ly a (s_at S a) (s_at S b) b n) (b := 0) (by omega) (by decide) h97
          refine Exists.intro (nI 0) (And.intro rfl ?_)
          obtain ⟨σ2, eσ2⟩ : ∃ zs, zs = (qx_wi σ1 212 (100 * n + 10 * a + b) (nI 0)) := ⟨_, rfl⟩
          have fσ2 := qn_wi eσ2
          refine Or.inr (Exists.intro (100 * n + 10 * a + b) (Exists.intro σ2 (And.intro rfl (And.intro ⟨500, rfl, by omega, by decide⟩ (And.intro (by decide) (And.intro eσ2.symm ?_))))))
          have hf_σ2 : ql lMk σ0 σ2 := hf_σ1.tr (fσ2.mn rfl)
          have hX_σ2 : mX σ2 S rf ly := hX_σ1.fr fσ2 rfl
          refine Exists.intro (nI (n + 1)) (And.intro (nI_add _ _) ?_)
          first | exact st σ1 σ2 (hf.tr (fσ1.mn rfl)) (hX.fr fσ1 rfl) (hM.fr fσ1 (fun _ => rfl) (fun _ => rfl)) ((fσ1.i _ _ rfl).trans e1) (fun n' w1 w2 => (fσ1.i _ _ rfl).trans (e2 n' w1 w2)) (by rw [← u1 h97]; exact eσ2) | exact st σ1 σ2 (hf.tr (fσ1.mn rfl)) (hX.fr fσ1 rfl) (hM.fr fσ1 (fun _ => rfl) (fun _ => rfl)) ((fσ1.i _ _ rfl).trans e1) (fun n' w1 w2 => (fσ1.i _ _ rfl).trans (e2 n' w1 w2)) (by rw [← u2 h97]; exact eσ2)
        · skip
          have h97 := nI_eqT (a := q_bk S rf ly a (s_at S a) (s_at S b) b n) (b := 0) (by omega) (by decide) h97
          refine Exists.intro (nI 1) (And.intro rfl ?_)
          obtain ⟨σ2, eσ2⟩ : ∃ zs, zs = (qx_wi σ1 212 (100 * n + 10 * a + b) (nI 1)) := ⟨_, rfl⟩
          have fσ2 := qn_wi eσ2
          refine Or.inr (Exists.intro (100 * n + 10 * a + b) (Exists.intro σ2 (And.intro rfl (And.intro ⟨500, rfl, by omega, by decide⟩ (And.intro (by decide) (And.intro eσ2.symm ?_))))))
          have hf_σ2 : ql lMk σ0 σ2 := hf_σ1.tr (fσ2.mn rfl)
          have hX_σ2 : mX σ2 S rf ly := hX_σ1.fr fσ2 rfl
          refine Exists.intro (nI (n + 1)) (And.intro (nI_add _ _) ?_)
          first | exact st σ1 σ2 (hf.tr (fσ1.mn rfl)) (hX.fr fσ1 rfl) (hM.fr fσ1 (fun _ => rfl) (fun _ => rfl)) ((fσ1.i _ _ rfl).trans e1) (fun n' w1 w2 => (fσ1.i _ _ rfl).trans (e2 n' w1 w2)) (by rw [← u1 h97]; exact eσ2) | exact st σ1 σ2 (hf.tr (fσ1.mn rfl)) (hX.fr fσ1 rfl) (hM.fr fσ1 (fun _ => rfl) (fun _ => rfl)) ((fσ1.i _ _ rfl).trans e1) (fun n' w1 w2 => (fσ1.i _ _ rfl).trans (e2 n' w1 w2)) (by rw [← u2 h97]; exact eσ2)
theorem l_marks2 {G : qx_G} {σ0 : qx_S} {S : qS} {rf : Option qR} {ly : Option (Nat × Nat)} (g : gS S) {k a : Nat} (hk2 : 2 ≤ k) (hk : k ≤ 4) (ha : a < s_n S 1) {Φ : qx_F} : ∀ (m b : Nat) (σ : qx_S), m = s_n S 1 - b → b ≤ s_n S 1 → ql lMk σ0 σ → mX σ S rf ly → mKd σ (q_cn S rf ly) (q_gn S rf ly) (s_n S 1) k a b →
    (∀ s, ql lMk σ0 s → mX s S rf ly → mKd s (q_cn S rf ly) (q_gn S rf ly) (s_n S 1) k (a + 1) 0 → qx_K G qc_T 5 RX12 YX12_marks 118 [.ref 197, .int (nI k), .int (nI a), .retAddr 0, .retAddr 0] [] s Φ) →
    qx_K G qc_T 5 RX12 YX12_marks 14 [.ref 197, .int (nI k), .int (nI a), .int (nI b), .retAddr 0] [] σ Φ := by
  intro m
  have h10 := g.2.1.2
  have h8 := g.1.2
  induction m using Nat.strongRecOn with
  | _ m ih =>
    intro b σ hm hb hf hX hM hcont
    have ha8 : s_n S (10 + 5 * a) < s_n S 0 := (g.2.2 a ha).2
    have ha9 : s_at S a < 8 := by show s_n S (10 + 5 * a) < 8; omega
    rcases Nat.lt_or_ge b (s_n S 1) with hlt | hge
    · have hb9 : s_at S b < 8 := Nat.lt_of_lt_of_le (g.2.2 b hlt).2 h8
      have st : ∀ s, ql lMk σ0 s → mX s S rf ly → mKd s (q_cn S rf ly) (q_gn S rf ly) (s_n S 1) k a (b + 1) → qx_K G qc_T 5 RX12 YX12_marks 14 [.ref 197, .int (nI k), .int (nI a), .int (nI (b + 1)), .retAddr 0] [] s Φ := fun s y1 y2 y3 => ih _ (by omega) (b + 1) s rfl (by omega) y1 y2 y3 hcont
      have st2 : ∀ s, ql lMk σ0 s → mX s S rf ly → mKd s (q_cn S rf ly) (q_gn S rf ly) (s_n S 1) k a (b + 1) → qx_K G qc_T 5 RX12 YX12_marks 112 [.ref 197, .int (nI k), .int (nI a), .int (nI b), .retAddr 0] [] s Φ := by
        intro s y1 y2 y3
        refine qy_wp_ok (c := CX12_marks) (cuts := [14]) vX12_marks wX12_marks 2000 112 _ _ _ ?_
        refine Exists.intro (nI (b + 1)) (And.intro (nI_add _ _) ?_)
        exact st s y1 y2 y3
      refine qy_wp_ok (c := CX12_marks) (cuts := [14, 67, 112, 118]) vX12_marks wX12_marks 2000 14 _ _ _ ?_
      refine And.intro rfl (Exists.intro 207 (And.intro rfl ?_))
      refine Exists.intro (nI 1) (And.intro rfl ?_)
      refine Exists.intro (1) (Exists.intro (nI (s_n S 1)) (And.intro rfl (And.intro ⟨2788, rfl, by decide, by decide⟩ (And.intro ((congrFun hX.1 1).trans g.2.1.1) ?_))))
      refine And.intro (fun h21 => ?_) (fun h21 => ?_)
      · skip
        have h21 := nI_leT (a := s_n S 1) (b := b) (by omega) (by omega) h21
        exact absurd h21 (by omega)
      · skip
        have h21 := nI_leF (a := s_n S 1) (b := b) (by omega) (by omega) h21
        refine And.intro (fun h26 => ?_) (fun h26 => ?_)
        · skip
          have h26 := nI_neT (a := a) (b := b) (by omega) (by omega) h26
          refine And.intro rfl (Exists.intro 213 (And.intro rfl ?_))
          refine Exists.intro (nI 10) (And.intro rfl ?_)
          refine Exists.intro (nI (10 * a)) (And.intro (pk_mul _ _) ?_)
          refine Exists.intro (nI (10 * a + b)) (And.intro (nI_add _ _) ?_)
          refine And.intro rfl (Exists.intro _ (And.intro (by decide) (qx_M_mono (m_at (p := b) (by omega) ((congrFun hX.1 _).trans (g.2.2 b (by omega)).1)) ?_)))
          rintro _ _ ⟨rfl, rfl⟩
          refine And.intro rfl (Exists.intro _ (And.intro (by decide) (qx_M_mono (m_likes (p := a) (a := s_at S a) (q := (s_at S b)) hX (by omega) (by omega) (g.2.2 a (by omega)).1) ?_)))
          rintro _ σ1 ⟨rfl, fσ1⟩
          have hf_σ1 : ql lMk σ0 σ1 := hf.tr (fσ1.mn rfl)
          have hX_σ1 : mX σ1 S rf ly := hX.fr fσ1 rfl
          refine And.intro rfl (Exists.intro _ (And.intro (by decide) (qx_M_mono (m_at (p := a) (by omega) ((congrFun hX_σ1.1 _).trans (g.2.2 a (by omega)).1)) ?_)))
          rintro _ _ ⟨rfl, rfl⟩
          refine And.intro rfl (Exists.intro _ (And.intro (by decide) (qx_M_mono (m_likes (p := a) (a := s_at S a) (q := (s_at S a)) hX_σ1 (by omega) (by omega) (g.2.2 a (by omega)).1) ?_)))
          rintro _ σ2 ⟨rfl, fσ2⟩
          have hf_σ2 : ql lMk σ0 σ2 := hf_σ1.tr (fσ2.mn rfl)
          have hX_σ2 : mX σ2 S rf ly := hX_σ1.fr fσ2 rfl
          refine Exists.intro ((q_ll S rf ly a (s_at S a) (s_at S b)) - (q_ll S rf ly a (s_at S a) (s_at S a))) (And.intro rfl ?_)
          obtain ⟨σ3, eσ3⟩ : ∃ zs, zs = (qx_wi σ2 213 (10 * a + b) ((q_ll S rf ly a (s_at S a) (s_at S b)) - (q_ll S rf ly a (s_at S a) (s_at S a)))) := ⟨_, rfl⟩
          have fσ3 := qn_wi eσ3
          refine Exists.intro (10 * a + b) (Exists.intro σ3 (And.intro rfl (And.intro ⟨100, rfl, by omega, by decide⟩ (And.intro eσ3.symm ?_))))
          have hf_σ3 : ql lMk σ0 σ3 := hf_σ2.tr (fσ3.mn rfl)
          have hX_σ3 : mX σ3 S rf ly := hX_σ2.fr fσ3 rfl
          refine Exists.intro (nI 2) (And.intro rfl ?_)
          refine l_marks3 g hk ha hlt h26 _ 2 _ rfl (by omega) (by omega) hf_σ3 hX_σ3 (fun x y z1 z2 z3 z4 => ⟨(qn_ne eσ3 (Or.inr (by omega))).trans ((fσ2.i _ _ rfl).trans ((fσ1.i _ _ rfl).trans (hM x y z1 z2 z3 z4).1)), fun n' w1 w2 => (fσ3.i _ _ rfl).trans ((fσ2.i _ _ rfl).trans ((fσ1.i _ _ rfl).trans ((hM x y z1 z2 z3 z4).2 n' w1 w2)))⟩) (qn_eq eσ3) (fun n' w1 w2 => absurd w2 (by omega)) st2
        · skip
          have h26 := nI_eqT (a := a) (b := b) (by omega) (by omega) h26
          exact st2 _ hf hX (fun x y z1 z2 z3 z4 => hM x y z1 z2 z3 (by omega))
    · obtain rfl : b = s_n S 1 := by omega
      refine qy_wp_ok (c := CX12_marks) (cuts := [14, 67, 112, 118]) vX12_marks wX12_marks 2000 14 _ _ _ ?_
      refine And.intro rfl (Exists.intro 207 (And.intro rfl ?_))
      refine Exists.intro (nI 1) (And.intro rfl ?_)
      refine Exists.intro (1) (Exists.intro (nI (s_n S 1)) (And.intro rfl (And.intro ⟨2788, rfl, by decide, by decide⟩ (And.intro ((congrFun hX.1 1).trans g.2.1.1) ?_))))
      refine And.intro (fun h21 => ?_) (fun h21 => ?_)
      · skip
        have h21 := nI_leT (a := s_n S 1) (b := s_n S 1) (by omega) (by omega) h21
        refine qx_K_le (ls := [.ref 197, .int (nI k), .int (nI a), .retAddr 0, .retAddr 0]) ⟨Or.inr rfl, Or.inr rfl, Or.inr rfl, Or.inl rfl, Or.inr rfl, trivial⟩ ?_
        exact hcont _ hf hX (fun x y z1 z2 z3 z4 => hM x y z1 z2 z3 (by omega))
      · skip
        have h21 := nI_leF (a := s_n S 1) (b := s_n S 1) (by omega) (by omega) h21
        exact absurd h21 (by omega)
theorem l_marks1 {G : qx_G} {σ0 : qx_S} {S : qS} {rf : Option qR} {ly : Option (Nat × Nat)} (g : gS S) {k : Nat} (hk2 : 2 ≤ k) (hk : k ≤ 4) : ∀ (m a : Nat) (σ : qx_S), m = s_n S 1 - a → a ≤ s_n S 1 → ql lMk σ0 σ → mX σ S rf ly → mKd σ (q_cn S rf ly) (q_gn S rf ly) (s_n S 1) k a 0 →
    qx_K G qc_T 5 RX12 YX12_marks 2 [.ref 197, .int (nI k), .int (nI a), .retAddr 0, .retAddr 0] [] σ (fun r s => r = none ∧ ql lMk σ0 s ∧ mX s S rf ly ∧ mK s (q_cn S rf ly) (q_gn S rf ly) (s_n S 1) k) := by
  intro m
  have h10 := g.2.1.2
  induction m using Nat.strongRecOn with
  | _ m ih =>
    intro a σ hm ha hf hX hM
    rcases Nat.lt_or_ge a (s_n S 1) with hlt | hge
    · skip
      refine qy_wp_ok (c := CX12_marks) (cuts := [2, 14]) vX12_marks wX12_marks 2000 2 _ _ _ ?_
      refine And.intro rfl (Exists.intro 207 (And.intro rfl ?_))
      refine Exists.intro (nI 1) (And.intro rfl ?_)
      refine Exists.intro (1) (Exists.intro (nI (s_n S 1)) (And.intro rfl (And.intro ⟨2788, rfl, by decide, by decide⟩ (And.intro ((congrFun hX.1 1).trans g.2.1.1) ?_))))
      refine And.intro (fun h9 => ?_) (fun h9 => ?_)
      · skip
        have h9 := nI_leT (a := s_n S 1) (b := a) (by omega) (by omega) h9
        exact absurd h9 (by omega)
      · skip
        have h9 := nI_leF (a := s_n S 1) (b := a) (by omega) (by omega) h9
        refine Exists.intro (nI 0) (And.intro rfl ?_)
        refine l_marks2 g hk2 hk hlt _ 0 σ rfl (by omega) hf hX hM (fun s y1 y2 y3 => ?_)
        refine qy_wp_ok (c := CX12_marks) (cuts := [2]) vX12_marks wX12_marks 2000 118 _ _ _ ?_
        refine Exists.intro (nI (a + 1)) (And.intro (nI_add _ _) ?_)
        exact ih _ (by omega) (a + 1) s rfl (by omega) y1 y2 y3
    · obtain rfl : a = s_n S 1 := by omega
      refine qy_wp_ok (c := CX12_marks) (cuts := [2, 14]) vX12_marks wX12_marks 2000 2 _ _ _ ?_
      refine And.intro rfl (Exists.intro 207 (And.intro rfl ?_))
      refine Exists.intro (nI 1) (And.intro rfl ?_)
      refine Exists.intro (1) (Exists.intro (nI (s_n S 1)) (And.intro rfl (And.intro ⟨2788, rfl, by decide, by decide⟩ (And.intro ((congrFun hX.1 1).trans g.2.1.1) ?_))))
      refine And.intro (fun h9 => ?_) (fun h9 => ?_)
      · skip
        have h9 := nI_leT (a := s_n S 1) (b := s_n S 1) (by omega) (by omega) h9
        exact ⟨rfl, hf, hX, (congrFun hX.1 1).trans g.2.1.1, fun x y z1 z2 z3 => (hM x y z1 z2 z3 (Or.inl z1)).1, fun n x y w1 w2 z1 z2 z3 => (hM x y z1 z2 z3 (Or.inl z1)).2 n w1 w2⟩
      · skip
        have h9 := nI_leF (a := s_n S 1) (b := s_n S 1) (by omega) (by omega) h9
        exact absurd h9 (by omega)
theorem m_marks {G : qx_G} {σ : qx_S} {S : qS} {rf : Option qR} {ly : Option (Nat × Nat)} (hX : mX σ S rf ly) (g : gS S) {k : Nat} (hk2 : 2 ≤ k) (hk : k ≤ 4) : qx_M G qc_T 5 YX12_marks [.ref 197, .int (nI k)] σ (fun r s => r = none ∧ ql lMk σ s ∧ mX s S rf ly ∧ mK s (q_cn S rf ly) (q_gn S rf ly) (s_n S 1) k) := by
  refine qx_M_in rfl (Nat.le_of_ble_eq_true rfl) ?_
  refine qy_wp_ok (c := CX12_marks) (cuts := [2]) vX12_marks wX12_marks 2000 0 _ _ _ ?_
  refine Exists.intro (nI 0) (And.intro rfl ?_)
  exact l_marks1 g hk2 hk _ 0 σ rfl (by omega) qf.rf hX (fun x y z1 z2 z3 z4 => absurd z4 (by omega))

