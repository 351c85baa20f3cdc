/-! THE CLASS: MOST, all rings -/
def q_szs (can : Nat → Nat → Nat → Bool) (gn : Nat → Nat → Int32) (pe p : Nat) : Nat → Nat → List (Nat × Int32)
  | 0, _ => []
  | m + 1, n => q_xl (can n) gn pe p n (n - 1) p (2 ^ p) 0 ++ q_szs can gn pe p m (n + 1)
def q_al (can : Nat → Nat → Nat → Bool) (gn : Nat → Nat → Int32) (pe k : Nat) : Nat → List (Nat × Int32)
  | 0 => []
  | p + 1 => q_al can gn pe k p ++ q_szs can gn pe p (k - 1) 2
def q_M0 (rg : Nat → Nat) : q_Mt := (fun _ => (-1000000), rg, 0, 0)
theorem q_mo_0 (rg : Nat → Nat) : q_mo (q_M0 rg) := by
  refine ⟨?_, fun s hs => absurd rfl hs, (show 0 < 1024 by decide), fun i hi => absurd hi (Nat.not_lt_zero i)⟩
  have : ∀ n, q_cnt (fun s => decide (¬ (q_M0 rg).1 s = (-1000000))) n = 0 := by
    intro n
    induction n with
    | zero => rfl
    | succ n ih =>
      show q_cnt _ n + (if decide (¬ (-1000000 : Int32) = (-1000000)) = true then 1 else 0) = 0
      rw [ih]
      decide
  exact (this 1024).symm
/-- whatever has a score stands among the rings -/
def q_mr (M : q_Mt) : Prop := ∀ s, ¬ M.1 s = (-1000000) → ∃ i, i < M.2.2.1 ∧ M.2.1 i = s
theorem q_mr_nt {M : q_Mt} {o : Nat × Int32} (h : q_mr M) : q_mr (q_nt M o) := by
  obtain ⟨t, v⟩ := o
  intro s hs
  by_cases z : M.1 t = (-1000000)
  · rw [q_nt_t z] at hs ⊢
    dsimp only at hs ⊢
    by_cases w : s = t
    · exact ⟨M.2.2.1, by omega, by rw [va_up_self, w]⟩
    · rw [va_up_ne _ _ w] at hs
      obtain ⟨i, h1, h2⟩ := h s hs
      exact ⟨i, by omega, by rw [va_up_ne _ _ (by omega)]; exact h2⟩
  · rw [q_nt_f z] at hs ⊢
    dsimp only at hs ⊢
    by_cases w : s = t
    · rw [w]
      exact h t z
    · rw [va_up_ne _ _ w] at hs
      exact h s hs
theorem q_mr_f : ∀ (l : List (Nat × Int32)) (M : q_Mt), q_mr M → q_mr (l.foldl q_nt M)
  | [], _, h => h
  | o :: l, M, h => q_mr_f l _ (q_mr_nt h)
theorem q_mr_0 (rg : Nat → Nat) : q_mr (q_M0 rg) := fun s hs => absurd rfl hs
abbrev kFr : List (Nat × Option Nat) := (171, none) :: kEx
def rXm (σ : qx_S) (S : qS) (rf : Option qR) (ly : Option (Nat × Nat)) (e k : Nat) : Prop := cI σ S rf e ∧ gA σ S rf ly ∧ (∀ n, 2 ≤ n → n ≤ k → oA σ S rf ly n) ∧ qx_mi σ 160 17 = nI k
theorem rXm.fr {σ s : qx_S} {S : qS} {rf : Option qR} {ly : Option (Nat × Nat)} {e k : Nat} (h : rXm σ S rf ly e k) (f : ql kFr σ s) : rXm s S rf ly e k := ⟨h.1.fr f rfl rfl, h.2.1.fr f (fun _ => rfl), fun n h1 h2 => (h.2.2.1 n h1 h2).fr f (fun _ => rfl), (f.i _ _ rfl).trans h.2.2.2⟩
theorem l_frs {G : qx_G} {σ0 : qx_S} {S : qS} {rf : Option qR} {ly : Option (Nat × Nat)} {e k p : Nat} {T : q_Mt} (hk : k ≤ 4) (hp : p < s_n S 1) {fr : Nat → Int32} {Φ : qx_F} (key : ∀ s, rXm s S rf ly e k → mR s T → q_mo T → ql kFr σ0 s → (∀ j, qx_mi s 171 j = fr j) → qx_K G qc_T 6 RX3 YX3_findRings 98 [.ref 160, .int (nI p), .retAddr 0] [] s Φ) : ∀ (m n : Nat) (σ : qx_S) (N : q_Mt), m + n = k + 1 → 2 ≤ n → rXm σ S rf ly e k → mR σ N → q_mo N → ql kFr σ0 σ → (∀ j, qx_mi σ 171 j = fr j) → qx_mi σ 173 0 = nI p → (q_szs (q_cn S rf ly) (q_gn S rf ly) (s_n S 1) p m n).foldl q_nt N = T → qx_K G qc_T 6 RX3 YX3_findRings 74 [.ref 160, .int (nI p), .int (nI n)] [] σ Φ := by
  intro m
  induction m with
  | zero =>
    intro n σ N hm h2 hX hR hM hf h1 h0 hT
    have hT : N = T := hT
    rw [hT] at hR hM
    refine qy_wp_ok (c := CX3_findRings) (cuts := [74, 98]) vX3_findRings wX3_findRings 2000 74 _ _ _ ?_
    refine And.intro rfl (Exists.intro 17 (Exists.intro (nI k) (And.intro rfl (And.intro hX.2.2.2 ?_))))
    refine And.intro (fun h79 => ?_) (fun h79 => ?_)
    · skip
      have h79 := nI_ltT (a := k) (b := n) (by omega) (by omega) h79
      refine qx_K_le (ls := [.ref 160, .int (nI p), .retAddr 0]) ⟨Or.inr rfl, Or.inr rfl, Or.inl rfl, trivial⟩ ?_
      exact key _ hX hR hM hf h1
    · skip
      have h79 := nI_ltF (a := k) (b := n) (by omega) (by omega) h79
      exact absurd h79 (by omega)
  | succ m ih =>
    intro n σ N hm h2 hX hR hM hf h1 h0 hT
    have hpe := hX.1.1.pe
    have hp2 : 2 ^ p < 1024 := Nat.pow_lt_pow_right (n := 10) (by decide) (by omega)
    have b0 : q_sB 1 0 := ⟨by decide, by decide⟩
    have call := c_extend (G := G) (size := n) (p0 := p) (by omega) hp (n - 1) 1 p (2 ^ p) 0 σ N (by omega) (by omega) ⟨hX.1, hX.2.1, hX.2.2.1 n h2 (by omega), h0⟩ hR hM h0 hp hp2 b0
    rw [show n - 1 + 1 = n by omega] at call
    have hT : (q_szs (q_cn S rf ly) (q_gn S rf ly) (s_n S 1) p m (n + 1)).foldl q_nt ((q_xl (q_cn S rf ly n) (q_gn S rf ly) (s_n S 1) p n (n - 1) p (2 ^ p) 0).foldl q_nt N) = T := by
      rw [← hT, ← List.foldl_append]
      rfl
    refine qy_wp_ok (c := CX3_findRings) (cuts := [74, 98]) vX3_findRings wX3_findRings 2000 74 _ _ _ ?_
    refine And.intro rfl (Exists.intro 17 (Exists.intro (nI k) (And.intro rfl (And.intro hX.2.2.2 ?_))))
    refine And.intro (fun h79 => ?_) (fun h79 => ?_)
    · skip
      have h79 := nI_ltT (a := k) (b := n) (by omega) (by omega) h79
      exact absurd h79 (by omega)
    · skip
      have h79 := nI_ltF (a := k) (b := n) (by omega) (by omega) h79
      refine Exists.intro (nI 1) (And.intro rfl ?_)
      refine Exists.intro (nI 1) (And.intro rfl ?_)
      refine Exists.intro (nI (2 ^ p)) (And.intro (nI_sh1 (by omega)) ?_)
      refine Exists.intro (nI 0) (And.intro rfl ?_)
      refine And.intro rfl (Exists.intro _ (And.intro (by omega) (qx_M_mono (call) ?_)))
      rintro _ ρ ⟨rfl, fρ, rρ, mρ, jρ⟩
      refine Exists.intro (nI (n + 1)) (And.intro (nI_add _ _) ?_)
      exact ih (n + 1) _ _ (by omega) (by omega) (hX.fr (fρ.mn rfl)) rρ mρ (hf.tr (fρ.mn rfl)) (fun j => (fρ.i _ _ rfl).trans (h1 j)) ((jρ 0 (by omega)).trans h0) hT
theorem l_frp {G : qx_G} {σ0 : qx_S} {S : qS} {rf : Option qR} {ly : Option (Nat × Nat)} {e k : Nat} {rg : Nat → Nat} (h2 : 2 ≤ k) (hk : k ≤ 4) : ∀ (m p : Nat) (σ : qx_S), m + p = s_n S 1 → rXm σ S rf ly e k → mR σ ((q_al (q_cn S rf ly) (q_gn S rf ly) (s_n S 1) k p).foldl q_nt (q_M0 rg)) → q_mo ((q_al (q_cn S rf ly) (q_gn S rf ly) (s_n S 1) k p).foldl q_nt (q_M0 rg)) → ql kFr σ0 σ → (∀ q, q < p → qx_mi σ 171 q = nI ((q_al (q_cn S rf ly) (q_gn S rf ly) (s_n S 1) k q).foldl q_nt (q_M0 rg)).2.2.1) → qx_K G qc_T 6 RX3 YX3_findRings 41 [.ref 160, .int (nI p), .retAddr 0] [] σ (fun r s => r = none ∧ ql kFr σ0 s ∧ rXm s S rf ly e k ∧ mR s ((q_al (q_cn S rf ly) (q_gn S rf ly) (s_n S 1) k (s_n S 1)).foldl q_nt (q_M0 rg)) ∧ q_mo ((q_al (q_cn S rf ly) (q_gn S rf ly) (s_n S 1) k (s_n S 1)).foldl q_nt (q_M0 rg)) ∧ ∀ q, q ≤ s_n S 1 → qx_mi s 171 q = nI ((q_al (q_cn S rf ly) (q_gn S rf ly) (s_n S 1) k q).foldl q_nt (q_M0 rg)).2.2.1) := by
  intro m
  induction m with
  | zero =>
    intro p σ hm hX hR hM hf h1
    have hpe := hX.1.1.pe
    have e5 := hX.1.2.1.1.2.1.trans hX.1.1.1.2.1.2.1.1
    obtain rfl : p = s_n S 1 := by omega
    obtain ⟨T, eT⟩ : ∃ T, T = (q_al (q_cn S rf ly) (q_gn S rf ly) (s_n S 1) k (s_n S 1)).foldl q_nt (q_M0 rg) := ⟨_, rfl⟩
    rw [← eT] at hR hM ⊢
    refine qy_wp_ok (c := CX3_findRings) (cuts := [41, 74]) vX3_findRings wX3_findRings 2000 41 _ _ _ ?_
    refine And.intro rfl (Exists.intro 156 (And.intro rfl ?_))
    refine And.intro rfl (Exists.intro 16 (And.intro rfl ?_))
    refine And.intro rfl (Exists.intro 5 (Exists.intro (nI (s_n S 1)) (And.intro rfl (And.intro e5 ?_))))
    refine And.intro (fun h52 => ?_) (fun h52 => ?_)
    · skip
      have h52 := nI_leT (a := s_n S 1) (b := s_n S 1) (by omega) (by omega) h52
      refine And.intro rfl (Exists.intro 171 (And.intro rfl ?_))
      refine And.intro rfl (Exists.intro 156 (And.intro rfl ?_))
      refine And.intro rfl (Exists.intro 16 (And.intro rfl ?_))
      refine And.intro rfl (Exists.intro 5 (Exists.intro (nI (s_n S 1)) (And.intro rfl (And.intro e5 ?_))))
      refine And.intro rfl (Exists.intro 15 (Exists.intro (nI T.2.2.1) (And.intro rfl (And.intro hR.2.2.1 ?_))))
      obtain ⟨σ1, eσ1⟩ : ∃ zs, zs = (qx_wi σ 171 (s_n S 1) (nI T.2.2.1)) := ⟨_, rfl⟩
      have fσ1 := qn_wi eσ1
      refine Exists.intro (s_n S 1) (Exists.intro σ1 (And.intro rfl (And.intro ⟨11, rfl, by omega, by decide⟩ (And.intro eσ1.symm ?_))))
      refine ⟨rfl, hf.tr (fσ1.mn rfl), hX.fr (fσ1.mn rfl), hR.fr fσ1 (fun _ => rfl) (fun _ => rfl) rfl rfl, hM, fun q hq => ?_⟩
      by_cases z : q = s_n S 1
      · rw [z, ← eT]; exact qn_eq eσ1
      · exact (qn_ne eσ1 (Or.inr z)).trans (h1 q (by omega))
    · skip
      have h52 := nI_leF (a := s_n S 1) (b := s_n S 1) (by omega) (by omega) h52
      exact absurd h52 (by omega)
  | succ m ih =>
    intro p σ hm hX hR hM hf h1
    have hpe := hX.1.1.pe
    have e5 := hX.1.2.1.1.2.1.trans hX.1.1.1.2.1.2.1.1
    have eal : (q_al (q_cn S rf ly) (q_gn S rf ly) (s_n S 1) k (p + 1)).foldl q_nt (q_M0 rg) = (q_szs (q_cn S rf ly) (q_gn S rf ly) (s_n S 1) p (k - 1) 2).foldl q_nt ((q_al (q_cn S rf ly) (q_gn S rf ly) (s_n S 1) k p).foldl q_nt (q_M0 rg)) := List.foldl_append ..
    obtain ⟨N, eN⟩ : ∃ N, N = (q_al (q_cn S rf ly) (q_gn S rf ly) (s_n S 1) k p).foldl q_nt (q_M0 rg) := ⟨_, rfl⟩
    rw [← eN] at hR hM eal
    have hcn : N.2.2.1 ≤ 1024 := by rw [hM.1]; exact q_cnt_le _ _
    have k98 : ∀ fr : Nat → Int32, (∀ q, q < p + 1 → fr q = nI ((q_al (q_cn S rf ly) (q_gn S rf ly) (s_n S 1) k q).foldl q_nt (q_M0 rg)).2.2.1) → ∀ s, rXm s S rf ly e k → mR s ((q_al (q_cn S rf ly) (q_gn S rf ly) (s_n S 1) k (p + 1)).foldl q_nt (q_M0 rg)) → q_mo ((q_al (q_cn S rf ly) (q_gn S rf ly) (s_n S 1) k (p + 1)).foldl q_nt (q_M0 rg)) → ql kFr σ0 s → (∀ j, qx_mi s 171 j = fr j) → qx_K G qc_T 6 RX3 YX3_findRings 98 [.ref 160, .int (nI p), .retAddr 0] [] s (fun r s => r = none ∧ ql kFr σ0 s ∧ rXm s S rf ly e k ∧ mR s ((q_al (q_cn S rf ly) (q_gn S rf ly) (s_n S 1) k (s_n S 1)).foldl q_nt (q_M0 rg)) ∧ q_mo ((q_al (q_cn S rf ly) (q_gn S rf ly) (s_n S 1) k (s_n S 1)).foldl q_nt (q_M0 rg)) ∧ ∀ q, q ≤ s_n S 1 → qx_mi s 171 q = nI ((q_al (q_cn S rf ly) (q_gn S rf ly) (s_n S 1) k q).foldl q_nt (q_M0 rg)).2.2.1) := by
      intro fr hfr s i1 r1 m1 f1 c1
      refine qy_wp_ok (c := CX3_findRings) (cuts := [41]) vX3_findRings wX3_findRings 2000 98 _ _ _ ?_
      refine Exists.intro (nI (p + 1)) (And.intro (nI_add _ _) ?_)
      exact ih (p + 1) _ (by omega) i1 r1 m1 f1 (fun q hq => (c1 q).trans (hfr q hq))
    have fin : ∀ s1 s2, s1 = qx_wi σ 171 p (nI N.2.2.1) → s2 = qx_wi s1 173 0 (nI p) → (∀ q, q < p + 1 → qx_mi s2 171 q = nI ((q_al (q_cn S rf ly) (q_gn S rf ly) (s_n S 1) k q).foldl q_nt (q_M0 rg)).2.2.1) := by
      intro s1 s2 e1 e2 q hq
      refine (qn_ne e2 (Or.inl (by decide))).trans ?_
      by_cases z : q = p
      · rw [z, ← eN]; exact qn_eq e1
      · exact (qn_ne e1 (Or.inr z)).trans (h1 q (by omega))
    refine qy_wp_ok (c := CX3_findRings) (cuts := [41, 74]) vX3_findRings wX3_findRings 2000 41 _ _ _ ?_
    refine And.intro rfl (Exists.intro 156 (And.intro rfl ?_))
    refine And.intro rfl (Exists.intro 16 (And.intro rfl ?_))
    refine And.intro rfl (Exists.intro 5 (Exists.intro (nI (s_n S 1)) (And.intro rfl (And.intro e5 ?_))))
    refine And.intro (fun h52 => ?_) (fun h52 => ?_)
    · skip
      have h52 := nI_leT (a := s_n S 1) (b := p) (by omega) (by omega) h52
      exact absurd h52 (by omega)
    · skip
      have h52 := nI_leF (a := s_n S 1) (b := p) (by omega) (by omega) h52
      refine And.intro rfl (Exists.intro 171 (And.intro rfl ?_))
      refine And.intro rfl (Exists.intro 15 (Exists.intro (nI N.2.2.1) (And.intro rfl (And.intro hR.2.2.1 ?_))))
      obtain ⟨σ1, eσ1⟩ : ∃ zs, zs = (qx_wi σ 171 p (nI N.2.2.1)) := ⟨_, rfl⟩
      have fσ1 := qn_wi eσ1
      refine Exists.intro (p) (Exists.intro σ1 (And.intro rfl (And.intro ⟨11, rfl, by omega, by decide⟩ (And.intro eσ1.symm ?_))))
      refine And.intro rfl (Exists.intro 173 (And.intro rfl ?_))
      refine Exists.intro (nI 0) (And.intro rfl ?_)
      obtain ⟨σ2, eσ2⟩ : ∃ zs, zs = (qx_wi σ1 173 0 (nI p)) := ⟨_, rfl⟩
      have fσ2 := qn_wi eσ2
      refine Exists.intro (0) (Exists.intro σ2 (And.intro rfl (And.intro ⟨5, rfl, by decide, by decide⟩ (And.intro eσ2.symm ?_))))
      refine Exists.intro (nI 2) (And.intro rfl ?_)
      exact l_frs hk (by omega) (k98 (qx_mi σ2 171) (fin _ _ eσ1 eσ2)) (k - 1) 2 _ N (by omega) (by omega) (hX.fr ((fσ1.mn rfl).tr (fσ2.mn rfl))) ((hR.fr fσ1 (fun _ => rfl) (fun _ => rfl) rfl rfl).fr fσ2 (fun _ => rfl) (fun _ => rfl) rfl rfl) hM (hf.tr ((fσ1.mn rfl).tr (fσ2.mn rfl))) (fun _ => rfl) (qn_eq eσ2) eal.symm
theorem l_frr {G : qx_G} {σ0 : qx_S} {M : q_Mt} (hM : q_mo M) {Φ : qx_F} (key : ∀ s, ql [(169, none)] σ0 s → (∀ t, t < 1024 → qx_mi s 169 t = (-1000000)) → qx_K G qc_T 6 RX3 YX3_findRings 29 [.ref 160, .retAddr 0, .retAddr 0] [] s Φ) : ∀ (m k : Nat) (σ : qx_S), m + k = M.2.2.1 → ql [(169, none)] σ0 σ → (∀ i, i < M.2.2.1 → qx_mi σ 170 i = nI (M.2.1 i)) → qx_mi σ 160 15 = nI M.2.2.1 → (∀ t, t < 1024 → qx_mi σ 169 t = (-1000000) ∨ ∃ i, k ≤ i ∧ i < M.2.2.1 ∧ M.2.1 i = t) → qx_K G qc_T 6 RX3 YX3_findRings 2 [.ref 160, .int (nI k), .retAddr 0] [] σ Φ := by
  have hle : M.2.2.1 ≤ 1024 := by rw [hM.1]; exact q_cnt_le _ _
  intro m
  induction m with
  | zero =>
    intro k σ hm hf h1 h2 h3
    obtain rfl : k = M.2.2.1 := by omega
    refine qy_wp_ok (c := CX3_findRings) (cuts := [2, 29]) vX3_findRings wX3_findRings 2000 2 _ _ _ ?_
    refine And.intro rfl (Exists.intro 15 (Exists.intro (nI M.2.2.1) (And.intro rfl (And.intro h2 ?_))))
    refine And.intro (fun h7 => ?_) (fun h7 => ?_)
    · skip
      have h7 := nI_leT (a := M.2.2.1) (b := M.2.2.1) (by omega) (by omega) h7
      refine qx_K_le (ls := [.ref 160, .retAddr 0, .retAddr 0]) ⟨Or.inr rfl, Or.inl rfl, Or.inr rfl, trivial⟩ ?_
      exact key _ hf (fun t ht => (h3 t ht).elim id (fun ⟨i, a, b, _⟩ => absurd a (by omega)))
    · skip
      have h7 := nI_leF (a := M.2.2.1) (b := M.2.2.1) (by omega) (by omega) h7
      exact absurd h7 (by omega)
  | succ m ih =>
    intro k σ hm hf h1 h2 h3
    have hk := hM.2.2.2 k (by omega)
    have hk1 := hk.1
    refine qy_wp_ok (c := CX3_findRings) (cuts := [2, 29]) vX3_findRings wX3_findRings 2000 2 _ _ _ ?_
    refine And.intro rfl (Exists.intro 15 (Exists.intro (nI M.2.2.1) (And.intro rfl (And.intro h2 ?_))))
    refine And.intro (fun h7 => ?_) (fun h7 => ?_)
    · skip
      have h7 := nI_leT (a := M.2.2.1) (b := k) (by omega) (by omega) h7
      exact absurd h7 (by omega)
    · skip
      have h7 := nI_leF (a := M.2.2.1) (b := k) (by omega) (by omega) h7
      refine And.intro rfl (Exists.intro 169 (And.intro rfl ?_))
      refine And.intro rfl (Exists.intro 170 (And.intro rfl ?_))
      refine Exists.intro (k) (Exists.intro (nI (M.2.1 k)) (And.intro rfl (And.intro ⟨1024, rfl, by omega, by decide⟩ (And.intro (h1 k (by omega)) ?_))))
      refine Exists.intro ((-1000000)) (And.intro (by decide) ?_)
      obtain ⟨σ1, eσ1⟩ : ∃ zs, zs = (qx_wi σ 169 (M.2.1 k) (-1000000)) := ⟨_, rfl⟩
      have fσ1 := qn_wi eσ1
      refine Exists.intro (M.2.1 k) (Exists.intro σ1 (And.intro rfl (And.intro ⟨1024, rfl, by omega, by decide⟩ (And.intro eσ1.symm ?_))))
      refine Exists.intro (nI (k + 1)) (And.intro (nI_add _ _) ?_)
      refine ih (k + 1) _ (by omega) (hf.tr fσ1) (fun i hi => (fσ1.i _ _ rfl).trans (h1 i hi)) ((fσ1.i _ _ rfl).trans h2) (fun t ht => ?_)
      by_cases z : t = M.2.1 k
      · rw [z]; exact Or.inl (qn_eq eσ1)
      · rcases h3 t ht with w | ⟨i, a, b, c⟩
        · exact Or.inl ((qn_ne eσ1 (Or.inr z)).trans w)
        · exact Or.inr ⟨i, Nat.lt_of_le_of_ne a (fun y => z (by rw [← c, y])), b, c⟩
theorem c_findRings {G : qx_G} {σ : qx_S} {S : qS} {rf : Option qR} {ly : Option (Nat × Nat)} {e k : Nat} {M : q_Mt} (h2 : 2 ≤ k) (hk : k ≤ 4) (hX : rXm σ S rf ly e k) (hR : mR σ M) (hM : q_mo M) (hr : q_mr M) : qx_M G qc_T 6 YX3_findRings [.ref 160] σ (fun r s => r = none ∧ ql kFr σ s ∧ rXm s S rf ly e k ∧ ∃ rg, mR s ((q_al (q_cn S rf ly) (q_gn S rf ly) (s_n S 1) k (s_n S 1)).foldl q_nt (q_M0 rg)) ∧ q_mo ((q_al (q_cn S rf ly) (q_gn S rf ly) (s_n S 1) k (s_n S 1)).foldl q_nt (q_M0 rg)) ∧ ∀ q, q ≤ s_n S 1 → qx_mi s 171 q = nI ((q_al (q_cn S rf ly) (q_gn S rf ly) (s_n S 1) k q).foldl q_nt (q_M0 rg)).2.2.1) := by
  have k29 : ∀ s, ql [(169, none)] σ s → (∀ t, t < 1024 → qx_mi s 169 t = (-1000000)) → qx_K G qc_T 6 RX3 YX3_findRings 29 [.ref 160, .retAddr 0, .retAddr 0] [] s (fun r s => r = none ∧ ql kFr σ s ∧ rXm s S rf ly e k ∧ ∃ rg, mR s ((q_al (q_cn S rf ly) (q_gn S rf ly) (s_n S 1) k (s_n S 1)).foldl q_nt (q_M0 rg)) ∧ q_mo ((q_al (q_cn S rf ly) (q_gn S rf ly) (s_n S 1) k (s_n S 1)).foldl q_nt (q_M0 rg)) ∧ ∀ q, q ≤ s_n S 1 → qx_mi s 171 q = nI ((q_al (q_cn S rf ly) (q_gn S rf ly) (s_n S 1) k q).foldl q_nt (q_M0 rg)).2.2.1) := by
    intro s f1 c1
    refine qy_wp_ok (c := CX3_findRings) (cuts := [41]) vX3_findRings wX3_findRings 2000 29 _ _ _ ?_
    refine Exists.intro (nI 0) (And.intro rfl ?_)
    obtain ⟨σ1, eσ1⟩ : ∃ zs, zs = (qx_wi s 160 15 (nI 0)) := ⟨_, rfl⟩
    have fσ1 := qn_wif eσ1
    refine And.intro rfl (Exists.intro 15 (Exists.intro σ1 (And.intro rfl (And.intro eσ1.symm ?_))))
    refine Exists.intro (nI 0) (And.intro rfl ?_)
    obtain ⟨σ2, eσ2⟩ : ∃ zs, zs = (qx_wi σ1 160 16 (nI 0)) := ⟨_, rfl⟩
    have fσ2 := qn_wif eσ2
    refine And.intro rfl (Exists.intro 16 (Exists.intro σ2 (And.intro rfl (And.intro eσ2.symm ?_))))
    refine Exists.intro (nI 0) (And.intro rfl ?_)
    refine qx_K_mono (l_frp (σ0 := σ) (rg := M.2.1) h2 hk (s_n S 1) 0 _ (by omega) (hX.fr ((f1.mn rfl).tr ((fσ1.mn rfl).tr (fσ2.mn rfl)))) ?_ (q_mo_0 _) ((f1.mn rfl).tr ((fσ1.mn rfl).tr (fσ2.mn rfl))) (fun q hq => absurd hq (Nat.not_lt_zero q))) (fun r z h => ⟨h.1, h.2.1, h.2.2.1, M.2.1, h.2.2.2⟩)
    exact ⟨fun t ht => (fσ2.i _ _ rfl).trans ((fσ1.i _ _ rfl).trans (c1 t ht)), fun i hi => absurd hi (Nat.not_lt_zero i), (fσ2.i _ _ rfl).trans (qn_eq eσ1), qn_eq eσ2⟩
  refine qx_M_in rfl (Nat.le_of_ble_eq_true rfl) ?_
  refine qy_wp_ok (c := CX3_findRings) (cuts := [2]) vX3_findRings wX3_findRings 2000 0 _ _ _ ?_
  refine Exists.intro (nI 0) (And.intro rfl ?_)
  refine l_frr hM k29 M.2.2.1 0 _ (by omega) qf.rf hR.2.1 hR.2.2.1 (fun t ht => ?_)
  by_cases z : M.1 t = (-1000000)
  · exact Or.inl ((hR.1 t ht).trans z)
  · obtain ⟨i, a, b⟩ := hr t z
    exact Or.inr ⟨i, Nat.zero_le _, a, b⟩

