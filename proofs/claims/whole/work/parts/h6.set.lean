/-! THE CLASS: MOST is settled -/
def cMt (σ : qx_S) : Prop := ∃ M, mR σ M ∧ q_mo M ∧ q_mr M
abbrev kMo : List (Nat × Option Nat) := [(160, some 15), (160, some 16), (160, some 17), (160, some 18), (161, none), (165, none), (166, none), (167, none), (168, none), (169, none), (170, none), (171, none), (172, none), (173, none), (158, none), (159, none)]
theorem cUb.fr {σ s : qx_S} {S : qS} {rf : Option qR} {e : Nat} {l : List (Nat × Option Nat)} (h : cUb σ S rf e) (f : ql l σ s) (h1 : ∀ j, pL l 165 j = false) (h2 : ∀ j, pL l 166 j = false) : cUb s S rf e := fun n a b => by
  obtain ⟨eu, u1, u2, u3⟩ := h n a b
  exact ⟨eu, (f.i _ _ (h2 _)).trans u1, u2, fun z a ha => (f.i _ _ (h1 _)).trans (u3 z a ha)⟩
theorem cMt.fr {σ s : qx_S} {l : List (Nat × Option Nat)} (h : cMt σ) (f : ql l σ s) (h1 : ∀ j, pL l 169 j = false) (h2 : ∀ j, pL l 170 j = false) (h3 : pL l 160 15 = false) (h4 : pL l 160 16 = false) : cMt s := by
  obtain ⟨M, a, b⟩ := h
  exact ⟨M, a.fr f h1 h2 h3 h4, b⟩
theorem l_set {G : qx_G} {σ0 : qx_S} {S : qS} {rf : Option qR} {ly : Option (Nat × Nat)} {e k : Nat} (hk : k ≤ 4) {Φ : qx_F} (key : ∀ s, cI s S rf e → cUb s S rf e → cMt s → gA s S rf ly → (∀ n, 2 ≤ n → n ≤ k → oA s S rf ly n) → qx_mi s 160 17 = nI k → qx_mi s 160 18 = nI 0 → ql kMo σ0 s → qx_K G qc_T 7 RX3 YX3_settle 49 [.ref 160, .retAddr 0, .retAddr 0, .retAddr 0] [] s Φ) : ∀ (m n : Nat) (σ : qx_S), m + n = k + 1 → 2 ≤ n → cI σ S rf e → cUb σ S rf e → cMt σ → gA σ S rf ly → (∀ n', 2 ≤ n' → n' < n → oA σ S rf ly n') → qx_mi σ 160 17 = nI k → qx_mi σ 160 18 = nI 0 → ql kMo σ0 σ → qx_K G qc_T 7 RX3 YX3_settle 25 [.ref 160, .retAddr 0, .retAddr 0, .int (nI n)] [] σ Φ := by
  intro m
  induction m with
  | zero =>
    intro n σ hm h2 hI hU hM hg ho h17 h18 hf
    refine qy_wp_ok (c := CX3_settle) (cuts := [25, 49]) vX3_settle wX3_settle 2000 25 _ _ _ ?_
    refine And.intro rfl (Exists.intro 17 (Exists.intro (nI k) (And.intro rfl (And.intro h17 ?_))))
    refine And.intro (fun h30 => ?_) (fun h30 => ?_)
    · skip
      have h30 := nI_ltT (a := k) (b := n) (by omega) (by omega) h30
      refine qx_K_le (ls := [.ref 160, .retAddr 0, .retAddr 0, .retAddr 0]) ⟨Or.inr rfl, Or.inr rfl, Or.inr rfl, Or.inl rfl, trivial⟩ ?_
      exact key _ hI hU hM hg (fun n' a b => ho n' a (by omega)) h17 h18 hf
    · skip
      have h30 := nI_ltF (a := k) (b := n) (by omega) (by omega) h30
      exact absurd h30 (by omega)
  | succ m ih =>
    intro n σ hm h2 hI hU hM hg ho h17 h18 hf
    have hpe := hI.1.pe
    have ou : ∀ s1 s2, ql kUb σ s1 → ql [(167, none)] s1 s2 → (∀ j, j / 10 ≠ n → qx_mi s2 167 j = qx_mi s1 167 j) → oA s2 S rf ly n → ∀ n', 2 ≤ n' → n' < n + 1 → oA s2 S rf ly n' := by
      intro s1 s2 f1 f2 h3 h4 n' h5 h6
      by_cases z : n' = n
      · rw [z]; exact h4
      · intro a ha
        obtain ⟨w, w1, w2, w3⟩ := ho n' h5 (by omega) a ha
        exact ⟨w, w1, (h3 _ (by omega)).trans ((f1.i _ _ rfl).trans w2), w3⟩
    refine qy_wp_ok (c := CX3_settle) (cuts := [25, 49]) vX3_settle wX3_settle 2000 25 _ _ _ ?_
    refine And.intro rfl (Exists.intro 17 (Exists.intro (nI k) (And.intro rfl (And.intro h17 ?_))))
    refine And.intro (fun h30 => ?_) (fun h30 => ?_)
    · skip
      have h30 := nI_ltT (a := k) (b := n) (by omega) (by omega) h30
      exact absurd h30 (by omega)
    · skip
      have h30 := nI_ltF (a := k) (b := n) (by omega) (by omega) h30
      refine And.intro rfl (Exists.intro _ (And.intro (by decide) (qx_M_mono (c_findUnbarred hI hU h2 (by omega)) ?_)))
      rintro _ ρ ⟨rfl, fρ, iρ, uρ, aρ⟩
      refine And.intro rfl (Exists.intro _ (And.intro (by decide) (qx_M_mono (c_findOpen iρ (hg.fr fρ (fun _ => rfl)) aρ (by omega)) ?_)))
      rintro _ τ ⟨rfl, fτ, jτ, oτ⟩
      refine Exists.intro (nI (n + 1)) (And.intro (nI_add _ _) ?_)
      exact ih (n + 1) _ (by omega) (by omega) (iρ.fr fτ rfl rfl) (uρ.fr fτ (fun _ => rfl) (fun _ => rfl)) ((hM.fr fρ (fun _ => rfl) (fun _ => rfl) rfl rfl).fr fτ (fun _ => rfl) (fun _ => rfl) rfl rfl) ((hg.fr fρ (fun _ => rfl)).fr fτ (fun _ => rfl)) (ou _ _ fρ fτ jτ oτ) ((fτ.i _ _ rfl).trans ((fρ.i _ _ rfl).trans h17)) ((fτ.i _ _ rfl).trans ((fρ.i _ _ rfl).trans h18)) ((hf.tr (fρ.mn rfl)).tr (fτ.mn rfl))
theorem c_mostSettle {G : qx_G} {σ : qx_S} {S : qS} {rf : Option qR} {ly : Option (Nat × Nat)} {e k L : Nat} (h2 : 2 ≤ k) (hk : k ≤ 4) (hI : cI σ S rf e) (hU : cUb σ S rf e) (hM : cMt σ) (hL : L ≠ 160 ∧ L ≠ 168) (hs : qx_sh qc_T σ L = (0, 80)) (hA : lkA σ L S rf ly) : qx_M G qc_T 7 YX3_settle [.ref 160, .ref L, .int (nI k)] σ (fun r s => r = none ∧ ql kMo σ s ∧ cI s S rf e ∧ cUb s S rf e ∧ cMt s ∧ gA s S rf ly ∧ tkC s (s_n S 1) (q_tk S rf ly k) ∧ qx_mi s 160 17 = nI k ∧ qx_mi s 160 18 = nI 0) := by
  have k49 : ∀ s, cI s S rf e → cUb s S rf e → cMt s → gA s S rf ly → (∀ n, 2 ≤ n → n ≤ k → oA s S rf ly n) → qx_mi s 160 17 = nI k → qx_mi s 160 18 = nI 0 → ql kMo σ s → qx_K G qc_T 7 RX3 YX3_settle 49 [.ref 160, .retAddr 0, .retAddr 0, .retAddr 0] [] s (fun r s => r = none ∧ ql kMo σ s ∧ cI s S rf e ∧ cUb s S rf e ∧ cMt s ∧ gA s S rf ly ∧ tkC s (s_n S 1) (q_tk S rf ly k) ∧ qx_mi s 160 17 = nI k ∧ qx_mi s 160 18 = nI 0) := by
    intro s i1 u1 m1 g1 o1 a17 a18 f1
    obtain ⟨M, n1, n2, n3⟩ := m1
    have bx : ∀ s' rg, rXm s' S rf ly e k → mR s' ((q_al (q_cn S rf ly) (q_gn S rf ly) (s_n S 1) k (s_n S 1)).foldl q_nt (q_M0 rg)) → q_mo ((q_al (q_cn S rf ly) (q_gn S rf ly) (s_n S 1) k (s_n S 1)).foldl q_nt (q_M0 rg)) → (∀ q, q ≤ s_n S 1 → qx_mi s' 171 q = nI ((q_al (q_cn S rf ly) (q_gn S rf ly) (s_n S 1) k q).foldl q_nt (q_M0 rg)).2.2.1) → bX s' S rf ly e k rg ((q_al (q_cn S rf ly) (q_gn S rf ly) (s_n S 1) k (s_n S 1)).foldl q_nt (q_M0 rg)) := fun s' rg a b c d => ⟨a, rfl, b, c, d, h2, hk⟩
    refine qy_wp_ok (c := CX3_settle) (cuts := []) vX3_settle wX3_settle 2000 49 _ _ _ ?_
    refine And.intro rfl (Exists.intro _ (And.intro (by decide) (qx_M_mono (c_findRings h2 hk ⟨i1, g1, o1, a17⟩ n1 n2 n3) ?_)))
    rintro _ ρ ⟨rfl, fρ, xρ, rg, rρ, mρ, cρ⟩
    refine And.intro rfl (Exists.intro _ (And.intro (by decide) (qx_M_mono (c_findBest (bx _ rg xρ rρ mρ cρ)) ?_)))
    rintro _ τ ⟨rfl, fτ, bτ, kτ⟩
    refine And.intro rfl (Exists.intro _ (And.intro (by decide) (qx_M_mono (c_choose bτ kτ) ?_)))
    rintro _ μ ⟨rfl, fμ, bμ, tμ⟩
    exact ⟨rfl, ((f1.tr (fρ.mn rfl)).tr (fτ.mn rfl)).tr (fμ.mn rfl), bμ.1.1, ((u1.fr fρ (fun _ => rfl) (fun _ => rfl)).fr fτ (fun _ => rfl) (fun _ => rfl)).fr fμ (fun _ => rfl) (fun _ => rfl), ⟨_, bμ.2.2.1, bμ.2.2.2.1, q_mr_f _ _ (q_mr_0 rg)⟩, bμ.1.2.1, tμ, bμ.1.2.2.2, (fμ.i _ _ rfl).trans ((fτ.i _ _ rfl).trans ((fρ.i _ _ rfl).trans a18))⟩
  have em : (if nI k < nI 4 then nI k else nI 4) = nI k := by
    by_cases z : k < 4
    · rw [if_pos ((nI_ltI (by omega) (by decide)).mpr z)]
    · rw [if_neg (fun w => z ((nI_ltI (by omega) (by decide)).mp w)), show k = 4 by omega]
  have ex : (if nI 2 < nI k then nI k else nI 2) = nI k := by
    by_cases z : 2 < k
    · rw [if_pos ((nI_ltI (by decide) (by omega)).mpr z)]
    · rw [if_neg (fun w => z ((nI_ltI (by decide) (by omega)).mp w)), show k = 2 by omega]
  have st : ∀ s1 s2 s3, ql [(160, some 18)] σ s1 → ql [(160, some 17)] s1 s2 → ql [(168, none)] s2 s3 → cI s3 S rf e ∧ cUb s3 S rf e ∧ cMt s3 ∧ ql kMo σ s3 := fun s1 s2 s3 f1 f2 f3 => ⟨((hI.fr f1 rfl rfl).fr f2 rfl rfl).fr f3 rfl rfl, ((hU.fr f1 (fun _ => rfl) (fun _ => rfl)).fr f2 (fun _ => rfl) (fun _ => rfl)).fr f3 (fun _ => rfl) (fun _ => rfl), ((hM.fr f1 (fun _ => rfl) (fun _ => rfl) rfl rfl).fr f2 (fun _ => rfl) (fun _ => rfl) rfl rfl).fr f3 (fun _ => rfl) (fun _ => rfl) rfl rfl, (f1.mn rfl).tr ((f2.mn rfl).tr (f3.mn rfl))⟩
  refine qx_M_in rfl (Nat.le_of_ble_eq_true rfl) ?_
  refine qy_wp_ok (c := CX3_settle) (cuts := [25]) vX3_settle wX3_settle 2000 0 _ _ _ ?_
  refine Exists.intro (nI 0) (And.intro rfl ?_)
  obtain ⟨σ1, eσ1⟩ : ∃ zs, zs = (qx_wi σ 160 18 (nI 0)) := ⟨_, rfl⟩
  have fσ1 := qn_wif eσ1
  refine And.intro rfl (Exists.intro 18 (Exists.intro σ1 (And.intro rfl (And.intro eσ1.symm ?_))))
  refine Exists.intro (nI 2) (And.intro rfl ?_)
  refine Exists.intro (nI 4) (And.intro rfl ?_)
  refine Exists.intro (nI k) (And.intro em ?_)
  refine Exists.intro (nI k) (And.intro ex ?_)
  obtain ⟨σ2, eσ2⟩ : ∃ zs, zs = (qx_wi σ1 160 17 (nI k)) := ⟨_, rfl⟩
  have fσ2 := qn_wif eσ2
  refine And.intro rfl (Exists.intro 17 (Exists.intro σ2 (And.intro rfl (And.intro eσ2.symm ?_))))
  have eP := eσ2
  have fP := fσ2
  refine And.intro rfl (Exists.intro _ (And.intro (by decide) (qx_M_mono (c_countGains ((hI.fr fσ1 rfl rfl).fr fσ2 rfl rfl) hL.2 ((fσ2.s _).trans ((fσ1.s _).trans hs)) ((hA.fr fσ1 (fun j => pL_ne (by simp; omega))).fr fσ2 (fun j => pL_ne (by simp; omega)))) ?_)))
  rintro _ ρ ⟨rfl, fρ, gρ⟩
  refine Exists.intro (nI 2) (And.intro rfl ?_)
  refine qx_K_le (ls := [.ref 160, .retAddr 0, .retAddr 0, .int (nI 2)]) ⟨Or.inr rfl, Or.inl rfl, Or.inl rfl, Or.inr rfl, trivial⟩ ?_
  have z := st _ _ _ fσ1 fσ2 fρ
  exact l_set hk k49 (k - 1) 2 _ (by omega) (by omega) z.1 z.2.1 z.2.2.1 gρ (fun n' a b => absurd b (by omega)) ((fρ.i _ _ rfl).trans (qn_eq eσ2)) ((fρ.i _ _ rfl).trans ((fσ2.i _ _ rfl).trans (qn_eq eσ1))) z.2.2.2
/-- what is kept of MOST -/
def cMs (σ : qx_S) (S : qS) (rf : Option qR) (e : Nat) : Prop := cUb σ S rf e ∧ cMt σ ∧ ∃ ku es, ku ≤ 4 ∧ qx_mi σ 160 17 = nI ku ∧ qx_mi σ 160 18 = nI es ∧ es ≤ e ∧ (es = e → 2 ≤ ku ∧ tkC σ (s_n S 1) (q_tk S rf none ku) ∧ gA σ S rf none)
theorem c_settleOnce {G : qx_G} {σ : qx_S} {S : qS} {rf : Option qR} {e k L : Nat} (h2 : 2 ≤ k) (hk : k ≤ 4) (hI : cI σ S rf e) (hS : cMs σ S rf e) (hL : L ≠ 160 ∧ L ≠ 168) (hs : qx_sh qc_T σ L = (0, 80)) (hA : lkA σ L S rf none) : qx_M G qc_T 8 YX3_settleOnce [.ref 160, .int (nI k), .ref L] σ (fun r s => r = none ∧ ql kMo σ s ∧ cI s S rf e ∧ cMs s S rf e ∧ tkC s (s_n S 1) (q_tk S rf none k) ∧ gA s S rf none) := by
  obtain ⟨hU, hM, ku, es, k1, k2, k3, k4, k5⟩ := hS
  have he := hI.K.2.1
  have fin : ∀ s1 s2, ql kMo σ s1 → cI s1 S rf e → cUb s1 S rf e → cMt s1 → gA s1 S rf none → tkC s1 (s_n S 1) (q_tk S rf none k) → qx_mi s1 160 17 = nI k → s2 = qx_wi s1 160 18 (nI e) → ql kMo σ s2 ∧ cI s2 S rf e ∧ cMs s2 S rf e ∧ tkC s2 (s_n S 1) (q_tk S rf none k) ∧ gA s2 S rf none := by
    intro s1 s2 f1 i1 u1 m1 g1 t1 a17 e2
    have f2 := qn_wif e2
    have t2 : tkC s2 (s_n S 1) (q_tk S rf none k) := fun i hi => (f2.i _ _ rfl).trans (t1 i hi)
    have g2 := g1.fr f2 (fun _ => rfl)
    exact ⟨f1.tr (f2.mn rfl), i1.fr f2 rfl rfl, ⟨u1.fr f2 (fun _ => rfl) (fun _ => rfl), m1.fr f2 (fun _ => rfl) (fun _ => rfl) rfl rfl, k, e, hk, (f2.i _ _ rfl).trans a17, qn_eq e2, Nat.le_refl _, fun _ => ⟨h2, t2, g2⟩⟩, t2, g2⟩
  refine qx_M_in rfl (Nat.le_of_ble_eq_true rfl) ?_
  refine qy_wp_ok (c := CX3_settleOnce) (cuts := []) vX3_settleOnce wX3_settleOnce 2000 0 _ _ _ ?_
  refine And.intro rfl (Exists.intro 18 (Exists.intro (nI es) (And.intro rfl (And.intro k3 ?_))))
  refine And.intro rfl (Exists.intro 156 (And.intro rfl ?_))
  refine And.intro rfl (Exists.intro 8 (Exists.intro (nI e) (And.intro rfl (And.intro hI.K.1 ?_))))
  refine And.intro (fun h11 => ?_) (fun h11 => ?_)
  · skip
    have h11 := nI_neT (a := es) (b := e) (by omega) (by omega) h11
    refine And.intro rfl (Exists.intro _ (And.intro (by decide) (qx_M_mono (c_mostSettle h2 hk hI hU hM hL hs hA) ?_)))
    rintro _ ρ ⟨rfl, fρ, iρ, uρ, mρ, gρ, tρ, aρ, bρ⟩
    refine And.intro rfl (Exists.intro 156 (And.intro rfl ?_))
    refine And.intro rfl (Exists.intro 8 (Exists.intro (nI e) (And.intro rfl (And.intro iρ.K.1 ?_))))
    obtain ⟨σ2, eσ2⟩ : ∃ zs, zs = (qx_wi ρ 160 18 (nI e)) := ⟨_, rfl⟩
    have fσ2 := qn_wif eσ2
    refine And.intro rfl (Exists.intro 18 (Exists.intro σ2 (And.intro rfl (And.intro eσ2.symm ?_))))
    first
      | exact ⟨rfl, fin _ _ fρ iρ uρ mρ gρ tρ aρ eσ2⟩
      | exact ⟨rfl, qf.rf, hI, ⟨hU, hM, ku, es, k1, k2, k3, k4, k5⟩, by rw [← h19]; exact (k5 h11).2.1, (k5 h11).2.2⟩
  · skip
    have h11 := nI_eqT (a := es) (b := e) (by omega) (by omega) h11
    refine And.intro rfl (Exists.intro 17 (Exists.intro (nI ku) (And.intro rfl (And.intro k2 ?_))))
    refine And.intro (fun h19 => ?_) (fun h19 => ?_)
    · skip
      have h19 := nI_eqT (a := ku) (b := k) (by omega) (by omega) h19
      first
        | exact ⟨rfl, fin _ _ fρ iρ uρ mρ gρ tρ aρ eσ⟩
        | exact ⟨rfl, qf.rf, hI, ⟨hU, hM, ku, es, k1, k2, k3, k4, k5⟩, by rw [← h19]; exact (k5 h11).2.1, (k5 h11).2.2⟩
    · skip
      have h19 := nI_neT (a := ku) (b := k) (by omega) (by omega) h19
      refine And.intro rfl (Exists.intro _ (And.intro (by decide) (qx_M_mono (c_mostSettle h2 hk hI hU hM hL hs hA) ?_)))
      rintro _ ρ ⟨rfl, fρ, iρ, uρ, mρ, gρ, tρ, aρ, bρ⟩
      refine And.intro rfl (Exists.intro 156 (And.intro rfl ?_))
      refine And.intro rfl (Exists.intro 8 (Exists.intro (nI e) (And.intro rfl (And.intro iρ.K.1 ?_))))
      obtain ⟨σ2, eσ2⟩ : ∃ zs, zs = (qx_wi ρ 160 18 (nI e)) := ⟨_, rfl⟩
      have fσ2 := qn_wif eσ2
      refine And.intro rfl (Exists.intro 18 (Exists.intro σ2 (And.intro rfl (And.intro eσ2.symm ?_))))
      first
        | exact ⟨rfl, fin _ _ fρ iρ uρ mρ gρ tρ aρ eσ2⟩
        | exact ⟨rfl, qf.rf, hI, ⟨hU, hM, ku, es, k1, k2, k3, k4, k5⟩, by rw [← h19]; exact (k5 h11).2.1, (k5 h11).2.2⟩

