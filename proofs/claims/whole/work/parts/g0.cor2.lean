/-! THE CLASS: likes as they are now; CORE -/
/-- a row of likings -/
def lkA (σ : qx_S) (L : Nat) (S : qS) (rf : Option qR) (ly : Option (Nat × Nat)) : Prop := ∀ p q, p < s_n S 1 → q < s_n S 0 → qx_mi σ L (p * 8 + q) = q_ll S rf ly p (s_at S p) q
theorem lkA.fr {σ s : qx_S} {L : Nat} {S : qS} {rf : Option qR} {ly : Option (Nat × Nat)} {l : List (Nat × Option Nat)} (h : lkA σ L S rf ly) (f : ql l σ s) (hl : ∀ j, pL l L j = false) : lkA s L S rf ly := fun p q hp hq => (f.i _ _ (hl _)).trans (h p q hp hq)
def cLk (σ : qx_S) (S : qS) (rf : Option qR) (e : Nat) : Prop := ∃ el, qx_mi σ 3 16 = nI el ∧ el ≤ e ∧ (el = e → lkA σ 187 S rf none)
abbrev kLn : List (Nat × Option Nat) := (187, none) :: (3, some 16) :: kLw
theorem l_ln2 {G : qx_G} {σ0 : qx_S} {S : qS} {rf : Option qR} {e p : Nat} (hp : p < s_n S 1) {Φ : qx_F} (key : ∀ s, cI s S rf e → ql kLn σ0 s → (∀ p' q, p' < p + 1 → q < s_n S 0 → qx_mi s 187 (p' * 8 + q) = q_lk S rf p' (s_at S p') q) → qx_K G qc_T 3 RX11 YX11_likesNow 86 [.ref 3, .int (nI p), .retAddr 0, .retAddr 0] [] s Φ) : ∀ (m k : Nat) (σ : qx_S), m + k = s_n S 0 → cI σ S rf e → ql kLn σ0 σ → (∀ p' q, p' < p → q < s_n S 0 → qx_mi σ 187 (p' * 8 + q) = q_lk S rf p' (s_at S p') q) → (∀ q, q < k → qx_mi σ 187 (p * 8 + q) = q_lk S rf p (s_at S p) q) → qx_K G qc_T 3 RX11 YX11_likesNow 32 [.ref 3, .int (nI p), .int (nI k), .retAddr 0] [] σ Φ := by
  intro m
  induction m with
  | zero =>
    intro k σ hk hI hf h1 h2
    have hpl := hI.1.pl
    have e4 := hI.2.1.1.1.trans hI.1.1.2.1.1.1
    rw [show k = s_n S 0 by omega] at h2 ⊢
    refine qy_wp_ok (c := CX11_likesNow) (cuts := [32, 86]) vX11_likesNow wX11_likesNow 2000 32 _ _ _ ?_
    refine And.intro rfl (Exists.intro 15 (And.intro rfl ?_))
    refine And.intro rfl (Exists.intro 16 (And.intro rfl ?_))
    refine And.intro rfl (Exists.intro 4 (Exists.intro (nI (s_n S 0)) (And.intro rfl (And.intro e4 ?_))))
    refine And.intro (fun h43 => ?_) (fun h43 => ?_)
    · skip
      have h43 := nI_leT (a := s_n S 0) (b := s_n S 0) (by omega) (by omega) h43
      refine qx_K_le (ls := [.ref 3, .int (nI p), .retAddr 0, .retAddr 0]) ⟨Or.inr rfl, Or.inr rfl, Or.inl rfl, Or.inr rfl, trivial⟩ ?_
      refine key _ hI hf (fun p' q hp' hq => ?_)
      by_cases z : p' = p
      · rw [z]; exact h2 q hq
      · exact h1 p' q (by omega) hq
    · skip
      have h43 := nI_leF (a := s_n S 0) (b := s_n S 0) (by omega) (by omega) h43
      exact absurd h43 (by omega)
  | succ m ih =>
    intro k σ hk hI hf h1 h2
    have hpl := hI.1.pl
    have hpe := hI.1.pe
    have a8 := hI.at8 hp
    have e4 := hI.2.1.1.1.trans hI.1.1.2.1.1.1
    refine qy_wp_ok (c := CX11_likesNow) (cuts := [32, 86]) vX11_likesNow wX11_likesNow 2000 32 _ _ _ ?_
    refine And.intro rfl (Exists.intro 15 (And.intro rfl ?_))
    refine And.intro rfl (Exists.intro 16 (And.intro rfl ?_))
    refine And.intro rfl (Exists.intro 4 (Exists.intro (nI (s_n S 0)) (And.intro rfl (And.intro e4 ?_))))
    refine And.intro (fun h43 => ?_) (fun h43 => ?_)
    · skip
      have h43 := nI_leT (a := s_n S 0) (b := k) (by omega) (by omega) h43
      exact absurd h43 (by omega)
    · skip
      have h43 := nI_leF (a := s_n S 0) (b := k) (by omega) (by omega) h43
      refine And.intro rfl (Exists.intro 156 (And.intro rfl ?_))
      refine And.intro rfl (Exists.intro 15 (And.intro rfl ?_))
      refine And.intro rfl (Exists.intro 21 (And.intro rfl ?_))
      refine And.intro rfl (Exists.intro 22 (And.intro rfl ?_))
      refine Exists.intro (p) (Exists.intro (nI (s_at S p)) (And.intro rfl (And.intro ⟨10, rfl, by omega, by decide⟩ (And.intro (hI.at hp) ?_))))
      refine And.intro rfl (Exists.intro _ (And.intro (by decide) (qx_M_mono (c_likingOf hI.W hI.K cH_rf hp a8 (by omega)) ?_)))
      rintro _ σ1 ⟨rfl, fσ1, kσ1⟩
      refine And.intro rfl (Exists.intro 187 (And.intro rfl ?_))
      refine Exists.intro (nI 8) (And.intro rfl ?_)
      refine Exists.intro (nI (p * 8)) (And.intro (pk_mul _ _) ?_)
      refine Exists.intro (nI (p * 8 + k)) (And.intro (nI_add _ _) ?_)
      obtain ⟨σ2, eσ2⟩ : ∃ zs, zs = (qx_wi σ1 187 (p * 8 + k) (q_lk S rf p (s_at S p) k)) := ⟨_, rfl⟩
      have fσ2 := qn_wi eσ2
      refine Exists.intro (p * 8 + k) (Exists.intro σ2 (And.intro rfl (And.intro ⟨80, rfl, by omega, by decide⟩ (And.intro eσ2.symm ?_))))
      refine Exists.intro (nI (k + 1)) (And.intro (nI_add _ _) ?_)
      refine qx_K_le (ls := [.ref 3, .int (nI p), .int (nI (k + 1)), .retAddr 0]) ⟨Or.inr rfl, Or.inr rfl, Or.inr rfl, Or.inl rfl, trivial⟩ ?_
      refine ih (k + 1) _ (by omega) ((hI.lw fσ1 kσ1).fr fσ2 rfl rfl) ((hf.tr (fσ1.mn rfl)).tr (fσ2.mn rfl)) (fun p' q hp' hq => ?_) (fun q hq => ?_)
      · exact (qn_ne eσ2 (Or.inr (by omega))).trans ((fσ1.i _ _ rfl).trans (h1 p' q hp' hq))
      · by_cases z : q = k
        · rw [z]; exact qn_eq eσ2
        · exact (qn_ne eσ2 (Or.inr (by omega))).trans ((fσ1.i _ _ rfl).trans (h2 q (by omega)))
theorem l_ln1 {G : qx_G} {σ0 : qx_S} {S : qS} {rf : Option qR} {e : Nat} {Φ : qx_F} (key : ∀ s, cI s S rf e → ql kLn σ0 s → lkA s 187 S rf none → qx_K G qc_T 3 RX11 YX11_likesNow 92 [.ref 3, .retAddr 0, .retAddr 0, .retAddr 0] [] s Φ) : ∀ (m p : Nat) (σ : qx_S), m + p = s_n S 1 → cI σ S rf e → ql kLn σ0 σ → (∀ p' q, p' < p → q < s_n S 0 → qx_mi σ 187 (p' * 8 + q) = q_lk S rf p' (s_at S p') q) → qx_K G qc_T 3 RX11 YX11_likesNow 16 [.ref 3, .int (nI p), .retAddr 0, .retAddr 0] [] σ Φ := by
  intro m
  induction m with
  | zero =>
    intro p σ hk hI hf h1
    have hpe := hI.1.pe
    have e5 := hI.2.1.1.2.1.trans hI.1.1.2.1.2.1.1
    rw [show p = s_n S 1 by omega] at h1 ⊢
    refine qy_wp_ok (c := CX11_likesNow) (cuts := [16, 32, 92]) vX11_likesNow wX11_likesNow 2000 16 _ _ _ ?_
    refine And.intro rfl (Exists.intro 15 (And.intro rfl ?_))
    refine And.intro rfl (Exists.intro 16 (And.intro rfl ?_))
    refine And.intro rfl (Exists.intro 5 (Exists.intro (nI (s_n S 1)) (And.intro rfl (And.intro e5 ?_))))
    refine And.intro (fun h27 => ?_) (fun h27 => ?_)
    · skip
      have h27 := nI_leT (a := s_n S 1) (b := s_n S 1) (by omega) (by omega) h27
      refine qx_K_le (ls := [.ref 3, .retAddr 0, .retAddr 0, .retAddr 0]) ⟨Or.inr rfl, Or.inl rfl, Or.inr rfl, Or.inr rfl, trivial⟩ ?_
      exact key _ hI hf h1
    · skip
      have h27 := nI_leF (a := s_n S 1) (b := s_n S 1) (by omega) (by omega) h27
      exact absurd h27 (by omega)
  | succ m ih =>
    intro p σ hk hI hf h1
    have hpe := hI.1.pe
    have e5 := hI.2.1.1.2.1.trans hI.1.1.2.1.2.1.1
    have k86 : ∀ s, cI s S rf e → ql kLn σ0 s → (∀ p' q, p' < p + 1 → q < s_n S 0 → qx_mi s 187 (p' * 8 + q) = q_lk S rf p' (s_at S p') q) → qx_K G qc_T 3 RX11 YX11_likesNow 86 [.ref 3, .int (nI p), .retAddr 0, .retAddr 0] [] s Φ := by
      intro s i1 f1 c1
      refine qy_wp_ok (c := CX11_likesNow) (cuts := [16]) vX11_likesNow wX11_likesNow 2000 86 _ _ _ ?_
      refine Exists.intro (nI (p + 1)) (And.intro (nI_add _ _) ?_)
      exact ih (p + 1) _ (by omega) i1 f1 c1
    refine qy_wp_ok (c := CX11_likesNow) (cuts := [16, 32, 92]) vX11_likesNow wX11_likesNow 2000 16 _ _ _ ?_
    refine And.intro rfl (Exists.intro 15 (And.intro rfl ?_))
    refine And.intro rfl (Exists.intro 16 (And.intro rfl ?_))
    refine And.intro rfl (Exists.intro 5 (Exists.intro (nI (s_n S 1)) (And.intro rfl (And.intro e5 ?_))))
    refine And.intro (fun h27 => ?_) (fun h27 => ?_)
    · skip
      have h27 := nI_leT (a := s_n S 1) (b := p) (by omega) (by omega) h27
      exact absurd h27 (by omega)
    · skip
      have h27 := nI_leF (a := s_n S 1) (b := p) (by omega) (by omega) h27
      refine Exists.intro (nI 0) (And.intro rfl ?_)
      exact l_ln2 (by omega) k86 (s_n S 0) 0 _ (by omega) hI hf h1 (fun q hq => absurd hq (Nat.not_lt_zero q))
theorem c_likesNow {G : qx_G} {σ : qx_S} {S : qS} {rf : Option qR} {e : Nat} (hI : cI σ S rf e) (hL : cLk σ S rf e) : qx_M G qc_T 3 YX11_likesNow [.ref 3] σ (fun r s => r = some (.ref 187) ∧ ql kLn σ s ∧ cI s S rf e ∧ lkA s 187 S rf none ∧ cLk s S rf e) := by
  obtain ⟨el, l1, l2, l3⟩ := hL
  have he := hI.K.2.1
  have key : ∀ s, cI s S rf e → ql kLn σ s → lkA s 187 S rf none → qx_K G qc_T 3 RX11 YX11_likesNow 92 [.ref 3, .retAddr 0, .retAddr 0, .retAddr 0] [] s (fun r s => r = some (.ref 187) ∧ ql kLn σ s ∧ cI s S rf e ∧ lkA s 187 S rf none ∧ cLk s S rf e) := by
    intro s i1 f1 a1
    refine qy_wp_ok (c := CX11_likesNow) (cuts := []) vX11_likesNow wX11_likesNow 2000 92 _ _ _ ?_
    refine And.intro rfl (Exists.intro 156 (And.intro rfl ?_))
    refine And.intro rfl (Exists.intro 8 (Exists.intro (nI e) (And.intro rfl (And.intro i1.K.1 ?_))))
    obtain ⟨σ1, eσ1⟩ : ∃ zs, zs = (qx_wi s 3 16 (nI e)) := ⟨_, rfl⟩
    have fσ1 := qn_wif eσ1
    refine And.intro rfl (Exists.intro 16 (Exists.intro σ1 (And.intro rfl (And.intro eσ1.symm ?_))))
    refine And.intro rfl (Exists.intro 187 (And.intro rfl ?_))
    exact ⟨rfl, f1.tr (fσ1.mn rfl), i1.fr fσ1 rfl rfl, a1.fr fσ1 (fun _ => rfl), ⟨e, qn_eq eσ1, Nat.le_refl _, fun _ => a1.fr fσ1 (fun _ => rfl)⟩⟩
  refine qx_M_in rfl (Nat.le_of_ble_eq_true rfl) ?_
  refine qy_wp_ok (c := CX11_likesNow) (cuts := [16]) vX11_likesNow wX11_likesNow 2000 0 _ _ _ ?_
  refine And.intro rfl (Exists.intro 16 (Exists.intro (nI el) (And.intro rfl (And.intro l1 ?_))))
  refine And.intro rfl (Exists.intro 156 (And.intro rfl ?_))
  refine And.intro rfl (Exists.intro 8 (Exists.intro (nI e) (And.intro rfl (And.intro hI.K.1 ?_))))
  refine And.intro (fun h11 => ?_) (fun h11 => ?_)
  · skip
    have h11 := nI_eqT (a := el) (b := e) (by omega) (by omega) h11
    refine And.intro rfl (Exists.intro 187 (And.intro rfl ?_))
    exact ⟨rfl, qf.rf, hI, l3 h11, ⟨el, l1, l2, l3⟩⟩
  · skip
    have h11 := nI_neT (a := el) (b := e) (by omega) (by omega) h11
    refine Exists.intro (nI 0) (And.intro rfl ?_)
    exact l_ln1 key (s_n S 1) 0 _ (by omega) hI qf.rf (fun p q hp => absurd hp (Nat.not_lt_zero p))
/-- pointing -/
theorem l_pa {G : qx_G} {σ : qx_S} {S : qS} {rf : Option qR} {ly : Option (Nat × Nat)} {e L p left : Nat} (hI : cI σ S rf e) (hs : qx_sh qc_T σ L = (0, 80)) (hA : lkA σ L S rf ly) (hp : p < s_n S 1) (hl : left < 1024) : ∀ (m o b : Nat), m + o = s_n S 1 → b < s_n S 1 → qx_K G qc_T 0 RX0 YX0_pointsAt 12 [.ref 174, .int (nI p), .int (nI left), .ref L, .int (nI (p * 8)), .int (nI b), .int (nI o), .retAddr 0, .retAddr 0] [] σ (qr (nI (q_cpl (q_ll S rf ly p (s_at S p)) (s_at S) left p m o b)) σ) := by
  have hpe := hI.1.pe
  have hpl := hI.1.pl
  have e5 := hI.2.1.1.2.1.trans hI.1.1.2.1.2.1.1
  intro m
  induction m with
  | zero =>
    intro o b ho hb
    rw [show o = s_n S 1 by omega]
    refine qy_wp_ok (c := CX0_pointsAt) (cuts := [12]) vX0_pointsAt wX0_pointsAt 2000 12 _ _ _ ?_
    refine And.intro rfl (Exists.intro 156 (And.intro rfl ?_))
    refine And.intro rfl (Exists.intro 16 (And.intro rfl ?_))
    refine And.intro rfl (Exists.intro 5 (Exists.intro (nI (s_n S 1)) (And.intro rfl (And.intro e5 ?_))))
    refine And.intro (fun h24 => ?_) (fun h24 => ?_)
    · skip
      have h24 := nI_leT (a := s_n S 1) (b := s_n S 1) (by omega) (by omega) h24
      exact ⟨rfl, rfl⟩
    · skip
      have h24 := nI_leF (a := s_n S 1) (b := s_n S 1) (by omega) (by omega) h24
      exact absurd h24 (by omega)
  | succ m ih =>
    intro o b ho hb
    have ho1 : o < s_n S 1 := by omega
    have aO := (hI.1.1.2.1.2.2 o ho1).2
    have aB := (hI.1.1.2.1.2.2 b hb).2
    have aO8 := hI.at8 ho1
    have aB8 := hI.at8 hb
    have hl1 : left / 2 ^ o &&& 1 ≤ 1 := Nat.and_le_right
    have hl2 : ¬ left / 2 ^ o &&& 1 = 0 → left.testBit o = true := fun h => q_tb.mp (by omega)
    obtain ⟨x, ex⟩ : ∃ x, x = q_ll S rf ly p (s_at S p) (s_at S o) := ⟨_, rfl⟩
    obtain ⟨y, ey⟩ : ∃ y, y = q_ll S rf ly p (s_at S p) (s_at S b) := ⟨_, rfl⟩
    have sx : q_sm9 x := by rw [ex]; exact q_ll_sm hI.1.1 hp aO8
    have sy : q_sm9 y := by rw [ey]; exact q_ll_sm hI.1.1 hp aB8
    have dx := hA p (s_at S o) hp aO
    have dy := hA p (s_at S b) hp aB
    rw [← ex] at dx
    rw [← ey] at dy
    have cO : left.testBit o = true → (y < x ∨ (x = y ∧ b ≠ p ∧ s_at S o < s_at S b)) → q_cps (q_ll S rf ly p (s_at S p)) (s_at S) left p o b = o := fun h1 h2 => if_pos ⟨h1, by rw [← ex, ← ey]; exact h2⟩
    have cB : ¬ (left.testBit o = true ∧ (y < x ∨ (x = y ∧ b ≠ p ∧ s_at S o < s_at S b))) → q_cps (q_ll S rf ly p (s_at S p)) (s_at S) left p o b = b := fun h => if_neg (by rw [← ex, ← ey]; exact h)
    have z : ∀ v, q_cps (q_ll S rf ly p (s_at S p)) (s_at S) left p o b = v → v < s_n S 1 → qx_K G qc_T 0 RX0 YX0_pointsAt 12 [.ref 174, .int (nI p), .int (nI left), .ref L, .int (nI (p * 8)), .int (nI v), .int (nI (o + 1)), .retAddr 0, .retAddr 0] [] σ (qr (nI (q_cpl (q_ll S rf ly p (s_at S p)) (s_at S) left p (m + 1) o b)) σ) := fun v hv hv2 => by
      show qx_K _ _ _ _ _ _ _ _ _ (qr (nI (q_cpl (q_ll S rf ly p (s_at S p)) (s_at S) left p m (o + 1) (q_cps (q_ll S rf ly p (s_at S p)) (s_at S) left p o b))) σ)
      rw [hv]
      exact ih (o + 1) v (by omega) hv2
    refine qy_wp_ok (c := CX0_pointsAt) (cuts := [12]) vX0_pointsAt wX0_pointsAt 2000 12 _ _ _ ?_
    refine And.intro rfl (Exists.intro 156 (And.intro rfl ?_))
    refine And.intro rfl (Exists.intro 16 (And.intro rfl ?_))
    refine And.intro rfl (Exists.intro 5 (Exists.intro (nI (s_n S 1)) (And.intro rfl (And.intro e5 ?_))))
    refine And.intro (fun h24 => ?_) (fun h24 => ?_)
    · skip
      have h24 := nI_leT (a := s_n S 1) (b := o) (by omega) (by omega) h24
      exact absurd h24 (by omega)
    · skip
      have h24 := nI_leF (a := s_n S 1) (b := o) (by omega) (by omega) h24
      refine Exists.intro (nI (left / 2 ^ o)) (And.intro (nI_shr (by omega) (by omega)) ?_)
      refine Exists.intro (nI 1) (And.intro rfl ?_)
      refine Exists.intro (nI ((left / 2 ^ o) &&& 1)) (And.intro (nI_and _ _) ?_)
      refine And.intro (fun h33 => ?_) (fun h33 => ?_)
      · skip
        have h33 := nI_eqT (a := (left / 2 ^ o) &&& 1) (b := 0) (by omega) (by decide) h33
        refine Exists.intro (nI (o + 1)) (And.intro (nI_add _ _) ?_)
        first
          | exact z o (cO (hl2 h33) (Or.inl ((sm9_gt sx sy).mp h75))) (by omega)
          | exact z o (cO (hl2 h33) (Or.inr ⟨(sm9_eq sx sy).mp h80, h86, h101⟩)) (by omega)
          | exact z b (cB (fun w => absurd (q_tb.mpr w.1) (by omega))) hb
          | exact z b (cB (fun w => w.2.elim (fun w => h75 ((sm9_gt sx sy).mpr w)) (fun w => h80 ((sm9_eq sx sy).mpr w.1)))) hb
          | exact z b (cB (fun w => w.2.elim (fun w => h75 ((sm9_gt sx sy).mpr w)) (fun w => w.2.1 h86))) hb
          | exact z b (cB (fun w => w.2.elim (fun w => h75 ((sm9_gt sx sy).mpr w)) (fun w => absurd w.2.2 (Nat.not_lt.mpr h101)))) hb
      · skip
        have h33 := nI_neT (a := (left / 2 ^ o) &&& 1) (b := 0) (by omega) (by decide) h33
        refine And.intro rfl (Exists.intro 21 (And.intro rfl ?_))
        refine And.intro rfl (Exists.intro 22 (And.intro rfl ?_))
        refine Exists.intro (o) (Exists.intro (nI (s_at S o)) (And.intro rfl (And.intro ⟨10, rfl, by omega, by decide⟩ (And.intro (hI.at ho1) ?_))))
        refine Exists.intro (nI (p * 8 + (s_at S o))) (And.intro (nI_add _ _) ?_)
        refine Exists.intro (p * 8 + (s_at S o)) (Exists.intro x (And.intro rfl (And.intro ⟨80, hs, by omega, by decide⟩ (And.intro dx ?_))))
        refine And.intro rfl (Exists.intro 21 (And.intro rfl ?_))
        refine And.intro rfl (Exists.intro 22 (And.intro rfl ?_))
        refine Exists.intro (b) (Exists.intro (nI (s_at S b)) (And.intro rfl (And.intro ⟨10, rfl, by omega, by decide⟩ (And.intro (hI.at hb) ?_))))
        refine Exists.intro (nI (p * 8 + (s_at S b))) (And.intro (nI_add _ _) ?_)
        refine Exists.intro (p * 8 + (s_at S b)) (Exists.intro y (And.intro rfl (And.intro ⟨80, hs, by omega, by decide⟩ (And.intro dy ?_))))
        refine Exists.intro (x - y) (And.intro rfl ?_)
        refine And.intro (fun h75 => ?_) (fun h75 => ?_)
        · skip
          refine Exists.intro (nI (o + 1)) (And.intro (nI_add _ _) ?_)
          refine qx_K_le (ls := [.ref 174, .int (nI p), .int (nI left), .ref L, .int (nI (p * 8)), .int (nI o), .int (nI (o + 1)), .retAddr 0, .retAddr 0]) ⟨Or.inr rfl, Or.inr rfl, Or.inr rfl, Or.inr rfl, Or.inr rfl, Or.inr rfl, Or.inr rfl, Or.inl rfl, Or.inl rfl, trivial⟩ ?_
          first
            | exact z o (cO (hl2 h33) (Or.inl ((sm9_gt sx sy).mp h75))) (by omega)
            | exact z o (cO (hl2 h33) (Or.inr ⟨(sm9_eq sx sy).mp h80, h86, h101⟩)) (by omega)
            | exact z b (cB (fun w => absurd (q_tb.mpr w.1) (by omega))) hb
            | exact z b (cB (fun w => w.2.elim (fun w => h75 ((sm9_gt sx sy).mpr w)) (fun w => h80 ((sm9_eq sx sy).mpr w.1)))) hb
            | exact z b (cB (fun w => w.2.elim (fun w => h75 ((sm9_gt sx sy).mpr w)) (fun w => w.2.1 h86))) hb
            | exact z b (cB (fun w => w.2.elim (fun w => h75 ((sm9_gt sx sy).mpr w)) (fun w => absurd w.2.2 (Nat.not_lt.mpr h101)))) hb
        · skip
          refine And.intro (fun h80 => ?_) (fun h80 => ?_)
          · skip
            refine Exists.intro (nI (o + 1)) (And.intro (nI_add _ _) ?_)
            refine qx_K_le (ls := [.ref 174, .int (nI p), .int (nI left), .ref L, .int (nI (p * 8)), .int (nI b), .int (nI (o + 1)), .retAddr 0, .retAddr 0]) ⟨Or.inr rfl, Or.inr rfl, Or.inr rfl, Or.inr rfl, Or.inr rfl, Or.inr rfl, Or.inr rfl, Or.inl rfl, Or.inl rfl, trivial⟩ ?_
            first
              | exact z o (cO (hl2 h33) (Or.inl ((sm9_gt sx sy).mp h75))) (by omega)
              | exact z o (cO (hl2 h33) (Or.inr ⟨(sm9_eq sx sy).mp h80, h86, h101⟩)) (by omega)
              | exact z b (cB (fun w => absurd (q_tb.mpr w.1) (by omega))) hb
              | exact z b (cB (fun w => w.2.elim (fun w => h75 ((sm9_gt sx sy).mpr w)) (fun w => h80 ((sm9_eq sx sy).mpr w.1)))) hb
              | exact z b (cB (fun w => w.2.elim (fun w => h75 ((sm9_gt sx sy).mpr w)) (fun w => w.2.1 h86))) hb
              | exact z b (cB (fun w => w.2.elim (fun w => h75 ((sm9_gt sx sy).mpr w)) (fun w => absurd w.2.2 (Nat.not_lt.mpr h101)))) hb
          · skip
            refine And.intro (fun h86 => ?_) (fun h86 => ?_)
            · skip
              have h86 := nI_eqT (a := b) (b := p) (by omega) (by omega) h86
              refine Exists.intro (nI (o + 1)) (And.intro (nI_add _ _) ?_)
              refine qx_K_le (ls := [.ref 174, .int (nI p), .int (nI left), .ref L, .int (nI (p * 8)), .int (nI b), .int (nI (o + 1)), .retAddr 0, .retAddr 0]) ⟨Or.inr rfl, Or.inr rfl, Or.inr rfl, Or.inr rfl, Or.inr rfl, Or.inr rfl, Or.inr rfl, Or.inl rfl, Or.inl rfl, trivial⟩ ?_
              first
                | exact z o (cO (hl2 h33) (Or.inl ((sm9_gt sx sy).mp h75))) (by omega)
                | exact z o (cO (hl2 h33) (Or.inr ⟨(sm9_eq sx sy).mp h80, h86, h101⟩)) (by omega)
                | exact z b (cB (fun w => absurd (q_tb.mpr w.1) (by omega))) hb
                | exact z b (cB (fun w => w.2.elim (fun w => h75 ((sm9_gt sx sy).mpr w)) (fun w => h80 ((sm9_eq sx sy).mpr w.1)))) hb
                | exact z b (cB (fun w => w.2.elim (fun w => h75 ((sm9_gt sx sy).mpr w)) (fun w => w.2.1 h86))) hb
                | exact z b (cB (fun w => w.2.elim (fun w => h75 ((sm9_gt sx sy).mpr w)) (fun w => absurd w.2.2 (Nat.not_lt.mpr h101)))) hb
            · skip
              have h86 := nI_neT (a := b) (b := p) (by omega) (by omega) h86
              refine And.intro rfl (Exists.intro 21 (And.intro rfl ?_))
              refine And.intro rfl (Exists.intro 22 (And.intro rfl ?_))
              refine Exists.intro (b) (Exists.intro (nI (s_at S b)) (And.intro rfl (And.intro ⟨10, rfl, by omega, by decide⟩ (And.intro (hI.at hb) ?_))))
              refine And.intro (fun h101 => ?_) (fun h101 => ?_)
              · skip
                have h101 := nI_leT (a := s_at S b) (b := s_at S o) (by omega) (by omega) h101
                refine Exists.intro (nI (o + 1)) (And.intro (nI_add _ _) ?_)
                refine qx_K_le (ls := [.ref 174, .int (nI p), .int (nI left), .ref L, .int (nI (p * 8)), .int (nI b), .int (nI (o + 1)), .retAddr 0, .retAddr 0]) ⟨Or.inr rfl, Or.inr rfl, Or.inr rfl, Or.inr rfl, Or.inr rfl, Or.inr rfl, Or.inr rfl, Or.inl rfl, Or.inl rfl, trivial⟩ ?_
                first
                  | exact z o (cO (hl2 h33) (Or.inl ((sm9_gt sx sy).mp h75))) (by omega)
                  | exact z o (cO (hl2 h33) (Or.inr ⟨(sm9_eq sx sy).mp h80, h86, h101⟩)) (by omega)
                  | exact z b (cB (fun w => absurd (q_tb.mpr w.1) (by omega))) hb
                  | exact z b (cB (fun w => w.2.elim (fun w => h75 ((sm9_gt sx sy).mpr w)) (fun w => h80 ((sm9_eq sx sy).mpr w.1)))) hb
                  | exact z b (cB (fun w => w.2.elim (fun w => h75 ((sm9_gt sx sy).mpr w)) (fun w => w.2.1 h86))) hb
                  | exact z b (cB (fun w => w.2.elim (fun w => h75 ((sm9_gt sx sy).mpr w)) (fun w => absurd w.2.2 (Nat.not_lt.mpr h101)))) hb
              · skip
                have h101 := nI_leF (a := s_at S b) (b := s_at S o) (by omega) (by omega) h101
                refine Exists.intro (nI (o + 1)) (And.intro (nI_add _ _) ?_)
                refine qx_K_le (ls := [.ref 174, .int (nI p), .int (nI left), .ref L, .int (nI (p * 8)), .int (nI o), .int (nI (o + 1)), .retAddr 0, .retAddr 0]) ⟨Or.inr rfl, Or.inr rfl, Or.inr rfl, Or.inr rfl, Or.inr rfl, Or.inr rfl, Or.inr rfl, Or.inl rfl, Or.inl rfl, trivial⟩ ?_
                first
                  | exact z o (cO (hl2 h33) (Or.inl ((sm9_gt sx sy).mp h75))) (by omega)
                  | exact z o (cO (hl2 h33) (Or.inr ⟨(sm9_eq sx sy).mp h80, h86, h101⟩)) (by omega)
                  | exact z b (cB (fun w => absurd (q_tb.mpr w.1) (by omega))) hb
                  | exact z b (cB (fun w => w.2.elim (fun w => h75 ((sm9_gt sx sy).mpr w)) (fun w => h80 ((sm9_eq sx sy).mpr w.1)))) hb
                  | exact z b (cB (fun w => w.2.elim (fun w => h75 ((sm9_gt sx sy).mpr w)) (fun w => w.2.1 h86))) hb
                  | exact z b (cB (fun w => w.2.elim (fun w => h75 ((sm9_gt sx sy).mpr w)) (fun w => absurd w.2.2 (Nat.not_lt.mpr h101)))) hb
theorem c_pointsAt {G : qx_G} {σ : qx_S} {S : qS} {rf : Option qR} {ly : Option (Nat × Nat)} {e L p left : Nat} (hI : cI σ S rf e) (hs : qx_sh qc_T σ L = (0, 80)) (hA : lkA σ L S rf ly) (hp : p < s_n S 1) (hl : left < 1024) : qx_M G qc_T 0 YX0_pointsAt [.ref 174, .int (nI p), .int (nI left), .ref L] σ (qr (nI (q_pa S rf ly left p)) σ) := by
  have hpe := hI.1.pe
  rw [← q_cpl_pa hI.1.1.2.1 hp]
  refine qx_M_in rfl (Nat.le_of_ble_eq_true rfl) ?_
  refine qy_wp_ok (c := CX0_pointsAt) (cuts := [12]) vX0_pointsAt wX0_pointsAt 2000 0 _ _ _ ?_
  refine Exists.intro (nI 8) (And.intro rfl ?_)
  refine Exists.intro (nI (p * 8)) (And.intro (pk_mul _ _) ?_)
  refine Exists.intro (nI 0) (And.intro rfl ?_)
  exact l_pa hI hs hA hp hl (s_n S 1) 0 p (by omega) hp
theorem l_cbk {G : qx_G} {σ : qx_S} {S : qS} {rf : Option qR} {e p left : Nat} {pts : Nat → Nat} (hI : cI σ S rf e) (hp : p < s_n S 1) (hpt : ∀ x, left.testBit x = true → x < s_n S 1 ∧ qx_mi σ 179 x = nI (pts x) ∧ left.testBit (pts x) = true) : ∀ (m k o : Nat), m + k = s_n S 1 → left.testBit o = true → qx_K G qc_T 0 RX0 YX0_comesBack 9 [.ref 174, .int (nI p), .int (nI o), .int (nI k)] [] σ (qr (bI (q_cb pts p m o)) σ) := by
  have hpe := hI.1.pe
  have e5 := hI.2.1.1.2.1.trans hI.1.1.2.1.2.1.1
  intro m
  induction m with
  | zero =>
    intro k o hk ho
    have ho1 := (hpt o ho).1
    rw [show k = s_n S 1 by omega]
    refine qy_wp_ok (c := CX0_comesBack) (cuts := [9]) vX0_comesBack wX0_comesBack 2000 9 _ _ _ ?_
    refine And.intro rfl (Exists.intro 156 (And.intro rfl ?_))
    refine And.intro rfl (Exists.intro 16 (And.intro rfl ?_))
    refine And.intro rfl (Exists.intro 5 (Exists.intro (nI (s_n S 1)) (And.intro rfl (And.intro e5 ?_))))
    refine And.intro (fun h20 => ?_) (fun h20 => ?_)
    · skip
      have h20 := nI_leT (a := s_n S 1) (b := s_n S 1) (by omega) (by omega) h20
      refine And.intro (fun h43 => ?_) (fun h43 => ?_)
      · skip
        have h43 := nI_neT (a := o) (b := p) (by omega) (by omega) h43
        refine Exists.intro (nI 0) (And.intro rfl ?_)
        refine And.intro (Or.inl rfl) ?_
        first | exact ⟨by rw [show q_cb pts p 0 o = true from decide_eq_true h43]; rfl, rfl⟩ | exact ⟨by rw [show q_cb pts p 0 o = false from decide_eq_false h43]; rfl, rfl⟩
      · skip
        have h43 := nI_eqT (a := o) (b := p) (by omega) (by omega) h43
        refine Exists.intro (nI 1) (And.intro rfl ?_)
        refine And.intro (Or.inr rfl) ?_
        first | exact ⟨by rw [show q_cb pts p 0 o = true from decide_eq_true h43]; rfl, rfl⟩ | exact ⟨by rw [show q_cb pts p 0 o = false from decide_eq_false h43]; rfl, rfl⟩
    · skip
      have h20 := nI_leF (a := s_n S 1) (b := s_n S 1) (by omega) (by omega) h20
      exact absurd h20 (by omega)
  | succ m ih =>
    intro k o hk ho
    have ho1 := hpt o ho
    have z := ih (k + 1) (pts o) (by omega) ho1.2.2
    have oo := ho1.1
    have q1 : o = p → q_cb pts p (m + 1) o = true := fun h => by
      unfold q_cb
      rw [if_pos h]
    have q2 : ¬ o = p → q_cb pts p (m + 1) o = q_cb pts p m (pts o) := fun h => by
      show (if o = p then true else q_cb pts p m (pts o)) = _
      rw [if_neg h]
    refine qy_wp_ok (c := CX0_comesBack) (cuts := [9]) vX0_comesBack wX0_comesBack 2000 9 _ _ _ ?_
    refine And.intro rfl (Exists.intro 156 (And.intro rfl ?_))
    refine And.intro rfl (Exists.intro 16 (And.intro rfl ?_))
    refine And.intro rfl (Exists.intro 5 (Exists.intro (nI (s_n S 1)) (And.intro rfl (And.intro e5 ?_))))
    refine And.intro (fun h20 => ?_) (fun h20 => ?_)
    · skip
      have h20 := nI_leT (a := s_n S 1) (b := k) (by omega) (by omega) h20
      exact absurd h20 (by omega)
    · skip
      have h20 := nI_leF (a := s_n S 1) (b := k) (by omega) (by omega) h20
      refine And.intro (fun h25 => ?_) (fun h25 => ?_)
      · skip
        have h25 := nI_eqT (a := o) (b := p) (by omega) (by omega) h25
        refine And.intro (fun h43 => ?_) (fun h43 => ?_)
        · skip
          have h43 := nI_neT (a := o) (b := p) (by omega) (by omega) h43
          exact absurd h25 h43
        · skip
          have h43 := nI_eqT (a := o) (b := p) (by omega) (by omega) h43
          refine Exists.intro (nI 1) (And.intro rfl ?_)
          refine And.intro (Or.inr rfl) ?_
          exact ⟨by rw [q1 h25]; rfl, rfl⟩
      · skip
        have h25 := nI_neT (a := o) (b := p) (by omega) (by omega) h25
        refine And.intro rfl (Exists.intro 179 (And.intro rfl ?_))
        refine Exists.intro (o) (Exists.intro (nI (pts o)) (And.intro rfl (And.intro ⟨10, rfl, by omega, by decide⟩ (And.intro ho1.2.1 ?_))))
        refine Exists.intro (nI (k + 1)) (And.intro (nI_add _ _) ?_)
        rw [q2 h25]; exact z
theorem c_comesBack {G : qx_G} {σ : qx_S} {S : qS} {rf : Option qR} {e p left : Nat} {pts : Nat → Nat} (hI : cI σ S rf e) (hpt : ∀ x, left.testBit x = true → x < s_n S 1 ∧ qx_mi σ 179 x = nI (pts x) ∧ left.testBit (pts x) = true) (hl : left.testBit p = true) : qx_M G qc_T 0 YX0_comesBack [.ref 174, .int (nI p)] σ (qr (bI (q_cb pts p (s_n S 1) (pts p))) σ) := by
  have hp := (hpt p hl).1
  have hpe := hI.1.pe
  refine qx_M_in rfl (Nat.le_of_ble_eq_true rfl) ?_
  refine qy_wp_ok (c := CX0_comesBack) (cuts := [9]) vX0_comesBack wX0_comesBack 2000 0 _ _ _ ?_
  refine And.intro rfl (Exists.intro 179 (And.intro rfl ?_))
  refine Exists.intro (p) (Exists.intro (nI (pts p)) (And.intro rfl (And.intro ⟨10, rfl, by omega, by decide⟩ (And.intro ((hpt p hl).2.1) ?_))))
  refine Exists.intro (nI 0) (And.intro rfl ?_)
  exact l_cbk hI hp hpt (s_n S 1) 0 (pts p) (by omega) (hpt p hl).2.2

