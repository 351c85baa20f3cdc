/-! THE CLASS: MOST, the first best row -/
theorem c_f2 {G : qx_G} {σ : qx_S} {S : qS} {rf : Option qR} {ly : Option (Nat × Nat)} {e k : Nat} {rg : Nat → Nat} {M : q_Mt} {left p b : Nat} {t : Nat → Nat} (h2k : 2 < k) (hb : p < b) (hb2 : b < s_n S 1) (hX : fX σ S rf ly e k rg M left p) (h1 : qx_mi σ 173 1 = nI b) (ht : tkC σ (s_n S 1) t) : qx_M G qc_T 3 YX3_firstBest [.ref 160, .int (nI 2), .int (nI (2 ^ p ||| 2 ^ b)), .int (nI left)] σ (fun r s => r = some (.int (nI (q_fbr t p ((q_o3 (q_cn S rf ly) (q_gn S rf ly) (s_n S 1) k left p b (s_n S 1 - (p + 1)) (p + 1)).find? (q_prd S rf ly k left))).1)) ∧ tkC s (s_n S 1) (q_fbr t p ((q_o3 (q_cn S rf ly) (q_gn S rf ly) (s_n S 1) k left p b (s_n S 1 - (p + 1)) (p + 1)).find? (q_prd S rf ly k left))).2 ∧ ql kTr σ s ∧ ∀ j, j < 2 → qx_mi s 173 j = qx_mi σ 173 j) := by
  have hpe := hX.1.1.1.1.pe
  obtain ⟨st, est⟩ : ∃ st, st = 2 ^ p ||| 2 ^ b := ⟨_, rfl⟩
  have lo := l_f2 (G := G) h2k hb hb2 (s_n S 1 - (p + 1)) (p + 1) σ (by omega) (by omega) hX h1 ht qf.rf (fun _ _ => rfl)
  rw [← est] at lo ⊢
  refine qx_M_in rfl (Nat.le_of_ble_eq_true rfl) ?_
  refine qy_wp_ok (c := CX3_firstBest) (cuts := [10]) vX3_firstBest wX3_firstBest 2000 0 _ _ _ ?_
  refine And.intro rfl (Exists.intro 173 (And.intro rfl ?_))
  refine Exists.intro (nI 0) (And.intro rfl ?_)
  refine Exists.intro (0) (Exists.intro (nI p) (And.intro rfl (And.intro ⟨5, rfl, by decide, by decide⟩ (And.intro hX.2.2.2.2.2 ?_))))
  refine Exists.intro (nI 1) (And.intro rfl ?_)
  refine Exists.intro (nI (p + 1)) (And.intro (nI_add _ _) ?_)
  exact lo
/-- what is found holds the least, and people alone -/
theorem q_fnd_z {can : Nat → Nat → Nat → Bool} {gn : Nat → Nat → Int32} {pe k p : Nat} {t : Nat → Nat} {P : q_O → Bool} {l : List q_O} (hpe : pe ≤ 10) (hl : ∀ o, o ∈ l → q_RG can gn pe k p o.1 o.2.1 o.2.2.1 o.2.2.2) : (q_fbr t p (l.find? P)).1 < 1024 ∧ ((q_fbr t p (l.find? P)).1 = 0 ↔ l.find? P = none) := by
  cases hf : l.find? P with
  | none => exact ⟨(show 0 < 1024 by decide), fun _ => rfl, fun _ => rfl⟩
  | some o =>
    have r := q_RG_p (hl o (List.mem_of_find?_eq_some hf))
    show o.1 < 1024 ∧ (o.1 = 0 ↔ _)
    refine ⟨Nat.lt_of_lt_of_le (q_lt_bits (n := pe) (fun i hi => (r.2.2.2.2 i hi).2)) (show 2 ^ pe ≤ 2 ^ 10 from Nat.pow_le_pow_right (by decide) hpe), fun z => ?_, fun z => by cases z⟩
    have w := r.1
    rw [z, Nat.zero_testBit] at w
    cases w
theorem l_f1 {G : qx_G} {σ0 : qx_S} {S : qS} {rf : Option qR} {ly : Option (Nat × Nat)} {e k : Nat} {rg : Nat → Nat} {M : q_Mt} {left p : Nat} {t : Nat → Nat} : ∀ (m b : Nat) (σ : qx_S), m + b = s_n S 1 → p < b → fX σ S rf ly e k rg M left p → tkC σ (s_n S 1) t → ql kTr σ0 σ → (∀ j, j < 1 → qx_mi σ 173 j = qx_mi σ0 173 j) → qx_K G qc_T 4 RX3 YX3_firstBest 10 [.ref 160, .int (nI 1), .int (nI (2 ^ p)), .int (nI left), .int (nI b), .retAddr 0, .retAddr 0] [] σ (fun r s => r = some (.int (nI (q_fbr t p ((q_o2 (q_cn S rf ly) (q_gn S rf ly) (s_n S 1) k left p m b).find? (q_prd S rf ly k left))).1)) ∧ tkC s (s_n S 1) (q_fbr t p ((q_o2 (q_cn S rf ly) (q_gn S rf ly) (s_n S 1) k left p m b).find? (q_prd S rf ly k left))).2 ∧ ql kTr σ0 s ∧ ∀ j, j < 1 → qx_mi s 173 j = qx_mi σ0 173 j) := by
  intro m
  induction m with
  | zero =>
    intro b σ hm hb hX ht hf hj
    have hpe := hX.1.1.1.1.pe
    have e5 := hX.1.1.1.2.1.1.2.1.trans hX.1.1.1.1.1.2.1.2.1.1
    rw [show b = s_n S 1 by omega]
    refine qy_wp_ok (c := CX3_firstBest) (cuts := [10]) vX3_firstBest wX3_firstBest 2000 10 _ _ _ ?_
    refine And.intro rfl (Exists.intro 156 (And.intro rfl ?_))
    refine And.intro rfl (Exists.intro 16 (And.intro rfl ?_))
    refine And.intro rfl (Exists.intro 5 (Exists.intro (nI (s_n S 1)) (And.intro rfl (And.intro e5 ?_))))
    refine And.intro (fun h22 => ?_) (fun h22 => ?_)
    · skip
      have h22 := nI_leT (a := s_n S 1) (b := s_n S 1) (by omega) (by omega) h22
      refine Exists.intro (nI 0) (And.intro rfl ?_)
      exact ⟨rfl, ht, hf, hj⟩
    · skip
      have h22 := nI_leF (a := s_n S 1) (b := s_n S 1) (by omega) (by omega) h22
      exact absurd h22 (by omega)
  | succ m ih =>
    intro b σ hm hb hX ht hf hj
    have hpe := hX.1.1.1.1.pe
    have k2 := hX.1.2.2.2.2.2.1
    have k4 := hX.1.2.2.2.2.2.2
    have h1024 : 2 ^ s_n S 1 ≤ 1024 := Nat.pow_le_pow_right (by decide) hpe
    have e5 := hX.1.1.1.2.1.1.2.1.trans hX.1.1.1.1.1.2.1.2.1.1
    have hb2 : b < s_n S 1 := by omega
    have hp := hX.2.2.2.1 p hX.2.2.2.2.1
    have ll : left < 2 ^ s_n S 1 := q_lt_bits hX.2.2.2.1
    obtain ⟨st, est⟩ : ∃ st, st = 2 ^ p := ⟨_, rfl⟩
    obtain ⟨wd, ewd⟩ : ∃ wd, wd = 2 ^ p ||| 2 ^ b := ⟨_, rfl⟩
    have ew : st ||| 2 ^ b = wd := by rw [est, ewd]
    have stl : st ≤ wd := Nat.le_of_testBit (fun i hi => by rw [← ew, Nat.testBit_or, hi]; rfl)
    have wbit : ∀ i, wd.testBit i = true → i < s_n S 1 := fun i hi => by
      rw [ewd, q_bit2, Bool.or_eq_true] at hi
      rcases hi with z | z <;> have z := of_decide_eq_true z <;> omega
    have wlt : wd < 2 ^ s_n S 1 := q_lt_bits wbit
    have wp : wd.testBit p = true := by rw [ewd, q_bit2, decide_eq_true rfl]; rfl
    have hl1 : left / 2 ^ b &&& 1 ≤ 1 := Nat.and_le_right
    have hs1 : st / 2 ^ b &&& 1 ≤ 1 := Nat.and_le_right
    have lT : ¬ left / 2 ^ b &&& 1 = 0 → left.testBit b = true := fun h => q_tb.mp (by omega)
    have lF : left / 2 ^ b &&& 1 = 0 → left.testBit b = false := fun h => Bool.eq_false_iff.mpr (fun w => by have := q_tb.mpr w; omega)
    have sT : st / 2 ^ b &&& 1 = 0 := by
      rcases Nat.eq_zero_or_pos (st / 2 ^ b &&& 1) with z | z
      · exact z
      · have w : st.testBit b = true := q_tb.mp (by omega)
        rw [est, q_bit1] at w
        have := of_decide_eq_true w
        omega
    obtain ⟨v2, ev2⟩ : ∃ v2, v2 = (q_cn S rf ly 2 p b && q_cn S rf ly 2 b p) := ⟨_, rfl⟩
    obtain ⟨o2, eo2⟩ : ∃ o2 : q_O, o2 = (wd, q_gn S rf ly p b + q_gn S rf ly b p, 2, 2 + 8 * b) := ⟨_, rfl⟩
    obtain ⟨X3, eX3⟩ : ∃ X3, X3 = (q_o3 (q_cn S rf ly) (q_gn S rf ly) (s_n S 1) k left p b (s_n S 1 - (p + 1)) (p + 1)).find? (q_prd S rf ly k left) := ⟨_, rfl⟩
    have z3 : 2 < k → left.testBit b = true → (q_fbr t p X3).1 < 1024 ∧ ((q_fbr t p X3).1 = 0 ↔ X3 = none) := fun h2k hlb => by
      rw [eX3]
      refine q_fnd_z (can := q_cn S rf ly) (gn := q_gn S rf ly) (k := k) hpe (fun o ho => ?_)
      exact ((q_o2_RG (set := left) k4 hp).mp ((q_o2_mem _ _).mpr ⟨b, by omega, by omega, hlb, Or.inr ⟨h2k, ho⟩⟩)).1
    have fnd : (q_o2 (q_cn S rf ly) (q_gn S rf ly) (s_n S 1) k left p (m + 1) b).find? (q_prd S rf ly k left) = if left.testBit b = true then (if v2 = true ∧ q_prd S rf ly k left o2 = true then some o2 else if 2 < k then X3.or ((q_o2 (q_cn S rf ly) (q_gn S rf ly) (s_n S 1) k left p m (b + 1)).find? (q_prd S rf ly k left)) else (q_o2 (q_cn S rf ly) (q_gn S rf ly) (s_n S 1) k left p m (b + 1)).find? (q_prd S rf ly k left)) else (q_o2 (q_cn S rf ly) (q_gn S rf ly) (s_n S 1) k left p m (b + 1)).find? (q_prd S rf ly k left) := by
      show (if _ then _ else _ : List q_O).find? _ = _
      rw [← ev2, ← ewd, ← eo2, q_fndL, ← eX3]
    have rv : q_rsl (q_cn S rf ly 2) (q_gn S rf ly) (q_r4 p b 0 0) 2 2 0 0 = if q_cn S rf ly 2 p b = true then (if q_cn S rf ly 2 b p = true then (0 + q_gn S rf ly p b + q_gn S rf ly b p) * nI 16 - nI 2 else (-1000000)) else (-1000000) := rfl
    have vT : v2 = true → q_cn S rf ly 2 p b = true ∧ q_cn S rf ly 2 b p = true := fun h => by
      rw [ev2] at h
      simp only [Bool.and_eq_true] at h
      exact h
    have rT : v2 = true → q_rsl (q_cn S rf ly 2) (q_gn S rf ly) (q_r4 p b 0 0) 2 2 0 0 = (q_gn S rf ly p b + q_gn S rf ly b p) * nI 16 - nI 2 := fun h => by
      obtain ⟨y1, y2⟩ := vT h
      rw [rv, if_pos y1, if_pos y2, Int32.zero_add]
    have rF : v2 = false → q_rsl (q_cn S rf ly 2) (q_gn S rf ly) (q_r4 p b 0 0) 2 2 0 0 = (-1000000) := fun h => by
      rw [rv]
      split
      · split
        · next y1 y2 => rw [ev2, y1, y2] at h; cases h
        · rfl
      · rfl
    have ck : ∀ s, fX s S rf ly e k rg M left p → (q_rsc M (q_cn S rf ly 2) (q_gn S rf ly) (q_r4 p b 0 0) 2 wd = qx_mi s 172 left - qx_mi s 172 (q_wo left wd) ↔ v2 = true ∧ q_prd S rf ly k left o2 = true) := fun s hs => by
      rw [eo2, decide_eq_true_iff]
      exact q_ck hs (fun h => Or.inl ⟨rfl, b, hb, hb2, (vT h).1, (vT h).2, ewd, rfl, rfl⟩) rT rF wp
    have aft : ∀ s, s = qx_wi σ 173 1 (nI b) → fX s S rf ly e k rg M left p ∧ qx_mi s 173 1 = nI b ∧ tkC s (s_n S 1) t ∧ ql kTr σ0 s ∧ (∀ j, j < 1 → qx_mi s 173 j = qx_mi σ0 173 j) ∧ rwC s (q_r4 p b 0 0) 2 := by
      intro s es
      have f := qn_wi es
      have o : ∀ j, j < 1 → qx_mi s 173 j = qx_mi σ 173 j := fun j hj => qn_ne es (Or.inr (by omega))
      refine ⟨hX.fr (f.mn rfl) (o 0 (by decide)), qn_eq es, fun i hi => (f.i _ _ rfl).trans (ht i hi), hf.tr (f.mn rfl), fun j hj3 => (o j hj3).trans (hj j hj3), fun i hi => ?_⟩
      rcases (show i = 0 ∨ i = 1 by omega) with z | z
      · rw [z]; exact (o 0 (by decide)).trans hX.2.2.2.2.2
      · rw [z]; exact qn_eq es
    have rl : ∀ i, i < 2 → q_r4 p b 0 0 i < s_n S 1 := fun i hi => by
      rcases (show i = 0 ∨ i = 1 by omega) with z | z <;> rw [z]
      · exact hp
      · exact hb2
    have nx : ∀ s, (q_o2 (q_cn S rf ly) (q_gn S rf ly) (s_n S 1) k left p (m + 1) b).find? (q_prd S rf ly k left) = (q_o2 (q_cn S rf ly) (q_gn S rf ly) (s_n S 1) k left p m (b + 1)).find? (q_prd S rf ly k left) → fX s S rf ly e k rg M left p → tkC s (s_n S 1) t → ql kTr σ0 s → (∀ j, j < 1 → qx_mi s 173 j = qx_mi σ0 173 j) → qx_K G qc_T 4 RX3 YX3_firstBest 10 [.ref 160, .int (nI 1), .int (nI st), .int (nI left), .int (nI (b + 1)), .retAddr 0, .retAddr 0] [] s (fun r s => r = some (.int (nI (q_fbr t p ((q_o2 (q_cn S rf ly) (q_gn S rf ly) (s_n S 1) k left p (m + 1) b).find? (q_prd S rf ly k left))).1)) ∧ tkC s (s_n S 1) (q_fbr t p ((q_o2 (q_cn S rf ly) (q_gn S rf ly) (s_n S 1) k left p (m + 1) b).find? (q_prd S rf ly k left))).2 ∧ ql kTr σ0 s ∧ ∀ j, j < 1 → qx_mi s 173 j = qx_mi σ0 173 j) := by
      intro s h x1 x4 x5 x6
      rw [h, est]
      exact ih (b + 1) s (by omega) (by omega) x1 x4 x5 x6
    have q0 : left.testBit b = false → (q_o2 (q_cn S rf ly) (q_gn S rf ly) (s_n S 1) k left p (m + 1) b).find? (q_prd S rf ly k left) = (q_o2 (q_cn S rf ly) (q_gn S rf ly) (s_n S 1) k left p m (b + 1)).find? (q_prd S rf ly k left) := fun h => by
      rw [fnd, h]
      exact if_neg (by decide)
    have q2 : left.testBit b = true → ¬ (v2 = true ∧ q_prd S rf ly k left o2 = true) → ¬ 2 < k ∨ X3 = none → (q_o2 (q_cn S rf ly) (q_gn S rf ly) (s_n S 1) k left p (m + 1) b).find? (q_prd S rf ly k left) = (q_o2 (q_cn S rf ly) (q_gn S rf ly) (s_n S 1) k left p m (b + 1)).find? (q_prd S rf ly k left) := fun h1 h3 h4 => by
      rw [fnd, if_pos h1, if_neg h3]
      rcases h4 with h4 | h4
      · rw [if_neg h4]
      · split
        · rw [h4, Option.none_or]
        · rfl
    have q3 : left.testBit b = true → (v2 = true ∧ q_prd S rf ly k left o2 = true) → (q_o2 (q_cn S rf ly) (q_gn S rf ly) (s_n S 1) k left p (m + 1) b).find? (q_prd S rf ly k left) = some o2 := fun h1 h3 => by
      rw [fnd, if_pos h1, if_pos h3]
    have q4 : left.testBit b = true → ¬ (v2 = true ∧ q_prd S rf ly k left o2 = true) → 2 < k → ¬ X3 = none → (q_o2 (q_cn S rf ly) (q_gn S rf ly) (s_n S 1) k left p (m + 1) b).find? (q_prd S rf ly k left) = X3 := fun h1 h3 h4 h5 => by
      rw [fnd, if_pos h1, if_neg h3, if_pos h4]
      cases hx : X3 with
      | none => exact absurd hx h5
      | some o => rw [Option.some_or]
    have tk2 : ∀ s, tkC s (s_n S 1) (q_tkr (q_r4 p b 0 0) 2 2 0 t) → tkC s (s_n S 1) (q_fbr t p (some o2)).2 := fun s h => by
      rw [eo2]
      show tkC s (s_n S 1) (q_fws (2 + 8 * b) p t)
      rw [q_fws2 (by omega)]
      exact h
    have c3 : ∀ s, 2 < k → fX s S rf ly e k rg M left p → qx_mi s 173 1 = nI b → tkC s (s_n S 1) t → qx_M G qc_T 3 YX3_firstBest [.ref 160, .int (nI 2), .int (nI wd), .int (nI left)] s (fun r s' => r = some (.int (nI (q_fbr t p X3).1)) ∧ tkC s' (s_n S 1) (q_fbr t p X3).2 ∧ ql kTr s s' ∧ ∀ j, j < 2 → qx_mi s' 173 j = qx_mi s 173 j) := fun s x1 x3 x4 x6 => by
      rw [ewd, eX3]
      exact c_f2 x1 hb hb2 x3 x4 x6
    obtain ⟨zz, ezz⟩ : ∃ zz, zz = (q_fbr t p X3).1 := ⟨_, rfl⟩
    rw [← ezz] at z3 c3
    have t3 : X3 = none → (q_fbr t p X3).2 = t := fun h => by rw [h]; rfl
    rw [← est]
    refine qy_wp_ok (c := CX3_firstBest) (cuts := [10]) vX3_firstBest wX3_firstBest 2000 10 _ _ _ ?_
    refine And.intro rfl (Exists.intro 156 (And.intro rfl ?_))
    refine And.intro rfl (Exists.intro 16 (And.intro rfl ?_))
    refine And.intro rfl (Exists.intro 5 (Exists.intro (nI (s_n S 1)) (And.intro rfl (And.intro e5 ?_))))
    refine And.intro (fun h22 => ?_) (fun h22 => ?_)
    · skip
      have h22 := nI_leT (a := s_n S 1) (b := b) (by omega) (by omega) h22
      exact absurd h22 (by omega)
    · skip
      have h22 := nI_leF (a := s_n S 1) (b := b) (by omega) (by omega) h22
      refine Exists.intro (nI (left / 2 ^ b)) (And.intro (nI_shr (by omega) (by omega)) ?_)
      refine Exists.intro (nI 1) (And.intro rfl ?_)
      refine Exists.intro (nI ((left / 2 ^ b) &&& 1)) (And.intro (nI_and _ _) ?_)
      refine And.intro (fun h31 => ?_) (fun h31 => ?_)
      · skip
        have h31 := nI_eqT (a := (left / 2 ^ b) &&& 1) (b := 0) (by omega) (by decide) h31
        refine Exists.intro (nI (b + 1)) (And.intro (nI_add _ _) ?_)
        exact nx _ (q0 (lF h31)) hX ht hf hj
      · skip
        have h31 := nI_neT (a := (left / 2 ^ b) &&& 1) (b := 0) (by omega) (by decide) h31
        refine Exists.intro (nI (st / 2 ^ b)) (And.intro (nI_shr (by omega) (by omega)) ?_)
        refine Exists.intro (nI 1) (And.intro rfl ?_)
        refine Exists.intro (nI ((st / 2 ^ b) &&& 1)) (And.intro (nI_and _ _) ?_)
        refine And.intro (fun h40 => ?_) (fun h40 => ?_)
        · skip
          have h40 := nI_eqT (a := (st / 2 ^ b) &&& 1) (b := 0) (by omega) (by decide) h40
          refine And.intro rfl (Exists.intro 173 (And.intro rfl ?_))
          obtain ⟨σ1, eσ1⟩ : ∃ zs, zs = (qx_wi σ 173 1 (nI b)) := ⟨_, rfl⟩
          have fσ1 := qn_wi eσ1
          refine Exists.intro (1) (Exists.intro σ1 (And.intro rfl (And.intro ⟨5, rfl, by decide, by decide⟩ (And.intro eσ1.symm ?_))))
          refine Exists.intro (nI 1) (And.intro rfl ?_)
          refine Exists.intro (nI (2 ^ b)) (And.intro (nI_sh1 (by omega)) ?_)
          refine Exists.intro (nI wd) (And.intro ((nI_or _ _).trans (congrArg nI ew)) ?_)
          refine Exists.intro (nI 1) (And.intro rfl ?_)
          refine Exists.intro (nI 2) (And.intro rfl ?_)
          refine And.intro rfl (Exists.intro _ (And.intro (by decide) (qx_M_mono (c_rowScore hpe (aft _ eσ1).1.1.1.2.1 ((aft _ eσ1).1.1.1.2.2.1 2 (by omega) (by omega)) (by decide) (by decide) (aft _ eσ1).2.2.2.2.2 rl (by omega) (aft _ eσ1).1.1.2.2.1) ?_)))
          rintro _ _ ⟨rfl, rfl⟩
          refine And.intro rfl (Exists.intro 172 (And.intro rfl ?_))
          refine Exists.intro (left) (Exists.intro (qx_mi σ 172 left) (And.intro rfl (And.intro ⟨1024, rfl, by omega, by decide⟩ (And.intro ((fσ1.i _ _ rfl).trans (rfl)) ?_))))
          refine And.intro rfl (Exists.intro 172 (And.intro rfl ?_))
          refine Exists.intro ((-1)) (And.intro (by decide) ?_)
          refine Exists.intro ((nI wd) ^^^ (-1)) (And.intro rfl ?_)
          refine Exists.intro (nI (q_wo left wd)) (And.intro (nI_andn _ _ (by omega)) ?_)
          refine Exists.intro (q_wo left wd) (Exists.intro (qx_mi σ 172 (q_wo left wd)) (And.intro rfl (And.intro ⟨1024, rfl, by (have := q_wo_le left wd; omega), by decide⟩ (And.intro ((fσ1.i _ _ rfl).trans (rfl)) ?_))))
          refine Exists.intro ((qx_mi σ 172 left) - (qx_mi σ 172 (q_wo left wd))) (And.intro rfl ?_)
          refine And.intro (fun h89 => ?_) (fun h89 => ?_)
          · skip
            refine Exists.intro (nI 1) (And.intro rfl ?_)
            refine Exists.intro (nI 2) (And.intro rfl ?_)
            refine And.intro rfl (Exists.intro 17 (Exists.intro (nI k) (And.intro rfl (And.intro ((fσ1.i _ _ rfl).trans (hX.1.1.2.2.2)) ?_))))
            refine And.intro (fun h109 => ?_) (fun h109 => ?_)
            · skip
              have h109 := nI_leT (a := k) (b := 2) (by omega) (by decide) h109
              refine Exists.intro (nI (b + 1)) (And.intro (nI_add _ _) ?_)
              refine qx_K_le (ls := [.ref 160, .int (nI 1), .int (nI st), .int (nI left), .int (nI (b + 1)), .retAddr 0, .retAddr 0]) ⟨Or.inr rfl, Or.inr rfl, Or.inr rfl, Or.inr rfl, Or.inr rfl, Or.inl rfl, Or.inr rfl, trivial⟩ ?_
              have eB : ∀ x, qx_mi σ1 172 x = qx_mi σ 172 x := fun x => fσ1.i _ _ rfl
              have y : ¬ (v2 = true ∧ q_prd S rf ly k left o2 = true) := fun w => h89 (by have q := (ck σ1 (aft _ eσ1).1).mpr w; rw [eB, eB] at q; exact q)
              exact nx _ (q2 (lT h31) y (Or.inl (by omega))) (aft _ eσ1).1 (aft _ eσ1).2.2.1 (aft _ eσ1).2.2.2.1 (aft _ eσ1).2.2.2.2.1
            · skip
              have h109 := nI_leF (a := k) (b := 2) (by omega) (by decide) h109
              refine Exists.intro (nI 1) (And.intro rfl ?_)
              refine Exists.intro (nI 2) (And.intro rfl ?_)
              refine And.intro rfl (Exists.intro _ (And.intro (by decide) (qx_M_mono (c3 _ h109 (aft _ eσ1).1 (aft _ eσ1).2.1 (aft _ eσ1).2.2.1) ?_)))
              rintro _ τ ⟨rfl, tτ, fτ, jτ⟩
              refine And.intro (fun h126 => ?_) (fun h126 => ?_)
              · skip
                have h126 := nI_eqT (a := zz) (b := 0) (by have := (z3 h109 (lT h31)).1; omega) (by decide) h126
                refine Exists.intro (nI (b + 1)) (And.intro (nI_add _ _) ?_)
                refine qx_K_le (ls := [.ref 160, .int (nI 1), .int (nI st), .int (nI left), .int (nI (b + 1)), .retAddr 0, .retAddr 0]) ⟨Or.inr rfl, Or.inr rfl, Or.inr rfl, Or.inr rfl, Or.inr rfl, Or.inl rfl, Or.inl rfl, trivial⟩ ?_
                have eB : ∀ x, qx_mi σ1 172 x = qx_mi σ 172 x := fun x => fσ1.i _ _ rfl
                have y : ¬ (v2 = true ∧ q_prd S rf ly k left o2 = true) := fun w => h89 (by have q := (ck σ1 (aft _ eσ1).1).mpr w; rw [eB, eB] at q; exact q)
                have n4 := (z3 h109 (lT h31)).2.mp h126
                exact nx _ (q2 (lT h31) y (Or.inr n4)) ((aft _ eσ1).1.fr fτ (jτ 0 (by decide))) (by rw [← t3 n4]; exact tτ) ((aft _ eσ1).2.2.2.1.tr fτ) (fun j hj => (jτ j (by omega)).trans ((aft _ eσ1).2.2.2.2.1 j hj))
              · skip
                have h126 := nI_neT (a := zz) (b := 0) (by have := (z3 h109 (lT h31)).1; omega) (by decide) h126
                have eB : ∀ x, qx_mi σ1 172 x = qx_mi σ 172 x := fun x => fσ1.i _ _ rfl
                have y : ¬ (v2 = true ∧ q_prd S rf ly k left o2 = true) := fun w => h89 (by have q := (ck σ1 (aft _ eσ1).1).mpr w; rw [eB, eB] at q; exact q)
                rw [q4 (lT h31) y h109 (fun w => h126 ((z3 h109 (lT h31)).2.mpr w))]
                exact ⟨by rw [ezz], tτ, (aft _ eσ1).2.2.2.1.tr fτ, fun j hj => (jτ j (by omega)).trans ((aft _ eσ1).2.2.2.2.1 j hj)⟩
          · skip
            refine Exists.intro (nI 1) (And.intro rfl ?_)
            refine Exists.intro (nI 2) (And.intro rfl ?_)
            refine And.intro rfl (Exists.intro _ (And.intro (by decide) (qx_M_mono (c_takeRow hpe (by decide) (by decide) (aft _ eσ1).2.2.2.2.2 rl (aft _ eσ1).2.2.1) ?_)))
            rintro _ ρ ⟨rfl, fρ, tρ⟩
            have eB : ∀ x, qx_mi σ1 172 x = qx_mi σ 172 x := fun x => fσ1.i _ _ rfl
            have y := (ck σ1 (aft _ eσ1).1).mp (by rw [eB, eB]; exact h89)
            rw [q3 (lT h31) y]
            exact ⟨by rw [eo2]; rfl, tk2 _ tρ, (aft _ eσ1).2.2.2.1.tr (fρ.mn rfl), fun j hj => (fρ.i _ _ rfl).trans ((aft _ eσ1).2.2.2.2.1 j hj)⟩
        · skip
          have h40 := nI_neT (a := (st / 2 ^ b) &&& 1) (b := 0) (by omega) (by decide) h40
          exact absurd sT h40
theorem c_f1 {G : qx_G} {σ : qx_S} {S : qS} {rf : Option qR} {ly : Option (Nat × Nat)} {e k : Nat} {rg : Nat → Nat} {M : q_Mt} {left p : Nat} {t : Nat → Nat} (hX : fX σ S rf ly e k rg M left p) (ht : tkC σ (s_n S 1) t) : qx_M G qc_T 4 YX3_firstBest [.ref 160, .int (nI 1), .int (nI (2 ^ p)), .int (nI left)] σ (fun r s => r = some (.int (nI (q_fbr t p ((q_o2 (q_cn S rf ly) (q_gn S rf ly) (s_n S 1) k left p (s_n S 1 - (p + 1)) (p + 1)).find? (q_prd S rf ly k left))).1)) ∧ tkC s (s_n S 1) (q_fbr t p ((q_o2 (q_cn S rf ly) (q_gn S rf ly) (s_n S 1) k left p (s_n S 1 - (p + 1)) (p + 1)).find? (q_prd S rf ly k left))).2 ∧ ql kTr σ s) := by
  have hpe := hX.1.1.1.1.pe
  have hp := hX.2.2.2.1 p hX.2.2.2.2.1
  have lo := l_f1 (G := G) (s_n S 1 - (p + 1)) (p + 1) σ (by omega) (by omega) hX ht qf.rf (fun _ _ => rfl)
  refine qx_M_in rfl (Nat.le_of_ble_eq_true rfl) ?_
  refine qy_wp_ok (c := CX3_firstBest) (cuts := [10]) vX3_firstBest wX3_firstBest 2000 0 _ _ _ ?_
  refine And.intro rfl (Exists.intro 173 (And.intro rfl ?_))
  refine Exists.intro (nI 0) (And.intro rfl ?_)
  refine Exists.intro (0) (Exists.intro (nI p) (And.intro rfl (And.intro ⟨5, rfl, by decide, by decide⟩ (And.intro hX.2.2.2.2.2 ?_))))
  refine Exists.intro (nI 1) (And.intro rfl ?_)
  refine Exists.intro (nI (p + 1)) (And.intro (nI_add _ _) ?_)
  exact qx_K_mono lo (fun r s h => ⟨h.1, h.2.1, h.2.2.1⟩)

