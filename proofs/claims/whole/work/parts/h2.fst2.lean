/-! THE CLASS: MOST, the first best row, three and two -/
theorem c_f3 {G : qx_G} {σ : qx_S} {S : qS} {rf : Option qR} {ly : Option (Nat × Nat)} {e k : Nat} {rg : Nat → Nat} {M : q_Mt} {left p b c : Nat} {t : Nat → Nat} (h3k : 3 < k) (hb : p < b) (hb2 : b < s_n S 1) (hc : p < c) (hc2 : c < s_n S 1) (hcb : c ≠ b) (hX : fX σ S rf ly e k rg M left p) (h1 : qx_mi σ 173 1 = nI b) (h2 : qx_mi σ 173 2 = nI c) (ht : tkC σ (s_n S 1) t) : qx_M G qc_T 2 YX3_firstBest [.ref 160, .int (nI 3), .int (nI (2 ^ p ||| 2 ^ b ||| 2 ^ c)), .int (nI left)] σ (fun r s => r = some (.int (nI (q_fbr t p ((q_o4 (q_cn S rf ly) (q_gn S rf ly) left p b c (s_n S 1 - (p + 1)) (p + 1)).find? (q_prd S rf ly k left))).1)) ∧ tkC s (s_n S 1) (q_fbr t p ((q_o4 (q_cn S rf ly) (q_gn S rf ly) left p b c (s_n S 1 - (p + 1)) (p + 1)).find? (q_prd S rf ly k left))).2 ∧ ql kTr σ s ∧ ∀ j, j < 3 → qx_mi s 173 j = qx_mi σ 173 j) := by
  have hpe := hX.1.1.1.1.pe
  obtain ⟨st, est⟩ : ∃ st, st = 2 ^ p ||| 2 ^ b ||| 2 ^ c := ⟨_, rfl⟩
  have lo := l_f3 (G := G) h3k hb hb2 hc hc2 hcb (s_n S 1 - (p + 1)) (p + 1) σ (by omega) (by omega) hX h1 h2 ht qf.rf (fun _ _ => rfl)
  rw [← est] at lo ⊢
  refine qx_M_in rfl (Nat.le_of_ble_eq_true rfl) ?_
  refine qy_wp_ok (c := CX3_firstBest) (cuts := [10]) vX3_firstBest wX3_firstBest 2000 0 _ _ _ ?_
  refine And.intro rfl (Exists.intro 173 (And.intro rfl ?_))
  refine Exists.intro (nI 0) (And.intro rfl ?_)
  refine Exists.intro (0) (Exists.intro (nI p) (And.intro rfl (And.intro ⟨5, rfl, by decide, by decide⟩ (And.intro hX.2.2.2.2.2 ?_))))
  refine Exists.intro (nI 1) (And.intro rfl ?_)
  refine Exists.intro (nI (p + 1)) (And.intro (nI_add _ _) ?_)
  exact lo
theorem q_o4_z {can : Nat → Nat → Nat → Bool} {gn : Nat → Nat → Int32} {pe k left p b c m d : Nat} {t : Nat → Nat} {P : q_O → Bool} (hpe : pe ≤ 10) (hp : p < pe) (hb : b < pe) (hc : c < pe) (hd : d + m ≤ pe) : (q_fbr t p ((q_o4 can gn left p b c m d).find? P)).1 < 1024 ∧ ((q_fbr t p ((q_o4 can gn left p b c m d).find? P)).1 = 0 ↔ (q_o4 can gn left p b c m d).find? P = none) := by
  cases hf : (q_o4 can gn left p b c m d).find? P with
  | none => exact ⟨(show 0 < 1024 by decide), fun _ => rfl, fun _ => rfl⟩
  | some o =>
    obtain ⟨x, x1, x2, x3, x4, x5, x6, x7, x8, x9, xe⟩ := (q_o4_mem _ _).mp (List.mem_of_find?_eq_some hf)
    have e1 : (q_fbr t p (some o)).1 = 2 ^ p ||| 2 ^ b ||| 2 ^ c ||| 2 ^ x := by rw [xe]; rfl
    rw [e1]
    refine ⟨Nat.lt_of_lt_of_le (q_lt_bits (n := pe) (fun i hi => ?_)) (show 2 ^ pe ≤ 2 ^ 10 from Nat.pow_le_pow_right (by decide) hpe), fun z => ?_, fun z => by cases z⟩
    · rw [q_bit4, Bool.or_eq_true, Bool.or_eq_true, Bool.or_eq_true] at hi
      rcases hi with ((z | z) | z) | z <;> have z := of_decide_eq_true z <;> omega
    · have w : (2 ^ p ||| 2 ^ b ||| 2 ^ c ||| 2 ^ x).testBit p = true := by rw [q_bit4, decide_eq_true rfl]; rfl
      rw [z, Nat.zero_testBit] at w
      cases w
theorem q_fndL {α : Type} {P : α → Bool} {g v : Bool} {o : α} {k3 : Prop} [Decidable k3] {l rest : List α} : ((if g = true then ((if v = true then [o] else []) ++ (if k3 then l else [])) ++ rest else rest) : List α).find? P = if g = true then (if v = true ∧ P o = true then some o else if k3 then (l.find? P).or (rest.find? P) else rest.find? P) else rest.find? P := by
  cases g with
  | false => rfl
  | true => cases v <;> cases hq : P o <;> by_cases hk : k3 <;> simp [hk, hq, List.find?_append]
theorem l_f2 {G : qx_G} {σ0 : qx_S} {S : qS} {rf : Option qR} {ly : Option (Nat × Nat)} {e k : Nat} {rg : Nat → Nat} {M : q_Mt} {left p b : Nat} {t : Nat → Nat} (h2k : 2 < k) (hb : p < b) (hb2 : b < s_n S 1) : ∀ (m c : Nat) (σ : qx_S), m + c = s_n S 1 → p < c → fX σ S rf ly e k rg M left p → qx_mi σ 173 1 = nI b → tkC σ (s_n S 1) t → ql kTr σ0 σ → (∀ j, j < 2 → qx_mi σ 173 j = qx_mi σ0 173 j) → qx_K G qc_T 3 RX3 YX3_firstBest 10 [.ref 160, .int (nI 2), .int (nI (2 ^ p ||| 2 ^ b)), .int (nI left), .int (nI c), .retAddr 0, .retAddr 0] [] σ (fun r s => r = some (.int (nI (q_fbr t p ((q_o3 (q_cn S rf ly) (q_gn S rf ly) (s_n S 1) k left p b m c).find? (q_prd S rf ly k left))).1)) ∧ tkC s (s_n S 1) (q_fbr t p ((q_o3 (q_cn S rf ly) (q_gn S rf ly) (s_n S 1) k left p b m c).find? (q_prd S rf ly k left))).2 ∧ ql kTr σ0 s ∧ ∀ j, j < 2 → qx_mi s 173 j = qx_mi σ0 173 j) := by
  intro m
  induction m with
  | zero =>
    intro c σ hm hc hX h1 ht hf hj
    have hpe := hX.1.1.1.1.pe
    have e5 := hX.1.1.1.2.1.1.2.1.trans hX.1.1.1.1.1.2.1.2.1.1
    obtain ⟨st, est⟩ : ∃ st, st = 2 ^ p ||| 2 ^ b := ⟨_, rfl⟩
    rw [← est]
    rw [show c = s_n S 1 by omega]
    refine qy_wp_ok (c := CX3_firstBest) (cuts := [10]) vX3_firstBest wX3_firstBest 2000 10 _ _ _ ?_
    refine And.intro rfl (Exists.intro 156 (And.intro rfl ?_))
    refine And.intro rfl (Exists.intro 16 (And.intro rfl ?_))
    refine And.intro rfl (Exists.intro 5 (Exists.intro (nI (s_n S 1)) (And.intro rfl (And.intro e5 ?_))))
    refine And.intro (fun h22 => ?_) (fun h22 => ?_)
    · skip
      have h22 := nI_leT (a := s_n S 1) (b := s_n S 1) (by omega) (by omega) h22
      refine Exists.intro (nI 0) (And.intro rfl ?_)
      exact ⟨rfl, ht, hf, hj⟩
    · skip
      have h22 := nI_leF (a := s_n S 1) (b := s_n S 1) (by omega) (by omega) h22
      exact absurd h22 (by omega)
  | succ m ih =>
    intro c σ hm hc hX h1 ht hf hj
    have hpe := hX.1.1.1.1.pe
    have k4 := hX.1.2.2.2.2.2.2
    have h1024 : 2 ^ s_n S 1 ≤ 1024 := Nat.pow_le_pow_right (by decide) hpe
    have e5 := hX.1.1.1.2.1.1.2.1.trans hX.1.1.1.1.1.2.1.2.1.1
    have hc2 : c < s_n S 1 := by omega
    have hp := hX.2.2.2.1 p hX.2.2.2.2.1
    have ll : left < 2 ^ s_n S 1 := q_lt_bits hX.2.2.2.1
    obtain ⟨st, est⟩ : ∃ st, st = 2 ^ p ||| 2 ^ b := ⟨_, rfl⟩
    obtain ⟨wd, ewd⟩ : ∃ wd, wd = 2 ^ p ||| 2 ^ b ||| 2 ^ c := ⟨_, rfl⟩
    have ew : st ||| 2 ^ c = wd := by rw [est, ewd]
    have stl : st ≤ wd := Nat.le_of_testBit (fun i hi => by rw [← ew, Nat.testBit_or, hi]; rfl)
    have wbit : ∀ i, wd.testBit i = true → i < s_n S 1 := fun i hi => by
      rw [ewd, q_bit3, Bool.or_eq_true, Bool.or_eq_true] at hi
      rcases hi with (z | z) | z <;> have z := of_decide_eq_true z <;> omega
    have wlt : wd < 2 ^ s_n S 1 := q_lt_bits wbit
    have wp : wd.testBit p = true := by rw [ewd, q_bit3, decide_eq_true rfl]; rfl
    have hl1 : left / 2 ^ c &&& 1 ≤ 1 := Nat.and_le_right
    have hs1 : st / 2 ^ c &&& 1 ≤ 1 := Nat.and_le_right
    have lT : ¬ left / 2 ^ c &&& 1 = 0 → left.testBit c = true := fun h => q_tb.mp (by omega)
    have lF : left / 2 ^ c &&& 1 = 0 → left.testBit c = false := fun h => Bool.eq_false_iff.mpr (fun w => by have := q_tb.mpr w; omega)
    have sF : st / 2 ^ c &&& 1 = 0 → c ≠ b := fun h => by
      have w : st.testBit c = false := Bool.eq_false_iff.mpr (fun w => by have := q_tb.mpr w; omega)
      rw [est, q_bit2, Bool.or_eq_false_iff] at w
      exact fun z => of_decide_eq_false w.2 z.symm
    have sT : ¬ st / 2 ^ c &&& 1 = 0 → c = b := fun h => by
      have w : st.testBit c = true := q_tb.mp (by omega)
      rw [est, q_bit2, Bool.or_eq_true] at w
      rcases w with z | z
      · have := of_decide_eq_true z; omega
      · exact (of_decide_eq_true z).symm
    obtain ⟨v3, ev3⟩ : ∃ v3, v3 = (q_cn S rf ly 3 p b && q_cn S rf ly 3 b c && q_cn S rf ly 3 c p) := ⟨_, rfl⟩
    obtain ⟨o3, eo3⟩ : ∃ o3 : q_O, o3 = (wd, q_gn S rf ly p b + q_gn S rf ly b c + q_gn S rf ly c p, 3, 3 + 8 * b + 128 * c) := ⟨_, rfl⟩
    obtain ⟨X4, eX4⟩ : ∃ X4, X4 = (q_o4 (q_cn S rf ly) (q_gn S rf ly) left p b c (s_n S 1 - (p + 1)) (p + 1)).find? (q_prd S rf ly k left) := ⟨_, rfl⟩
    have z4 := q_o4_z (can := q_cn S rf ly) (gn := q_gn S rf ly) (k := k) (left := left) (t := t) (P := q_prd S rf ly k left) hpe hp hb2 hc2 (m := s_n S 1 - (p + 1)) (d := p + 1) (by omega)
    rw [← eX4] at z4
    have fnd : (q_o3 (q_cn S rf ly) (q_gn S rf ly) (s_n S 1) k left p b (m + 1) c).find? (q_prd S rf ly k left) = if (left.testBit c && !decide (c = b)) = true then (if v3 = true ∧ q_prd S rf ly k left o3 = true then some o3 else if 3 < k then X4.or ((q_o3 (q_cn S rf ly) (q_gn S rf ly) (s_n S 1) k left p b m (c + 1)).find? (q_prd S rf ly k left)) else (q_o3 (q_cn S rf ly) (q_gn S rf ly) (s_n S 1) k left p b m (c + 1)).find? (q_prd S rf ly k left)) else (q_o3 (q_cn S rf ly) (q_gn S rf ly) (s_n S 1) k left p b m (c + 1)).find? (q_prd S rf ly k left) := by
      show (if _ then _ else _ : List q_O).find? _ = _
      rw [← ev3, ← ewd, ← eo3, q_fndL, ← eX4]
    have rv : q_rsl (q_cn S rf ly 3) (q_gn S rf ly) (q_r4 p b c 0) 3 3 0 0 = if q_cn S rf ly 3 p b = true then (if q_cn S rf ly 3 b c = true then (if q_cn S rf ly 3 c p = true then (0 + q_gn S rf ly p b + q_gn S rf ly b c + q_gn S rf ly c p) * nI 16 - nI 3 else (-1000000)) else (-1000000)) else (-1000000) := rfl
    have vT : v3 = true → q_cn S rf ly 3 p b = true ∧ q_cn S rf ly 3 b c = true ∧ q_cn S rf ly 3 c p = true := fun h => by
      rw [ev3] at h
      simp only [Bool.and_eq_true] at h
      exact ⟨h.1.1, h.1.2, h.2⟩
    have rT : v3 = true → q_rsl (q_cn S rf ly 3) (q_gn S rf ly) (q_r4 p b c 0) 3 3 0 0 = (q_gn S rf ly p b + q_gn S rf ly b c + q_gn S rf ly c p) * nI 16 - nI 3 := fun h => by
      obtain ⟨y1, y2, y3⟩ := vT h
      rw [rv, if_pos y1, if_pos y2, if_pos y3, Int32.zero_add]
    have rF : v3 = false → q_rsl (q_cn S rf ly 3) (q_gn S rf ly) (q_r4 p b c 0) 3 3 0 0 = (-1000000) := fun h => by
      rw [rv]
      split
      · split
        · split
          · next y1 y2 y3 => rw [ev3, y1, y2, y3] at h; cases h
          · rfl
        · rfl
      · rfl
    have ck : ∀ s, fX s S rf ly e k rg M left p → c ≠ b → (q_rsc M (q_cn S rf ly 3) (q_gn S rf ly) (q_r4 p b c 0) 3 wd = qx_mi s 172 left - qx_mi s 172 (q_wo left wd) ↔ v3 = true ∧ q_prd S rf ly k left o3 = true) := fun s hs n1 => by
      rw [eo3, decide_eq_true_iff]
      exact q_ck hs (fun h => Or.inr (Or.inl ⟨rfl, h2k, b, c, hb, hb2, hc, hc2, n1, (vT h).1, (vT h).2.1, (vT h).2.2, ewd, rfl, rfl⟩)) rT rF wp
    have aft : ∀ s, s = qx_wi σ 173 2 (nI c) → fX s S rf ly e k rg M left p ∧ qx_mi s 173 1 = nI b ∧ qx_mi s 173 2 = nI c ∧ tkC s (s_n S 1) t ∧ ql kTr σ0 s ∧ (∀ j, j < 2 → qx_mi s 173 j = qx_mi σ0 173 j) ∧ rwC s (q_r4 p b c 0) 3 := by
      intro s es
      have f := qn_wi es
      have o : ∀ j, j < 2 → qx_mi s 173 j = qx_mi σ 173 j := fun j hj => qn_ne es (Or.inr (by omega))
      refine ⟨hX.fr (f.mn rfl) (o 0 (by decide)), (o 1 (by decide)).trans h1, qn_eq es, fun i hi => (f.i _ _ rfl).trans (ht i hi), hf.tr (f.mn rfl), fun j hj3 => (o j hj3).trans (hj j hj3), fun i hi => ?_⟩
      rcases (show i = 0 ∨ i = 1 ∨ i = 2 by omega) with z | z | z
      · rw [z]; exact (o 0 (by decide)).trans hX.2.2.2.2.2
      · rw [z]; exact (o 1 (by decide)).trans h1
      · rw [z]; exact qn_eq es
    have rl : ∀ i, i < 3 → q_r4 p b c 0 i < s_n S 1 := fun i hi => by
      rcases (show i = 0 ∨ i = 1 ∨ i = 2 by omega) with z | z | z <;> rw [z]
      · exact hp
      · exact hb2
      · exact hc2
    have nx : ∀ s, (q_o3 (q_cn S rf ly) (q_gn S rf ly) (s_n S 1) k left p b (m + 1) c).find? (q_prd S rf ly k left) = (q_o3 (q_cn S rf ly) (q_gn S rf ly) (s_n S 1) k left p b m (c + 1)).find? (q_prd S rf ly k left) → fX s S rf ly e k rg M left p → qx_mi s 173 1 = nI b → tkC s (s_n S 1) t → ql kTr σ0 s → (∀ j, j < 2 → qx_mi s 173 j = qx_mi σ0 173 j) → qx_K G qc_T 3 RX3 YX3_firstBest 10 [.ref 160, .int (nI 2), .int (nI st), .int (nI left), .int (nI (c + 1)), .retAddr 0, .retAddr 0] [] s (fun r s => r = some (.int (nI (q_fbr t p ((q_o3 (q_cn S rf ly) (q_gn S rf ly) (s_n S 1) k left p b (m + 1) c).find? (q_prd S rf ly k left))).1)) ∧ tkC s (s_n S 1) (q_fbr t p ((q_o3 (q_cn S rf ly) (q_gn S rf ly) (s_n S 1) k left p b (m + 1) c).find? (q_prd S rf ly k left))).2 ∧ ql kTr σ0 s ∧ ∀ j, j < 2 → qx_mi s 173 j = qx_mi σ0 173 j) := by
      intro s h x1 x2 x4 x5 x6
      rw [h, est]
      exact ih (c + 1) s (by omega) (by omega) x1 x2 x4 x5 x6
    have q0 : left.testBit c = false → (q_o3 (q_cn S rf ly) (q_gn S rf ly) (s_n S 1) k left p b (m + 1) c).find? (q_prd S rf ly k left) = (q_o3 (q_cn S rf ly) (q_gn S rf ly) (s_n S 1) k left p b m (c + 1)).find? (q_prd S rf ly k left) := fun h => by
      rw [fnd, h]
      exact if_neg (by simp)
    have q1 : c = b → (q_o3 (q_cn S rf ly) (q_gn S rf ly) (s_n S 1) k left p b (m + 1) c).find? (q_prd S rf ly k left) = (q_o3 (q_cn S rf ly) (q_gn S rf ly) (s_n S 1) k left p b m (c + 1)).find? (q_prd S rf ly k left) := fun h => by
      rw [fnd, decide_eq_true h]
      exact if_neg (by simp)
    have q2 : left.testBit c = true → c ≠ b → ¬ (v3 = true ∧ q_prd S rf ly k left o3 = true) → ¬ 3 < k ∨ X4 = none → (q_o3 (q_cn S rf ly) (q_gn S rf ly) (s_n S 1) k left p b (m + 1) c).find? (q_prd S rf ly k left) = (q_o3 (q_cn S rf ly) (q_gn S rf ly) (s_n S 1) k left p b m (c + 1)).find? (q_prd S rf ly k left) := fun h1 h2 h3 h4 => by
      rw [fnd, if_pos (by rw [h1, decide_eq_false h2]; rfl), if_neg h3]
      rcases h4 with h4 | h4
      · rw [if_neg h4]
      · split
        · rw [h4, Option.none_or]
        · rfl
    have q3 : left.testBit c = true → c ≠ b → (v3 = true ∧ q_prd S rf ly k left o3 = true) → (q_o3 (q_cn S rf ly) (q_gn S rf ly) (s_n S 1) k left p b (m + 1) c).find? (q_prd S rf ly k left) = some o3 := fun h1 h2 h3 => by
      rw [fnd, if_pos (by rw [h1, decide_eq_false h2]; rfl), if_pos h3]
    have q4 : left.testBit c = true → c ≠ b → ¬ (v3 = true ∧ q_prd S rf ly k left o3 = true) → 3 < k → ¬ X4 = none → (q_o3 (q_cn S rf ly) (q_gn S rf ly) (s_n S 1) k left p b (m + 1) c).find? (q_prd S rf ly k left) = X4 := fun h1 h2 h3 h4 h5 => by
      rw [fnd, if_pos (by rw [h1, decide_eq_false h2]; rfl), if_neg h3, if_pos h4]
      cases hx : X4 with
      | none => exact absurd hx h5
      | some o => rw [Option.some_or]
    have tk3 : ∀ s, tkC s (s_n S 1) (q_tkr (q_r4 p b c 0) 3 3 0 t) → tkC s (s_n S 1) (q_fbr t p (some o3)).2 := fun s h => by
      rw [eo3]
      show tkC s (s_n S 1) (q_fws (3 + 8 * b + 128 * c) p t)
      rw [q_fws3 (by omega) (by omega)]
      exact h
    have c4 : ∀ s, 3 < k → c ≠ b → fX s S rf ly e k rg M left p → qx_mi s 173 1 = nI b → qx_mi s 173 2 = nI c → tkC s (s_n S 1) t → qx_M G qc_T 2 YX3_firstBest [.ref 160, .int (nI 3), .int (nI wd), .int (nI left)] s (fun r s' => r = some (.int (nI (q_fbr t p X4).1)) ∧ tkC s' (s_n S 1) (q_fbr t p X4).2 ∧ ql kTr s s' ∧ ∀ j, j < 3 → qx_mi s' 173 j = qx_mi s 173 j) := fun s x1 x2 x3 x4 x5 x6 => by
      rw [ewd, eX4]
      exact c_f3 x1 hb hb2 hc hc2 x2 x3 x4 x5 x6
    obtain ⟨zz, ezz⟩ : ∃ zz, zz = (q_fbr t p X4).1 := ⟨_, rfl⟩
    rw [← ezz] at z4 c4
    have t4 : X4 = none → (q_fbr t p X4).2 = t := fun h => by rw [h]; rfl
    rw [← est]
    refine qy_wp_ok (c := CX3_firstBest) (cuts := [10]) vX3_firstBest wX3_firstBest 2000 10 _ _ _ ?_
    refine And.intro rfl (Exists.intro 156 (And.intro rfl ?_))
    refine And.intro rfl (Exists.intro 16 (And.intro rfl ?_))
    refine And.intro rfl (Exists.intro 5 (Exists.intro (nI (s_n S 1)) (And.intro rfl (And.intro e5 ?_))))
    refine And.intro (fun h22 => ?_) (fun h22 => ?_)
    · skip
      have h22 := nI_leT (a := s_n S 1) (b := c) (by omega) (by omega) h22
      exact absurd h22 (by omega)
    · skip
      have h22 := nI_leF (a := s_n S 1) (b := c) (by omega) (by omega) h22
      refine Exists.intro (nI (left / 2 ^ c)) (And.intro (nI_shr (by omega) (by omega)) ?_)
      refine Exists.intro (nI 1) (And.intro rfl ?_)
      refine Exists.intro (nI ((left / 2 ^ c) &&& 1)) (And.intro (nI_and _ _) ?_)
      refine And.intro (fun h31 => ?_) (fun h31 => ?_)
      · skip
        have h31 := nI_eqT (a := (left / 2 ^ c) &&& 1) (b := 0) (by omega) (by decide) h31
        refine Exists.intro (nI (c + 1)) (And.intro (nI_add _ _) ?_)
        exact nx _ (q0 (lF h31)) hX h1 ht hf hj
      · skip
        have h31 := nI_neT (a := (left / 2 ^ c) &&& 1) (b := 0) (by omega) (by decide) h31
        refine Exists.intro (nI (st / 2 ^ c)) (And.intro (nI_shr (by omega) (by omega)) ?_)
        refine Exists.intro (nI 1) (And.intro rfl ?_)
        refine Exists.intro (nI ((st / 2 ^ c) &&& 1)) (And.intro (nI_and _ _) ?_)
        refine And.intro (fun h40 => ?_) (fun h40 => ?_)
        · skip
          have h40 := nI_eqT (a := (st / 2 ^ c) &&& 1) (b := 0) (by omega) (by decide) h40
          refine And.intro rfl (Exists.intro 173 (And.intro rfl ?_))
          obtain ⟨σ1, eσ1⟩ : ∃ zs, zs = (qx_wi σ 173 2 (nI c)) := ⟨_, rfl⟩
          have fσ1 := qn_wi eσ1
          refine Exists.intro (2) (Exists.intro σ1 (And.intro rfl (And.intro ⟨5, rfl, by decide, by decide⟩ (And.intro eσ1.symm ?_))))
          refine Exists.intro (nI 1) (And.intro rfl ?_)
          refine Exists.intro (nI (2 ^ c)) (And.intro (nI_sh1 (by omega)) ?_)
          refine Exists.intro (nI wd) (And.intro ((nI_or _ _).trans (congrArg nI ew)) ?_)
          refine Exists.intro (nI 1) (And.intro rfl ?_)
          refine Exists.intro (nI 3) (And.intro rfl ?_)
          refine And.intro rfl (Exists.intro _ (And.intro (by decide) (qx_M_mono (c_rowScore hpe (aft _ eσ1).1.1.1.2.1 ((aft _ eσ1).1.1.1.2.2.1 3 (by omega) (by omega)) (by decide) (by decide) (aft _ eσ1).2.2.2.2.2.2 rl (by omega) (aft _ eσ1).1.1.2.2.1) ?_)))
          rintro _ _ ⟨rfl, rfl⟩
          refine And.intro rfl (Exists.intro 172 (And.intro rfl ?_))
          refine Exists.intro (left) (Exists.intro (qx_mi σ 172 left) (And.intro rfl (And.intro ⟨1024, rfl, by omega, by decide⟩ (And.intro ((fσ1.i _ _ rfl).trans (rfl)) ?_))))
          refine And.intro rfl (Exists.intro 172 (And.intro rfl ?_))
          refine Exists.intro ((-1)) (And.intro (by decide) ?_)
          refine Exists.intro ((nI wd) ^^^ (-1)) (And.intro rfl ?_)
          refine Exists.intro (nI (q_wo left wd)) (And.intro (nI_andn _ _ (by omega)) ?_)
          refine Exists.intro (q_wo left wd) (Exists.intro (qx_mi σ 172 (q_wo left wd)) (And.intro rfl (And.intro ⟨1024, rfl, by (have := q_wo_le left wd; omega), by decide⟩ (And.intro ((fσ1.i _ _ rfl).trans (rfl)) ?_))))
          refine Exists.intro ((qx_mi σ 172 left) - (qx_mi σ 172 (q_wo left wd))) (And.intro rfl ?_)
          refine And.intro (fun h89 => ?_) (fun h89 => ?_)
          · skip
            refine Exists.intro (nI 1) (And.intro rfl ?_)
            refine Exists.intro (nI 3) (And.intro rfl ?_)
            refine And.intro rfl (Exists.intro 17 (Exists.intro (nI k) (And.intro rfl (And.intro ((fσ1.i _ _ rfl).trans (hX.1.1.2.2.2)) ?_))))
            refine And.intro (fun h109 => ?_) (fun h109 => ?_)
            · skip
              have h109 := nI_leT (a := k) (b := 3) (by omega) (by decide) h109
              refine Exists.intro (nI (c + 1)) (And.intro (nI_add _ _) ?_)
              refine qx_K_le (ls := [.ref 160, .int (nI 2), .int (nI st), .int (nI left), .int (nI (c + 1)), .retAddr 0, .retAddr 0]) ⟨Or.inr rfl, Or.inr rfl, Or.inr rfl, Or.inr rfl, Or.inr rfl, Or.inl rfl, Or.inr rfl, trivial⟩ ?_
              have eB : ∀ x, qx_mi σ1 172 x = qx_mi σ 172 x := fun x => fσ1.i _ _ rfl
              have y : ¬ (v3 = true ∧ q_prd S rf ly k left o3 = true) := fun w => h89 (by have q := (ck σ1 (aft _ eσ1).1 (sF h40)).mpr w; rw [eB, eB] at q; exact q)
              exact nx _ (q2 (lT h31) (sF h40) y (Or.inl (by omega))) (aft _ eσ1).1 (aft _ eσ1).2.1 (aft _ eσ1).2.2.2.1 (aft _ eσ1).2.2.2.2.1 (aft _ eσ1).2.2.2.2.2.1
            · skip
              have h109 := nI_leF (a := k) (b := 3) (by omega) (by decide) h109
              refine Exists.intro (nI 1) (And.intro rfl ?_)
              refine Exists.intro (nI 3) (And.intro rfl ?_)
              refine And.intro rfl (Exists.intro _ (And.intro (by decide) (qx_M_mono (c4 _ h109 (sF h40) (aft _ eσ1).1 (aft _ eσ1).2.1 (aft _ eσ1).2.2.1 (aft _ eσ1).2.2.2.1) ?_)))
              rintro _ τ ⟨rfl, tτ, fτ, jτ⟩
              refine And.intro (fun h126 => ?_) (fun h126 => ?_)
              · skip
                have h126 := nI_eqT (a := zz) (b := 0) (by omega) (by decide) h126
                refine Exists.intro (nI (c + 1)) (And.intro (nI_add _ _) ?_)
                refine qx_K_le (ls := [.ref 160, .int (nI 2), .int (nI st), .int (nI left), .int (nI (c + 1)), .retAddr 0, .retAddr 0]) ⟨Or.inr rfl, Or.inr rfl, Or.inr rfl, Or.inr rfl, Or.inr rfl, Or.inl rfl, Or.inl rfl, trivial⟩ ?_
                have eB : ∀ x, qx_mi σ1 172 x = qx_mi σ 172 x := fun x => fσ1.i _ _ rfl
                have y : ¬ (v3 = true ∧ q_prd S rf ly k left o3 = true) := fun w => h89 (by have q := (ck σ1 (aft _ eσ1).1 (sF h40)).mpr w; rw [eB, eB] at q; exact q)
                have n4 := z4.2.mp h126
                exact nx _ (q2 (lT h31) (sF h40) y (Or.inr n4)) ((aft _ eσ1).1.fr fτ (jτ 0 (by decide))) ((jτ 1 (by decide)).trans (aft _ eσ1).2.1) (by rw [← t4 n4]; exact tτ) ((aft _ eσ1).2.2.2.2.1.tr fτ) (fun j hj => (jτ j (by omega)).trans ((aft _ eσ1).2.2.2.2.2.1 j hj))
              · skip
                have h126 := nI_neT (a := zz) (b := 0) (by omega) (by decide) h126
                have eB : ∀ x, qx_mi σ1 172 x = qx_mi σ 172 x := fun x => fσ1.i _ _ rfl
                have y : ¬ (v3 = true ∧ q_prd S rf ly k left o3 = true) := fun w => h89 (by have q := (ck σ1 (aft _ eσ1).1 (sF h40)).mpr w; rw [eB, eB] at q; exact q)
                rw [q4 (lT h31) (sF h40) y h109 (fun w => h126 (z4.2.mpr w))]
                exact ⟨by rw [ezz], tτ, (aft _ eσ1).2.2.2.2.1.tr fτ, fun j hj => (jτ j (by omega)).trans ((aft _ eσ1).2.2.2.2.2.1 j hj)⟩
          · skip
            refine Exists.intro (nI 1) (And.intro rfl ?_)
            refine Exists.intro (nI 3) (And.intro rfl ?_)
            refine And.intro rfl (Exists.intro _ (And.intro (by decide) (qx_M_mono (c_takeRow hpe (by decide) (by decide) (aft _ eσ1).2.2.2.2.2.2 rl (aft _ eσ1).2.2.2.1) ?_)))
            rintro _ ρ ⟨rfl, fρ, tρ⟩
            have eB : ∀ x, qx_mi σ1 172 x = qx_mi σ 172 x := fun x => fσ1.i _ _ rfl
            have y := (ck σ1 (aft _ eσ1).1 (sF h40)).mp (by rw [eB, eB]; exact h89)
            rw [q3 (lT h31) (sF h40) y]
            exact ⟨by rw [eo3]; rfl, tk3 _ tρ, (aft _ eσ1).2.2.2.2.1.tr (fρ.mn rfl), fun j hj => (fρ.i _ _ rfl).trans ((aft _ eσ1).2.2.2.2.2.1 j hj)⟩
        · skip
          have h40 := nI_neT (a := (st / 2 ^ c) &&& 1) (b := 0) (by omega) (by decide) h40
          refine Exists.intro (nI (c + 1)) (And.intro (nI_add _ _) ?_)
          exact nx _ (q1 (sT h40)) hX h1 ht hf hj

