/-! THE CLASS: MOST, the first best row -/
def q_r4 (p b c d : Nat) : Nat → Nat := fun i => if i = 0 then p else if i = 1 then b else if i = 2 then c else d
theorem q_fws2 {p b : Nat} (hb : b < 16) (t : Nat → Nat) : q_fws (2 + 8 * b) p t = va_up (va_up t p b) b p := by
  unfold q_fws
  dsimp only
  rw [show (2 + 8 * b) % 8 = 2 by omega, show (2 + 8 * b) / 8 % 16 = b by omega, if_pos rfl, if_neg (by decide), if_neg (by decide)]
theorem q_fws3 {p b c : Nat} (hb : b < 16) (hc : c < 16) (t : Nat → Nat) : q_fws (3 + 8 * b + 128 * c) p t = va_up (va_up (va_up t p b) b c) c p := by
  unfold q_fws
  dsimp only
  rw [show (3 + 8 * b + 128 * c) % 8 = 3 by omega, show (3 + 8 * b + 128 * c) / 8 % 16 = b by omega, show (3 + 8 * b + 128 * c) / 128 % 16 = c by omega, if_neg (by decide), if_pos (by decide), if_pos rfl, if_neg (by decide)]
theorem q_fws4 {p b c d : Nat} (hb : b < 16) (hc : c < 16) (hd : d < 16) (t : Nat → Nat) : q_fws (4 + 8 * b + 128 * c + 2048 * d) p t = va_up (va_up (va_up (va_up t p b) b c) c d) d p := by
  unfold q_fws
  dsimp only
  rw [show (4 + 8 * b + 128 * c + 2048 * d) % 8 = 4 by omega, show (4 + 8 * b + 128 * c + 2048 * d) / 8 % 16 = b by omega, show (4 + 8 * b + 128 * c + 2048 * d) / 128 % 16 = c by omega, show (4 + 8 * b + 128 * c + 2048 * d) / 2048 % 16 = d by omega]
  rfl
/-- what is found, and whose place is taken then -/
def q_fbr (t : Nat → Nat) (p : Nat) (x : Option q_O) : Nat × (Nat → Nat) := match x with
  | none => (0, t)
  | some o => (o.1, q_fws o.2.2.2 p t)
def fX (σ : qx_S) (S : qS) (rf : Option qR) (ly : Option (Nat × Nat)) (e k : Nat) (rg : Nat → Nat) (M : q_Mt) (left p : Nat) : Prop := bX σ S rf ly e k rg M ∧ (qx_mi σ 172 left).toInt = q_F (q_cn S rf ly) (q_gn S rf ly) (s_n S 1) k left ∧ (∀ t : Nat, (∀ i, t.testBit i = true → left.testBit i = true) → t.testBit p = false → (qx_mi σ 172 t).toInt = q_F (q_cn S rf ly) (q_gn S rf ly) (s_n S 1) k t) ∧ (∀ i, left.testBit i = true → i < s_n S 1) ∧ left.testBit p = true ∧ qx_mi σ 173 0 = nI p
abbrev kTr : List (Nat × Option Nat) := [(161, none), (173, none)]
theorem fX.fr {σ s : qx_S} {S : qS} {rf : Option qR} {ly : Option (Nat × Nat)} {e k : Nat} {rg : Nat → Nat} {M : q_Mt} {left p : Nat} (h : fX σ S rf ly e k rg M left p) (f : ql kTr σ s) (h0 : qx_mi s 173 0 = qx_mi σ 173 0) : fX s S rf ly e k rg M left p := by
  obtain ⟨a, b, c, d, g, i⟩ := h
  refine ⟨⟨⟨a.1.1.fr f rfl rfl, a.1.2.1.fr f (fun _ => rfl), fun n h1 h2 => (a.1.2.2.1 n h1 h2).fr f (fun _ => rfl), (f.i _ _ rfl).trans a.1.2.2.2⟩, a.2.1, a.2.2.1.fr f (fun _ => rfl) (fun _ => rfl) rfl rfl, a.2.2.2.1, fun q hq => (f.i _ _ rfl).trans (a.2.2.2.2.1 q hq), a.2.2.2.2.2⟩, ?_, fun t h1 h2 => ?_, d, g, h0.trans i⟩
  · rw [show qx_mi s 172 left = qx_mi σ 172 left from f.i _ _ rfl]; exact b
  · rw [show qx_mi s 172 t = qx_mi σ 172 t from f.i _ _ rfl]; exact c t h1 h2
theorem q_ck {σ : qx_S} {S : qS} {rf : Option qR} {ly : Option (Nat × Nat)} {e k : Nat} {rg : Nat → Nat} {M : q_Mt} {left p wd n num : Nat} {g : Int32} {v : Bool} {r : Nat → Nat} (hX : fX σ S rf ly e k rg M left p) (hv : v = true → q_RG (q_cn S rf ly) (q_gn S rf ly) (s_n S 1) k p wd g n num) (hs : v = true → q_rsl (q_cn S rf ly n) (q_gn S rf ly) r n n 0 0 = g * nI 16 - nI n) (hf : v = false → q_rsl (q_cn S rf ly n) (q_gn S rf ly) r n n 0 0 = (-1000000)) (hp : wd.testBit p = true) : q_rsc M (q_cn S rf ly n) (q_gn S rf ly) r n wd = qx_mi σ 172 left - qx_mi σ 172 (q_wo left wd) ↔ v = true ∧ q_vo (q_cn S rf ly) (q_gn S rf ly) (s_n S 1) k left (wd, g, n, num) = q_F (q_cn S rf ly) (q_gn S rf ly) (s_n S 1) k left := by
  obtain ⟨a, b, c, d, gp, i⟩ := hX
  have hpe := a.1.1.1.pe
  have k4 := a.2.2.2.2.2.2
  have hg := a.gB
  have ll : left < 2 ^ s_n S 1 := q_lt_bits d
  have wl := q_wo_le left wd
  have b2 := c (q_wo left wd) (fun i hi => by rw [q_wo_bit, Bool.and_eq_true] at hi; exact hi.1) (by rw [q_wo_bit, hp]; exact Bool.and_false _)
  have fb1 := q_F_b (can := q_cn S rf ly) hpe k4 hg ll
  have fb2 := q_F_b (can := q_cn S rf ly) hpe k4 hg (show q_wo left wd < 2 ^ s_n S 1 by omega)
  have ed : (qx_mi σ 172 left - qx_mi σ 172 (q_wo left wd)).toInt = q_F (q_cn S rf ly) (q_gn S rf ly) (s_n S 1) k left - q_F (q_cn S rf ly) (q_gn S rf ly) (s_n S 1) k (q_wo left wd) := by
    have := fb1.1
    have := fb1.2
    have := fb2.1
    have := fb2.2
    rw [Int32.toInt_sub, b, b2, Int.bmod_eq_of_le (by omega) (by omega)]
  have eno : (-1000000 : Int32).toInt = -1000000 := by decide
  have nno : ∀ x : Int32, x = (-1000000) → ¬ x = qx_mi σ 172 left - qx_mi σ 172 (q_wo left wd) := fun x hx z => by
    rw [hx] at z
    have := congrArg Int32.toInt z
    rw [ed, eno] at this
    omega
  cases hvv : v with
  | false =>
    constructor
    · intro h
      exfalso
      refine nno _ ?_ h
      unfold q_rsc
      split
      · rfl
      · exact hf hvv
    · rintro ⟨h, -⟩
      cases h
  | true =>
    have r1 := hv hvv
    have rp := q_RG_p r1
    have sb := q_RG_g hg r1
    have sc := q_sc (n := n) (by omega) sb (by omega)
    obtain ⟨f1, f2, f3, f4, f5⟩ := q_Mfin a.2.2.2.2.2.1 k4 hg a.2.1
    have c1 := (f3 _ _ _ _ _ r1).1
    have no := q_sc_no (n := n) (by omega) sb (by omega)
    have mn : ¬ M.1 wd = (-1000000) := fun z => by
      rw [z] at c1
      exact absurd no (Int32.not_lt.mpr c1)
    have e1 : q_rsc M (q_cn S rf ly n) (q_gn S rf ly) r n wd = g * nI 16 - nI n := by
      unfold q_rsc
      rw [if_neg mn]
      exact hs hvv
    rw [e1]
    unfold q_vo
    dsimp only
    constructor
    · intro h
      refine ⟨rfl, ?_⟩
      have := congrArg Int32.toInt h
      rw [sc, ed] at this
      omega
    · rintro ⟨-, h⟩
      refine Int32.toInt_inj.mp ?_
      rw [sc, ed]
      omega
abbrev q_prd (S : qS) (rf : Option qR) (ly : Option (Nat × Nat)) (k left : Nat) : q_O → Bool := fun o => decide (q_vo (q_cn S rf ly) (q_gn S rf ly) (s_n S 1) k left o = q_F (q_cn S rf ly) (q_gn S rf ly) (s_n S 1) k left)
theorem l_f3 {G : qx_G} {σ0 : qx_S} {S : qS} {rf : Option qR} {ly : Option (Nat × Nat)} {e k : Nat} {rg : Nat → Nat} {M : q_Mt} {left p b c : Nat} {t : Nat → Nat} (h3k : 3 < k) (hb : p < b) (hb2 : b < s_n S 1) (hc : p < c) (hc2 : c < s_n S 1) (hcb : c ≠ b) : ∀ (m d : Nat) (σ : qx_S), m + d = s_n S 1 → p < d → fX σ S rf ly e k rg M left p → qx_mi σ 173 1 = nI b → qx_mi σ 173 2 = nI c → tkC σ (s_n S 1) t → ql kTr σ0 σ → (∀ j, j < 3 → qx_mi σ 173 j = qx_mi σ0 173 j) → qx_K G qc_T 2 RX3 YX3_firstBest 10 [.ref 160, .int (nI 3), .int (nI (2 ^ p ||| 2 ^ b ||| 2 ^ c)), .int (nI left), .int (nI d), .retAddr 0, .retAddr 0] [] σ (fun r s => r = some (.int (nI (q_fbr t p ((q_o4 (q_cn S rf ly) (q_gn S rf ly) left p b c m d).find? (q_prd S rf ly k left))).1)) ∧ tkC s (s_n S 1) (q_fbr t p ((q_o4 (q_cn S rf ly) (q_gn S rf ly) left p b c m d).find? (q_prd S rf ly k left))).2 ∧ ql kTr σ0 s ∧ ∀ j, j < 3 → qx_mi s 173 j = qx_mi σ0 173 j) := by
  intro m
  induction m with
  | zero =>
    intro d σ hm hd hX h1 h2 ht hf hj
    have hpe := hX.1.1.1.1.pe
    have e5 := hX.1.1.1.2.1.1.2.1.trans hX.1.1.1.1.1.2.1.2.1.1
    obtain ⟨st, est⟩ : ∃ st, st = 2 ^ p ||| 2 ^ b ||| 2 ^ c := ⟨_, rfl⟩
    rw [← est]
    rw [show d = s_n S 1 by omega]
    refine qy_wp_ok (c := CX3_firstBest) (cuts := [10]) vX3_firstBest wX3_firstBest 2000 10 _ _ _ ?_
    refine And.intro rfl (Exists.intro 156 (And.intro rfl ?_))
    refine And.intro rfl (Exists.intro 16 (And.intro rfl ?_))
    refine And.intro rfl (Exists.intro 5 (Exists.intro (nI (s_n S 1)) (And.intro rfl (And.intro e5 ?_))))
    refine And.intro (fun h22 => ?_) (fun h22 => ?_)
    · skip
      have h22 := nI_leT (a := s_n S 1) (b := s_n S 1) (by omega) (by omega) h22
      refine Exists.intro (nI 0) (And.intro rfl ?_)
      exact ⟨rfl, ht, hf, hj⟩
    · skip
      have h22 := nI_leF (a := s_n S 1) (b := s_n S 1) (by omega) (by omega) h22
      exact absurd h22 (by omega)
  | succ m ih =>
    intro d σ hm hd hX h1 h2 ht hf hj
    have hpe := hX.1.1.1.1.pe
    have k4 := hX.1.2.2.2.2.2.2
    have h1024 : 2 ^ s_n S 1 ≤ 1024 := Nat.pow_le_pow_right (by decide) hpe
    have e5 := hX.1.1.1.2.1.1.2.1.trans hX.1.1.1.1.1.2.1.2.1.1
    have hd2 : d < s_n S 1 := by omega
    have hp := hX.2.2.2.1 p hX.2.2.2.2.1
    have ll : left < 2 ^ s_n S 1 := q_lt_bits hX.2.2.2.1
    obtain ⟨st, est⟩ : ∃ st, st = 2 ^ p ||| 2 ^ b ||| 2 ^ c := ⟨_, rfl⟩
    obtain ⟨wd, ewd⟩ : ∃ wd, wd = 2 ^ p ||| 2 ^ b ||| 2 ^ c ||| 2 ^ d := ⟨_, rfl⟩
    have ew : st ||| 2 ^ d = wd := by rw [est, ewd]
    have stl : st ≤ wd := Nat.le_of_testBit (fun i hi => by rw [← ew, Nat.testBit_or, hi]; rfl)
    have wbit : ∀ i, wd.testBit i = true → i < s_n S 1 := fun i hi => by
      rw [ewd, q_bit4, Bool.or_eq_true, Bool.or_eq_true, Bool.or_eq_true] at hi
      rcases hi with ((z | z) | z) | z <;> have z := of_decide_eq_true z <;> omega
    have wlt : wd < 2 ^ s_n S 1 := q_lt_bits wbit
    have wp : wd.testBit p = true := by rw [ewd, q_bit4, decide_eq_true rfl]; rfl
    have hl1 : left / 2 ^ d &&& 1 ≤ 1 := Nat.and_le_right
    have hs1 : st / 2 ^ d &&& 1 ≤ 1 := Nat.and_le_right
    have lT : ¬ left / 2 ^ d &&& 1 = 0 → left.testBit d = true := fun h => q_tb.mp (by omega)
    have lF : left / 2 ^ d &&& 1 = 0 → left.testBit d = false := fun h => Bool.eq_false_iff.mpr (fun w => by have := q_tb.mpr w; omega)
    have sF : st / 2 ^ d &&& 1 = 0 → d ≠ b ∧ d ≠ c := fun h => by
      have w : st.testBit d = false := Bool.eq_false_iff.mpr (fun w => by have := q_tb.mpr w; omega)
      rw [est, q_bit3, Bool.or_eq_false_iff, Bool.or_eq_false_iff] at w
      exact ⟨fun z => of_decide_eq_false w.1.2 z.symm, fun z => of_decide_eq_false w.2 z.symm⟩
    have sT : ¬ st / 2 ^ d &&& 1 = 0 → d = b ∨ d = c := fun h => by
      have w : st.testBit d = true := q_tb.mp (by omega)
      rw [est, q_bit3, Bool.or_eq_true, Bool.or_eq_true] at w
      rcases w with (z | z) | z
      · have := of_decide_eq_true z; omega
      · exact Or.inl (of_decide_eq_true z).symm
      · exact Or.inr (of_decide_eq_true z).symm
    obtain ⟨v4, ev4⟩ : ∃ v4, v4 = (q_cn S rf ly 4 p b && q_cn S rf ly 4 b c && q_cn S rf ly 4 c d && q_cn S rf ly 4 d p) := ⟨_, rfl⟩
    have cnd : (left.testBit d && !decide (d = b) && !decide (d = c) && q_cn S rf ly 4 p b && q_cn S rf ly 4 b c && q_cn S rf ly 4 c d && q_cn S rf ly 4 d p) = (left.testBit d && !decide (d = b) && !decide (d = c) && v4) := by
      rw [ev4]
      simp only [Bool.and_assoc]
    have skip : (left.testBit d && !decide (d = b) && !decide (d = c) && v4) = false ∨ q_prd S rf ly k left (wd, q_gn S rf ly p b + q_gn S rf ly b c + q_gn S rf ly c d + q_gn S rf ly d p, 4, 4 + 8 * b + 128 * c + 2048 * d) = false → (q_o4 (q_cn S rf ly) (q_gn S rf ly) left p b c (m + 1) d).find? (q_prd S rf ly k left) = (q_o4 (q_cn S rf ly) (q_gn S rf ly) left p b c m (d + 1)).find? (q_prd S rf ly k left) := fun h => by
      show (if _ then _ else _ : List q_O).find? _ = _
      rw [cnd, ← ewd]
      by_cases z : (left.testBit d && !decide (d = b) && !decide (d = c) && v4) = true
      · rw [if_pos z]
        have h := h.resolve_left (by rw [z]; decide)
        simp only [List.find?_cons, h]
      · rw [if_neg z]
    have take : (left.testBit d && !decide (d = b) && !decide (d = c) && v4) = true → q_prd S rf ly k left (wd, q_gn S rf ly p b + q_gn S rf ly b c + q_gn S rf ly c d + q_gn S rf ly d p, 4, 4 + 8 * b + 128 * c + 2048 * d) = true → (q_o4 (q_cn S rf ly) (q_gn S rf ly) left p b c (m + 1) d).find? (q_prd S rf ly k left) = some (wd, q_gn S rf ly p b + q_gn S rf ly b c + q_gn S rf ly c d + q_gn S rf ly d p, 4, 4 + 8 * b + 128 * c + 2048 * d) := fun z h => by
      show (if _ then _ else _ : List q_O).find? _ = _
      rw [cnd, ← ewd, if_pos z]
      simp only [List.find?_cons, h]
    have rv : q_rsl (q_cn S rf ly 4) (q_gn S rf ly) (q_r4 p b c d) 4 4 0 0 = if q_cn S rf ly 4 p b = true then (if q_cn S rf ly 4 b c = true then (if q_cn S rf ly 4 c d = true then (if q_cn S rf ly 4 d p = true then (0 + q_gn S rf ly p b + q_gn S rf ly b c + q_gn S rf ly c d + q_gn S rf ly d p) * nI 16 - nI 4 else (-1000000)) else (-1000000)) else (-1000000)) else (-1000000) := rfl
    have vT : v4 = true → q_cn S rf ly 4 p b = true ∧ q_cn S rf ly 4 b c = true ∧ q_cn S rf ly 4 c d = true ∧ q_cn S rf ly 4 d p = true := fun h => by
      rw [ev4] at h
      simp only [Bool.and_eq_true] at h
      exact ⟨h.1.1.1, h.1.1.2, h.1.2, h.2⟩
    have rT : v4 = true → q_rsl (q_cn S rf ly 4) (q_gn S rf ly) (q_r4 p b c d) 4 4 0 0 = (q_gn S rf ly p b + q_gn S rf ly b c + q_gn S rf ly c d + q_gn S rf ly d p) * nI 16 - nI 4 := fun h => by
      obtain ⟨y1, y2, y3, y4⟩ := vT h
      rw [rv, if_pos y1, if_pos y2, if_pos y3, if_pos y4, Int32.zero_add]
    have rF : v4 = false → q_rsl (q_cn S rf ly 4) (q_gn S rf ly) (q_r4 p b c d) 4 4 0 0 = (-1000000) := fun h => by
      rw [rv]
      split
      · split
        · split
          · split
            · next y1 y2 y3 y4 => rw [ev4, y1, y2, y3, y4] at h; cases h
            · rfl
          · rfl
        · rfl
      · rfl
    have ck : ∀ s, fX s S rf ly e k rg M left p → d ≠ b → d ≠ c → (q_rsc M (q_cn S rf ly 4) (q_gn S rf ly) (q_r4 p b c d) 4 wd = qx_mi s 172 left - qx_mi s 172 (q_wo left wd) ↔ v4 = true ∧ q_vo (q_cn S rf ly) (q_gn S rf ly) (s_n S 1) k left (wd, q_gn S rf ly p b + q_gn S rf ly b c + q_gn S rf ly c d + q_gn S rf ly d p, 4, 4 + 8 * b + 128 * c + 2048 * d) = q_F (q_cn S rf ly) (q_gn S rf ly) (s_n S 1) k left) := fun s hs n1 n2 => q_ck hs (fun h => Or.inr (Or.inr ⟨rfl, h3k, b, c, d, hb, hb2, hc, hc2, hcb, hd, hd2, n1, n2, (vT h).1, (vT h).2.1, (vT h).2.2.1, (vT h).2.2.2, ewd, rfl, rfl⟩)) rT rF wp
    have aft : ∀ s, s = qx_wi σ 173 3 (nI d) → fX s S rf ly e k rg M left p ∧ qx_mi s 173 1 = nI b ∧ qx_mi s 173 2 = nI c ∧ tkC s (s_n S 1) t ∧ ql kTr σ0 s ∧ (∀ j, j < 3 → qx_mi s 173 j = qx_mi σ0 173 j) ∧ rwC s (q_r4 p b c d) 4 := by
      intro s es
      have f := qn_wi es
      have o : ∀ j, j < 3 → qx_mi s 173 j = qx_mi σ 173 j := fun j hj => qn_ne es (Or.inr (by omega))
      refine ⟨hX.fr (f.mn rfl) (o 0 (by decide)), (o 1 (by decide)).trans h1, (o 2 (by decide)).trans h2, fun i hi => (f.i _ _ rfl).trans (ht i hi), hf.tr (f.mn rfl), fun j hj3 => (o j hj3).trans (hj j hj3), fun i hi => ?_⟩
      rcases (show i = 0 ∨ i = 1 ∨ i = 2 ∨ i = 3 by omega) with z | z | z | z
      · rw [z]; exact (o 0 (by decide)).trans hX.2.2.2.2.2
      · rw [z]; exact (o 1 (by decide)).trans h1
      · rw [z]; exact (o 2 (by decide)).trans h2
      · rw [z]; exact qn_eq es
    have rl : ∀ i, i < 4 → q_r4 p b c d i < s_n S 1 := fun i hi => by
      rcases (show i = 0 ∨ i = 1 ∨ i = 2 ∨ i = 3 by omega) with z | z | z | z <;> rw [z]
      · exact hp
      · exact hb2
      · exact hc2
      · exact hd2
    have nx : ∀ s, (left.testBit d && !decide (d = b) && !decide (d = c) && v4) = false ∨ q_prd S rf ly k left (wd, q_gn S rf ly p b + q_gn S rf ly b c + q_gn S rf ly c d + q_gn S rf ly d p, 4, 4 + 8 * b + 128 * c + 2048 * d) = false → fX s S rf ly e k rg M left p → qx_mi s 173 1 = nI b → qx_mi s 173 2 = nI c → tkC s (s_n S 1) t → ql kTr σ0 s → (∀ j, j < 3 → qx_mi s 173 j = qx_mi σ0 173 j) → qx_K G qc_T 2 RX3 YX3_firstBest 10 [.ref 160, .int (nI 3), .int (nI st), .int (nI left), .int (nI (d + 1)), .retAddr 0, .retAddr 0] [] s (fun r s => r = some (.int (nI (q_fbr t p ((q_o4 (q_cn S rf ly) (q_gn S rf ly) left p b c (m + 1) d).find? (q_prd S rf ly k left))).1)) ∧ tkC s (s_n S 1) (q_fbr t p ((q_o4 (q_cn S rf ly) (q_gn S rf ly) left p b c (m + 1) d).find? (q_prd S rf ly k left))).2 ∧ ql kTr σ0 s ∧ ∀ j, j < 3 → qx_mi s 173 j = qx_mi σ0 173 j) := by
      intro s h x1 x2 x3 x4 x5 x6
      rw [skip h, est]
      exact ih (d + 1) s (by omega) (by omega) x1 x2 x3 x4 x5 x6
    have q0 : left.testBit d = false → (left.testBit d && !decide (d = b) && !decide (d = c) && v4) = false := fun h => by rw [h]; rfl
    have q1 : d = b ∨ d = c → (left.testBit d && !decide (d = b) && !decide (d = c) && v4) = false := fun h => by
      rcases h with h | h
      · rw [decide_eq_true h]; simp
      · rw [decide_eq_true h]; simp
    have q2 : ∀ s, fX s S rf ly e k rg M left p → d ≠ b → d ≠ c → ¬ q_rsc M (q_cn S rf ly 4) (q_gn S rf ly) (q_r4 p b c d) 4 wd = qx_mi s 172 left - qx_mi s 172 (q_wo left wd) → (left.testBit d && !decide (d = b) && !decide (d = c) && v4) = false ∨ q_prd S rf ly k left (wd, q_gn S rf ly p b + q_gn S rf ly b c + q_gn S rf ly c d + q_gn S rf ly d p, 4, 4 + 8 * b + 128 * c + 2048 * d) = false := fun s hs n1 n2 hne => by
      cases hv : v4 with
      | false => left; rw [Bool.and_false]
      | true => right; exact decide_eq_false (fun z => hne ((ck s hs n1 n2).mpr ⟨hv, z⟩))
    have q3 : ∀ s s', fX s S rf ly e k rg M left p → left.testBit d = true → d ≠ b → d ≠ c → q_rsc M (q_cn S rf ly 4) (q_gn S rf ly) (q_r4 p b c d) 4 wd = qx_mi s 172 left - qx_mi s 172 (q_wo left wd) → tkC s' (s_n S 1) (q_tkr (q_r4 p b c d) 4 4 0 t) → nI wd = nI (q_fbr t p ((q_o4 (q_cn S rf ly) (q_gn S rf ly) left p b c (m + 1) d).find? (q_prd S rf ly k left))).1 ∧ tkC s' (s_n S 1) (q_fbr t p ((q_o4 (q_cn S rf ly) (q_gn S rf ly) left p b c (m + 1) d).find? (q_prd S rf ly k left))).2 := fun s s' hs hl n1 n2 he htk => by
      obtain ⟨w1, w2⟩ := (ck s hs n1 n2).mp he
      rw [take (by rw [hl, decide_eq_false n1, decide_eq_false n2, w1]; rfl) (decide_eq_true w2)]
      refine ⟨rfl, ?_⟩
      show tkC s' (s_n S 1) (q_fws (4 + 8 * b + 128 * c + 2048 * d) p t)
      rw [q_fws4 (by omega) (by omega) (by omega)]
      exact htk
    rw [← est]
    refine qy_wp_ok (c := CX3_firstBest) (cuts := [10]) vX3_firstBest wX3_firstBest 2000 10 _ _ _ ?_
    refine And.intro rfl (Exists.intro 156 (And.intro rfl ?_))
    refine And.intro rfl (Exists.intro 16 (And.intro rfl ?_))
    refine And.intro rfl (Exists.intro 5 (Exists.intro (nI (s_n S 1)) (And.intro rfl (And.intro e5 ?_))))
    refine And.intro (fun h22 => ?_) (fun h22 => ?_)
    · skip
      have h22 := nI_leT (a := s_n S 1) (b := d) (by omega) (by omega) h22
      exact absurd h22 (by omega)
    · skip
      have h22 := nI_leF (a := s_n S 1) (b := d) (by omega) (by omega) h22
      refine Exists.intro (nI (left / 2 ^ d)) (And.intro (nI_shr (by omega) (by omega)) ?_)
      refine Exists.intro (nI 1) (And.intro rfl ?_)
      refine Exists.intro (nI ((left / 2 ^ d) &&& 1)) (And.intro (nI_and _ _) ?_)
      refine And.intro (fun h31 => ?_) (fun h31 => ?_)
      · skip
        have h31 := nI_eqT (a := (left / 2 ^ d) &&& 1) (b := 0) (by omega) (by decide) h31
        refine Exists.intro (nI (d + 1)) (And.intro (nI_add _ _) ?_)
        exact nx _ (Or.inl (q0 (lF h31))) hX h1 h2 ht hf hj
      · skip
        have h31 := nI_neT (a := (left / 2 ^ d) &&& 1) (b := 0) (by omega) (by decide) h31
        refine Exists.intro (nI (st / 2 ^ d)) (And.intro (nI_shr (by omega) (by omega)) ?_)
        refine Exists.intro (nI 1) (And.intro rfl ?_)
        refine Exists.intro (nI ((st / 2 ^ d) &&& 1)) (And.intro (nI_and _ _) ?_)
        refine And.intro (fun h40 => ?_) (fun h40 => ?_)
        · skip
          have h40 := nI_eqT (a := (st / 2 ^ d) &&& 1) (b := 0) (by omega) (by decide) h40
          refine And.intro rfl (Exists.intro 173 (And.intro rfl ?_))
          obtain ⟨σ1, eσ1⟩ : ∃ zs, zs = (qx_wi σ 173 3 (nI d)) := ⟨_, rfl⟩
          have fσ1 := qn_wi eσ1
          refine Exists.intro (3) (Exists.intro σ1 (And.intro rfl (And.intro ⟨5, rfl, by decide, by decide⟩ (And.intro eσ1.symm ?_))))
          refine Exists.intro (nI 1) (And.intro rfl ?_)
          refine Exists.intro (nI (2 ^ d)) (And.intro (nI_sh1 (by omega)) ?_)
          refine Exists.intro (nI wd) (And.intro ((nI_or _ _).trans (congrArg nI ew)) ?_)
          refine Exists.intro (nI 1) (And.intro rfl ?_)
          refine Exists.intro (nI 4) (And.intro rfl ?_)
          refine And.intro rfl (Exists.intro _ (And.intro (by decide) (qx_M_mono (c_rowScore hpe (aft _ eσ1).1.1.1.2.1 ((aft _ eσ1).1.1.1.2.2.1 4 (by omega) (by omega)) (by decide) (by decide) (aft _ eσ1).2.2.2.2.2.2 rl (by omega) (aft _ eσ1).1.1.2.2.1) ?_)))
          rintro _ _ ⟨rfl, rfl⟩
          refine And.intro rfl (Exists.intro 172 (And.intro rfl ?_))
          refine Exists.intro (left) (Exists.intro (qx_mi σ 172 left) (And.intro rfl (And.intro ⟨1024, rfl, by omega, by decide⟩ (And.intro ((fσ1.i _ _ rfl).trans (rfl)) ?_))))
          refine And.intro rfl (Exists.intro 172 (And.intro rfl ?_))
          refine Exists.intro ((-1)) (And.intro (by decide) ?_)
          refine Exists.intro ((nI wd) ^^^ (-1)) (And.intro rfl ?_)
          refine Exists.intro (nI (q_wo left wd)) (And.intro (nI_andn _ _ (by omega)) ?_)
          refine Exists.intro (q_wo left wd) (Exists.intro (qx_mi σ 172 (q_wo left wd)) (And.intro rfl (And.intro ⟨1024, rfl, by (have := q_wo_le left wd; omega), by decide⟩ (And.intro ((fσ1.i _ _ rfl).trans (rfl)) ?_))))
          refine Exists.intro ((qx_mi σ 172 left) - (qx_mi σ 172 (q_wo left wd))) (And.intro rfl ?_)
          refine And.intro (fun h89 => ?_) (fun h89 => ?_)
          · skip
            refine Exists.intro (nI 1) (And.intro rfl ?_)
            refine Exists.intro (nI 4) (And.intro rfl ?_)
            refine And.intro rfl (Exists.intro 17 (Exists.intro (nI k) (And.intro rfl (And.intro ((fσ1.i _ _ rfl).trans (hX.1.1.2.2.2)) ?_))))
            refine And.intro (fun h109 => ?_) (fun h109 => ?_)
            · skip
              have h109 := nI_leT (a := k) (b := 4) (by omega) (by decide) h109
              refine Exists.intro (nI (d + 1)) (And.intro (nI_add _ _) ?_)
              refine qx_K_le (ls := [.ref 160, .int (nI 3), .int (nI st), .int (nI left), .int (nI (d + 1)), .retAddr 0, .retAddr 0]) ⟨Or.inr rfl, Or.inr rfl, Or.inr rfl, Or.inr rfl, Or.inr rfl, Or.inl rfl, Or.inr rfl, trivial⟩ ?_
              have eB : ∀ x, qx_mi σ1 172 x = qx_mi σ 172 x := fun x => fσ1.i _ _ rfl
              exact nx _ (q2 σ1 (aft _ eσ1).1 (sF h40).1 (sF h40).2 (by rw [eB, eB]; exact h89)) (aft _ eσ1).1 (aft _ eσ1).2.1 (aft _ eσ1).2.2.1 (aft _ eσ1).2.2.2.1 (aft _ eσ1).2.2.2.2.1 (aft _ eσ1).2.2.2.2.2.1
            · skip
              have h109 := nI_leF (a := k) (b := 4) (by omega) (by decide) h109
              exact absurd h109 (by omega)
          · skip
            refine Exists.intro (nI 1) (And.intro rfl ?_)
            refine Exists.intro (nI 4) (And.intro rfl ?_)
            refine And.intro rfl (Exists.intro _ (And.intro (by decide) (qx_M_mono (c_takeRow hpe (by decide) (by decide) (aft _ eσ1).2.2.2.2.2.2 rl (aft _ eσ1).2.2.2.1) ?_)))
            rintro _ ρ ⟨rfl, fρ, tρ⟩
            have eB : ∀ x, qx_mi σ1 172 x = qx_mi σ 172 x := fun x => fσ1.i _ _ rfl
            have y := q3 σ1 ρ (aft _ eσ1).1 (lT h31) (sF h40).1 (sF h40).2 (by rw [eB, eB]; exact h89) tρ
            exact ⟨congrArg (fun z => some (Value.int z)) y.1, y.2, (aft _ eσ1).2.2.2.2.1.tr (fρ.mn rfl), fun j hj => (fρ.i _ _ rfl).trans ((aft _ eσ1).2.2.2.2.2.1 j hj)⟩
        · skip
          have h40 := nI_neT (a := (st / 2 ^ d) &&& 1) (b := 0) (by omega) (by decide) h40
          refine Exists.intro (nI (d + 1)) (And.intro (nI_add _ _) ?_)
          exact nx _ (Or.inl (q1 (sT h40))) hX h1 h2 ht hf hj

