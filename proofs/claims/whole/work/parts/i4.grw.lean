/-! THE CLASS: SITUATIONS grow -/
theorem shQ.at {σ : qx_S} {b y : Nat} (h : shQ σ b) (h1 : b ≤ y) (h2 : y ≤ b + 6) : qx_sh qc_T σ y = (14, 0) ∨ qx_sh qc_T σ y = (0, 2001) ∨ qx_sh qc_T σ y = (0, 4096) := by
  rcases (show y = b ∨ (1 ≤ y - b ∧ y - b ≤ 5) ∨ y = b + 6 by omega) with z | z | z
  · rw [z]; exact Or.inl h.1
  · have k := h.2.1 (y - b) z.1 z.2
    rw [show b + (y - b) = y by omega] at k
    exact Or.inr (Or.inl k)
  · rw [z]; exact Or.inr (Or.inr h.2.2)
theorem kQA_ne {b y j : Nat} (h : y < b ∨ b + 6 < y) : pL (kQA b) y j = false := by
  refine pL_ne (fun q hq => Or.inl (fun z => ?_))
  simp only [List.mem_cons, List.not_mem_nil, or_false] at hq
  rcases hq with e | e | e | e | e | e | e <;> (rw [e] at z; have z : _ = y := z; simp only at z; omega)
theorem shQ.ne {σ : qx_S} {b y : Nat} (h : shQ σ b) (h1 : qx_sh qc_T σ y ≠ (14, 0)) (h2 : qx_sh qc_T σ y ≠ (0, 2001)) (h3 : qx_sh qc_T σ y ≠ (0, 4096)) (j : Nat) : pL (kQA b) y j = false := by
  refine kQA_ne ?_
  by_cases z : b ≤ y ∧ y ≤ b + 6
  · rcases h.at z.1 z.2 with k | k | k
    · exact absurd k h1
    · exact absurd k h2
    · exact absurd k h3
  · omega
theorem shR.nq {σ : qx_S} {a b y : Nat} (h : shR σ a) (h1 : a ≤ y) (h2 : y ≤ a + 5) (hq : shQ σ b) (j : Nat) : pL (kQA b) y j = false := by
  rcases (show y = a ∨ y = a + 1 ∨ y = a + 2 ∨ y = a + 3 ∨ y = a + 4 ∨ y = a + 5 by omega) with z | z | z | z | z | z
  · exact hq.ne (by rw [z, h.2.1]; decide) (by rw [z, h.2.1]; decide) (by rw [z, h.2.1]; decide) j
  · exact hq.ne (by rw [z, h.2.2.1]; decide) (by rw [z, h.2.2.1]; decide) (by rw [z, h.2.2.1]; decide) j
  · exact hq.ne (by rw [z, h.2.2.2.1]; decide) (by rw [z, h.2.2.2.1]; decide) (by rw [z, h.2.2.2.1]; decide) j
  · exact hq.ne (by rw [z, h.2.2.2.2.1]; decide) (by rw [z, h.2.2.2.2.1]; decide) (by rw [z, h.2.2.2.2.1]; decide) j
  · exact hq.ne (by rw [z, h.2.2.2.2.2.1]; decide) (by rw [z, h.2.2.2.2.2.1]; decide) (by rw [z, h.2.2.2.2.2.1]; decide) j
  · exact hq.ne (by rw [z, h.2.2.2.2.2.2]; decide) (by rw [z, h.2.2.2.2.2.2]; decide) (by rw [z, h.2.2.2.2.2.2]; decide) j
/-- a search's own cells -/
theorem cI.qq {σ s : qx_S} {S : qS} {rf : Option qR} {e b : Nat} (h : cI σ S rf e) (hq : shQ σ b) (hb : 229 ≤ b) (f : ql (kQA b) σ s) : cI s S rf e := by
  obtain ⟨a1, a2, a3, a4, a5, a6, a7, a8, a9⟩ := h
  have lo : ∀ y j, y < 229 → qx_mi s y j = qx_mi σ y j := fun y j hy => f.i _ _ (kQA_ne (by omega))
  refine ⟨a1, a2.fb a1.1.1 a1.b12 (fun y j _ h2 => lo _ _ (by omega)), a3.fr f, (f.r _ _).trans a4, ?_, ?_, a7.fr f (fun j => kQA_ne (by omega)) (kQA_ne (by omega)) (kQA_ne (by omega)), ?_, by rw [f.1]; exact a9⟩
  · cases rf with
    | none => exact (f.r _ _).trans a5
    | some R =>
      obtain ⟨x, h1, h2, h3, h4, h5⟩ := a5
      exact ⟨x, (f.r _ _).trans h1, ⟨h2.1, by rw [f.1]; exact h2.2⟩, h3.fr f, h4.lo (fun y hy hy2 j => f.i _ _ (h3.nq hy hy2 hq j)), h5⟩
  · rw [show qx_mr s 156 7 = qx_mr σ 156 7 from f.r _ _]
    exact a6.fr f (kQA_ne (by omega)) (kQA_ne (by omega))
  · rcases a8 with h | ⟨t, h⟩
    · exact Or.inl ((f.r _ _).trans h)
    · have hs := h.2.2.2.1
      exact Or.inr ⟨t, h.fr f (fun j => hq.ne (by rw [hs]; decide) (by rw [hs]; decide) (by rw [hs]; decide) j)⟩
theorem mQ.cg {σ s : qx_S} {b : Nat} {Q : q_Q} (h : mQ σ b Q) (hs : ∀ y, b ≤ y → y ≤ b + 6 → qx_sh qc_T s y = qx_sh qc_T σ y) (hm : ∀ y j, b ≤ y → y ≤ b + 6 → qx_mi s y j = qx_mi σ y j) (h1 : σ.1 ≤ s.1) : mQ s b Q := by
  obtain ⟨hq, ⟨hb, hb2⟩, h7, h8, hz, hg, hc, sl, H, hsl⟩ := h
  refine ⟨⟨(hs _ (by omega) (by omega)).trans hq.1, fun i i1 i2 => (hs _ (by omega) (by omega)).trans (hq.2.1 i i1 i2), (hs _ (by omega) (by omega)).trans hq.2.2⟩, ⟨hb, by omega⟩, (hm _ _ (by omega) (by omega)).trans h7, (hm _ _ (by omega) (by omega)).trans h8, hz, hg, fun i hi => ?_, sl, H, fun j hj => (hm _ _ (by omega) (by omega)).trans (hsl j hj)⟩
  have c := hc i hi
  exact ⟨⟨(hm _ _ (by omega) (by omega)).trans c.1.1, c.1.2⟩, ⟨(hm _ _ (by omega) (by omega)).trans c.2.1.1, c.2.1.2⟩, (hm _ _ (by omega) (by omega)).trans c.2.2.1, (hm _ _ (by omega) (by omega)).trans c.2.2.2.1, (hm _ _ (by omega) (by omega)).trans c.2.2.2.2.1, c.2.2.2.2.2⟩
theorem shQ.n64 {σ : qx_S} {b y : Nat} (h : shQ σ b) (h1 : b ≤ y) (h2 : y ≤ b + 6) : qx_sh qc_T σ y ≠ (0, 6400) := by
  rcases h.at h1 h2 with k | k | k <;> rw [k] <;> decide
abbrev kQL (b : Nat) : List (Nat × Option Nat) := (157, none) :: (158, none) :: (159, none) :: kQA b
/-- a search under way -/
def vQ (σ0 : qx_S) (S : qS) (rf : Option qR) (e b : Nat) (s : qx_S) (Q : q_Q) : Prop := mQ s b Q ∧ cI s S rf e ∧ qg (kQL b) σ0 s ∧ qx_mi s b 9 = nI e ∧ ∀ i, i < Q.1 → Q.2.2.1 i < 8 ^ s_n S 1
def pQ (k w : Nat) (Q : q_Q) : Prop := Q.2.1 = k ∧ k < Q.1 ∧ Q.2.2.1 k = w
theorem q_ad_cs (Q : q_Q) (w f pr : Nat) : (∃ wy, q_ad Q w f pr = (Q.1, Q.2.1, Q.2.2.1, Q.2.2.2.1, Q.2.2.2.2.1, Q.2.2.2.2.2.1, wy)) ∨ (∃ a b c d, q_ad Q w f pr = (Q.1 + 1, Q.2.1, va_up Q.2.2.1 Q.1 w, a, b, c, d)) := by
  unfold q_ad
  split
  · split
    · exact Or.inl ⟨_, rfl⟩
    · exact Or.inl ⟨_, rfl⟩
  · split
    · exact Or.inl ⟨_, rfl⟩
    · exact Or.inr ⟨_, _, _, _, rfl⟩
theorem pQ.ad {k w w' f pr : Nat} {Q : q_Q} (h : pQ k w Q) : pQ k w (q_ad Q w' f pr) := by
  obtain ⟨h1, h2, h3⟩ := h
  rcases q_ad_cs Q w' f pr with ⟨wy, e⟩ | ⟨a, b, c, d, e⟩
  · rw [e]; exact ⟨h1, h2, h3⟩
  · rw [e]
    exact ⟨h1, by show k < Q.1 + 1; omega, by show va_up Q.2.2.1 Q.1 w' k = w; rw [va_up_ne _ _ (by omega)]; exact h3⟩
theorem q_ad_bd {B w' f pr : Nat} {Q : q_Q} (h : ∀ i, i < Q.1 → Q.2.2.1 i < B) (hw : w' < B) : ∀ i, i < (q_ad Q w' f pr).1 → (q_ad Q w' f pr).2.2.1 i < B := by
  rcases q_ad_cs Q w' f pr with ⟨wy, e⟩ | ⟨a, b, c, d, e⟩
  · rw [e]; exact h
  · rw [e]
    intro i hi
    have hi : i < Q.1 + 1 := hi
    show va_up Q.2.2.1 Q.1 w' i < B
    by_cases z : i = Q.1
    · rw [z, va_up_self]; exact hw
    · rw [va_up_ne _ _ z]; exact h i (by omega)
theorem q_sw_l8 (pe n a b : Nat) : q_sw pe n a b < 8 ^ pe := q_hr_lt _ pe (fun _ _ => q_sd_lt _ _ _ _)
theorem q_8pe {pe : Nat} (h : pe ≤ 10) : 8 ^ pe ≤ 1073741824 := Nat.pow_le_pow_right (n := 8) (by decide) h
theorem c_canQ {G : qx_G} {σ0 σ : qx_S} {S : qS} {rf : Option qR} {e b : Nat} {Q : q_Q} (h : vQ σ0 S rf e b σ Q) {i j x y : Nat} (hi : i < s_n S 1) (hj : j < s_n S 1) (hx : x < 8) (hy : y < 8) : qx_M G qc_T 4 YX2_canChange [.ref 156, .int (nI i), .int (nI j), .int (nI x), .int (nI y)] σ (fun r s => r = some (.int (bI (q_c2 S rf i j x y))) ∧ vQ σ0 S rf e b s Q) := by
  obtain ⟨hm, hI, hf, h9, hB⟩ := h
  refine qx_M_mono (c_canChange hI.W hI.K cH_rf hI.T cH2_rf hI.2.2.2.2.2.2.2.2 hi hj hx hy) (fun r s h => ⟨h.1, ?_⟩)
  have f := h.2.1
  have hb := hm.2.1.1
  have hb2 := hm.2.1.2
  have ne : ∀ y j, b ≤ y → pL kLw y j = false := fun y j hy => pL_ne (by simp; omega)
  have mi : ∀ y j, b ≤ y → y ≤ b + 6 → qx_mi s y j = qx_mi σ y j := fun y j h1 h2 => f.iv (by omega) (Or.inr (hm.1.n64 h1 h2)) (ne y j h1)
  exact ⟨hm.cg (fun y h1 h2 => f.sv (by omega)) mi f.2.1, hI.gw f rfl rfl rfl h.2.2.1 h.2.2.2, hf.tr (f.mono (fun x j hp => by
    have hp2 : (Nat.beq 157 x && true || (Nat.beq 158 x && true || (Nat.beq 159 x && true || pL (kQA b) x j))) = false := hp
    simp only [Bool.or_eq_false_iff] at hp2
    show (Nat.beq 157 x && true || (Nat.beq 158 x && true || (Nat.beq 159 x && true || false))) = false
    rw [hp2.1, hp2.2.1, hp2.2.2.1]
    rfl)), (mi _ _ (by omega) (by omega)).trans h9, hB⟩
theorem vQ.gf {σ0 σ s : qx_S} {S : qS} {rf : Option qR} {e b : Nat} {Q Q' : q_Q} (h : vQ σ0 S rf e b σ Q) (f : ql (kQA b) σ s) (hm' : mQ s b Q') (h9 : qx_mi s b 9 = qx_mi σ b 9) (hB : ∀ i, i < Q'.1 → Q'.2.2.1 i < 8 ^ s_n S 1) : vQ σ0 S rf e b s Q' := by
  obtain ⟨hm, hI, hf, h9', _⟩ := h
  exact ⟨hm', hI.qq hm.1 hm.2.1.1 f, hf.tr ((qg.of f hI.2.2.2.2.2.2.2.2).mono (fun x j hp => by
    have hp2 : (Nat.beq 157 x && true || (Nat.beq 158 x && true || (Nat.beq 159 x && true || pL (kQA b) x j))) = false := hp
    simp only [Bool.or_eq_false_iff] at hp2
    exact hp2.2.2.2)), h9.trans h9', hB⟩
theorem c_addQ {G : qx_G} {σ0 σ : qx_S} {S : qS} {rf : Option qR} {e b w f pr : Nat} {Q : q_Q} (h : vQ σ0 S rf e b σ Q) (hw : w < 8 ^ s_n S 1) (hf : f < Q.1) (hpr : pr < 1000) : qx_M G qc_T 1 YX6_add [.ref b, .int (nI w), .int (nI f), .int (nI pr)] σ (fun r s => r = none ∧ vQ σ0 S rf e b s (q_ad Q w f pr)) := by
  have hb := h.1.2.1.1
  refine qx_M_mono (c_qadd h.1 (Nat.lt_of_lt_of_le hw (q_8pe h.2.1.1.pe)) hf hpr) (fun r s k => ⟨k.1, h.gf (qf.cv k.2.1 (by simp)) k.2.2 ?_ (q_ad_bd h.2.2.2.2 hw)⟩)
  exact k.2.1.i b 9 (pL_ne (by simp))
/-- one two -/
def q_qv (S : qS) (rf : Option qR) (k w a b : Nat) (Q : q_Q) : q_Q := if q_dg w a = q_dg w b then Q else if q_c2 S rf a b (q_dg w a) (q_dg w b) = true then q_ad Q (q_sw (s_n S 1) w a b) k (a * 10 + b) else Q
def q_itQ (f : Nat → q_Q → q_Q) : Nat → Nat → q_Q → q_Q
  | 0, _, Q => Q
  | m + 1, i, Q => q_itQ f m (i + 1) (f i Q)
def q_qb (S : qS) (rf : Option qR) (k w a : Nat) (Q : q_Q) : q_Q := q_itQ (q_qv S rf k w a) (s_n S 1 - (a + 1)) (a + 1) Q
def q_qa (S : qS) (rf : Option qR) (k w : Nat) (Q : q_Q) : q_Q := q_itQ (q_qb S rf k w) (s_n S 1) 0 Q
def q_qg (S : qS) (rf : Option qR) (Q : q_Q) : q_Q := ((q_qa S rf Q.2.1 (Q.2.2.1 Q.2.1) Q).1, Q.2.1 + 1, (q_qa S rf Q.2.1 (Q.2.2.1 Q.2.1) Q).2.2)
theorem l_qb {G : qx_G} {σ0 : qx_S} {S : qS} {rf : Option qR} {e b k w a : Nat} {Z : q_Q} {Φ : qx_F} (ha : a < s_n S 1) (hw : w < 8 ^ s_n S 1) (key : ∀ s, vQ σ0 S rf e b s Z → pQ k w Z → qx_K G qc_T 5 RX6 YX6_grow 145 [.ref b, .int (nI w), .int (nI a), .retAddr 0, .retAddr 0, .retAddr 0, .retAddr 0] [] s Φ) : ∀ (m c : Nat) (σ : qx_S) (Q : q_Q), m + c = s_n S 1 → a < c → vQ σ0 S rf e b σ Q → pQ k w Q → q_itQ (q_qv S rf k w a) m c Q = Z → qx_K G qc_T 5 RX6 YX6_grow 57 [.ref b, .int (nI w), .int (nI a), .int (nI (q_dg w a)), .int (nI c), .retAddr 0, .retAddr 0] [] σ Φ := by
  intro m
  induction m with
  | zero =>
    intro c σ Q hc hac hv hp hz
    have hz : Q = Z := hz
    rw [hz] at hv hp
    have hpe := hv.2.1.1.pe
    have h5 : qx_mi σ 16 5 = nI (s_n S 1) := hv.2.1.2.1.1.2.1.trans hv.2.1.1.1.2.1.2.1.1
    obtain rfl : c = s_n S 1 := by omega
    refine qy_wp_ok (c := CX6_grow) (cuts := [57, 145]) vX6_grow wX6_grow 2000 57 _ _ _ ?_
    refine And.intro (by rw [show qx_sh qc_T _ b = _ from hv.1.1.1]; rfl) (Exists.intro 156 (And.intro rfl ?_))
    refine And.intro rfl (Exists.intro 16 (And.intro rfl ?_))
    refine And.intro rfl (Exists.intro 5 (Exists.intro (nI (s_n S 1)) (And.intro rfl (And.intro h5 ?_))))
    refine And.intro (fun h69 => ?_) (fun h69 => ?_)
    · skip
      have h69 := nI_leT (a := s_n S 1) (b := s_n S 1) (by omega) (by omega) h69
      refine qx_K_le (ls := [.ref b, .int (nI w), .int (nI a), .retAddr 0, .retAddr 0, .retAddr 0, .retAddr 0]) ⟨Or.inr rfl, Or.inr rfl, Or.inr rfl, Or.inl rfl, Or.inl rfl, Or.inr rfl, Or.inr rfl, trivial⟩ ?_
      exact key _ hv hp
    · skip
      have h69 := nI_leF (a := s_n S 1) (b := s_n S 1) (by omega) (by omega) h69
      exact absurd h69 (by omega)
  | succ m ih =>
    intro c σ Q hc hac hv hp hz
    have hz : q_itQ (q_qv S rf k w a) m (c + 1) (q_qv S rf k w a c Q) = Z := hz
    have hpe := hv.2.1.1.pe
    have h5 : qx_mi σ 16 5 = nI (s_n S 1) := hv.2.1.2.1.1.2.1.trans hv.2.1.1.1.2.1.2.1.1
    have hc1 : c < s_n S 1 := by omega
    have w30 := Nat.lt_of_lt_of_le hw (q_8pe hpe)
    have d1 := q_dg_lt w a
    have d2 := q_dg_lt w c
    have e1 : q_dg w a = q_dg w c → q_qv S rf k w a c Q = Q := fun h => if_pos h
    have e2 : ¬ q_dg w a = q_dg w c → q_c2 S rf a c (q_dg w a) (q_dg w c) = false → q_qv S rf k w a c Q = Q := fun h h2 => by
      unfold q_qv
      rw [if_neg h, if_neg (by rw [h2]; decide)]
    have e3 : ¬ q_dg w a = q_dg w c → q_c2 S rf a c (q_dg w a) (q_dg w c) = true → q_qv S rf k w a c Q = q_ad Q (q_sw (s_n S 1) w a c) k (a * 10 + c) := fun h h2 => by
      unfold q_qv
      rw [if_neg h, if_pos h2]
    have nx : ∀ s Q', q_qv S rf k w a c Q = Q' → vQ σ0 S rf e b s Q' → pQ k w Q' → qx_K G qc_T 5 RX6 YX6_grow 57 [.ref b, .int (nI w), .int (nI a), .int (nI (q_dg w a)), .int (nI (c + 1)), .retAddr 0, .retAddr 0] [] s Φ := fun s Q' he hv' hp' => ih (c + 1) s Q' (by omega) (by omega) hv' hp' (by rw [← he]; exact hz)
    have hx : (q_dg w a ^^^ q_dg w c) < 8 := Nat.xor_lt_two_pow (n := 3) d1 d2
    have lt : ∀ i, i < 10 → (q_dg w a ^^^ q_dg w c) * 2 ^ (3 * i) < 4294967296 ∧ 3 * i < 32 := fun i hi => by
      have h1 : (2 : Nat) ^ (3 * i) ≤ 2 ^ 27 := Nat.pow_le_pow_right (by decide) (by omega)
      have h2 : (q_dg w a ^^^ q_dg w c) * 2 ^ (3 * i) ≤ 7 * 2 ^ 27 := Nat.mul_le_mul (by omega) h1
      have h3 : (7 : Nat) * 2 ^ 27 < 4294967296 := by decide
      exact ⟨by omega, by omega⟩
    have sx := q_sx hw hac hc1
    refine qy_wp_ok (c := CX6_grow) (cuts := [57, 145]) vX6_grow wX6_grow 2000 57 _ _ _ ?_
    refine And.intro (by rw [show qx_sh qc_T _ b = _ from hv.1.1.1]; rfl) (Exists.intro 156 (And.intro rfl ?_))
    refine And.intro rfl (Exists.intro 16 (And.intro rfl ?_))
    refine And.intro rfl (Exists.intro 5 (Exists.intro (nI (s_n S 1)) (And.intro rfl (And.intro h5 ?_))))
    refine And.intro (fun h69 => ?_) (fun h69 => ?_)
    · skip
      have h69 := nI_leT (a := s_n S 1) (b := c) (by omega) (by omega) h69
      exact absurd h69 (by omega)
    · skip
      have h69 := nI_leF (a := s_n S 1) (b := c) (by omega) (by omega) h69
      refine Exists.intro _ (And.intro (by decide) (qx_M_mono (c_placeIn w30 (by omega)) ?_))
      rintro _ _ ⟨rfl, rfl⟩
      refine And.intro (fun h83 => ?_) (fun h83 => ?_)
      · skip
        have h83 := nI_eqT (a := q_dg w a) (b := q_dg w c) (by omega) (by omega) h83
        refine Exists.intro (nI (c + 1)) (And.intro (nI_add _ _) ?_)
        refine qx_K_le (ls := [.ref b, .int (nI w), .int (nI a), .int (nI (q_dg w a)), .int (nI (c + 1)), .retAddr 0, .retAddr 0]) ⟨Or.inr rfl, Or.inr rfl, Or.inr rfl, Or.inr rfl, Or.inr rfl, Or.inl rfl, Or.inr rfl, trivial⟩ ?_
        first
          | exact nx _ _ (e3 h83 h99) vτ hp.ad
          | exact nx _ _ (e2 h83 h99) vρ hp
          | exact nx _ _ (e1 h83) hv hp
      · skip
        have h83 := nI_neT (a := q_dg w a) (b := q_dg w c) (by omega) (by omega) h83
        refine And.intro (by rw [show qx_sh qc_T _ b = _ from hv.1.1.1]; rfl) (Exists.intro 156 (And.intro rfl ?_))
        refine And.intro rfl (Exists.intro _ (And.intro (by decide) (qx_M_mono (c_canQ hv ha hc1 d1 d2) ?_)))
        rintro _ ρ ⟨rfl, vρ⟩
        refine And.intro (fun h99 => ?_) (fun h99 => ?_)
        · skip
          have h99 := bI_f h99
          refine Exists.intro (nI (c + 1)) (And.intro (nI_add _ _) ?_)
          refine qx_K_le (ls := [.ref b, .int (nI w), .int (nI a), .int (nI (q_dg w a)), .int (nI (c + 1)), .retAddr 0, .retAddr 0]) ⟨Or.inr rfl, Or.inr rfl, Or.inr rfl, Or.inr rfl, Or.inr rfl, Or.inl rfl, Or.inr rfl, trivial⟩ ?_
          first
            | exact nx _ _ (e3 h83 h99) vτ hp.ad
            | exact nx _ _ (e2 h83 h99) vρ hp
            | exact nx _ _ (e1 h83) hv hp
        · skip
          have h99 := bI_t h99
          refine Exists.intro (nI ((q_dg w a) ^^^ (q_dg w c))) (And.intro (nI_xor _ _) ?_)
          refine Exists.intro (nI 3) (And.intro rfl ?_)
          refine Exists.intro (nI (3 * a)) (And.intro (pk_mul _ _) ?_)
          refine Exists.intro (nI ((q_dg w a ^^^ q_dg w c) * 2 ^ (3 * a))) (And.intro (nI_shl (lt a (by omega))) ?_)
          refine Exists.intro (nI (w ^^^ ((q_dg w a ^^^ q_dg w c) * 2 ^ (3 * a)))) (And.intro (nI_xor _ _) ?_)
          refine Exists.intro (nI 3) (And.intro rfl ?_)
          refine Exists.intro (nI (3 * c)) (And.intro (pk_mul _ _) ?_)
          refine Exists.intro (nI ((q_dg w a ^^^ q_dg w c) * 2 ^ (3 * c))) (And.intro (nI_shl (lt c (by omega))) ?_)
          refine Exists.intro (nI (q_sw (s_n S 1) w a c)) (And.intro ((nI_xor _ _).trans (congrArg nI sx)) ?_)
          refine And.intro (by rw [show qx_sh qc_T _ b = _ from vρ.1.1.1]; rfl) (Exists.intro 8 (Exists.intro (nI k) (And.intro rfl (And.intro (vρ.1.2.2.2.1.trans (congrArg nI hp.1)) ?_))))
          refine Exists.intro (nI 10) (And.intro rfl ?_)
          refine Exists.intro (nI (a * 10)) (And.intro (pk_mul _ _) ?_)
          refine Exists.intro (nI (a * 10 + c)) (And.intro (nI_add _ _) ?_)
          refine And.intro ((congrArg Prod.fst (vρ.1.1.1)).trans rfl) (Exists.intro _ (And.intro (by decide) (qx_M_mono (c_addQ vρ (q_sw_l8 _ _ _ _) hp.2.1 (by omega)) ?_)))
          rintro _ τ ⟨rfl, vτ⟩
          refine Exists.intro (nI (c + 1)) (And.intro (nI_add _ _) ?_)
          refine qx_K_le (ls := [.ref b, .int (nI w), .int (nI a), .int (nI (q_dg w a)), .int (nI (c + 1)), .retAddr 0, .retAddr 0]) ⟨Or.inr rfl, Or.inr rfl, Or.inr rfl, Or.inr rfl, Or.inr rfl, Or.inl rfl, Or.inl rfl, trivial⟩ ?_
          first
            | exact nx _ _ (e3 h83 h99) vτ hp.ad
            | exact nx _ _ (e2 h83 h99) vρ hp
            | exact nx _ _ (e1 h83) hv hp
theorem l_qa {G : qx_G} {σ0 : qx_S} {S : qS} {rf : Option qR} {e b k w : Nat} {Z : q_Q} {Φ : qx_F} (hw : w < 8 ^ s_n S 1) (key : ∀ s, vQ σ0 S rf e b s Z → pQ k w Z → qx_K G qc_T 5 RX6 YX6_grow 151 [.ref b, .retAddr 0, .retAddr 0, .retAddr 0, .retAddr 0, .retAddr 0, .retAddr 0] [] s Φ) : ∀ (m a : Nat) (σ : qx_S) (Q : q_Q), m + a = s_n S 1 → vQ σ0 S rf e b σ Q → pQ k w Q → q_itQ (q_qb S rf k w) m a Q = Z → qx_K G qc_T 5 RX6 YX6_grow 32 [.ref b, .int (nI w), .int (nI a), .retAddr 0, .retAddr 0, .retAddr 0, .retAddr 0] [] σ Φ := by
  intro m
  induction m with
  | zero =>
    intro a σ Q hc hv hp hz
    have hz : Q = Z := hz
    rw [hz] at hv hp
    have hpe := hv.2.1.1.pe
    have h5 : qx_mi σ 16 5 = nI (s_n S 1) := hv.2.1.2.1.1.2.1.trans hv.2.1.1.1.2.1.2.1.1
    obtain rfl : a = s_n S 1 := by omega
    refine qy_wp_ok (c := CX6_grow) (cuts := [32, 151]) vX6_grow wX6_grow 2000 32 _ _ _ ?_
    refine And.intro (by rw [show qx_sh qc_T _ b = _ from hv.1.1.1]; rfl) (Exists.intro 156 (And.intro rfl ?_))
    refine And.intro rfl (Exists.intro 16 (And.intro rfl ?_))
    refine And.intro rfl (Exists.intro 5 (Exists.intro (nI (s_n S 1)) (And.intro rfl (And.intro h5 ?_))))
    refine And.intro (fun h43 => ?_) (fun h43 => ?_)
    · skip
      have h43 := nI_leT (a := s_n S 1) (b := s_n S 1) (by omega) (by omega) h43
      refine qx_K_le (ls := [.ref b, .retAddr 0, .retAddr 0, .retAddr 0, .retAddr 0, .retAddr 0, .retAddr 0]) ⟨Or.inr rfl, Or.inl rfl, Or.inl rfl, Or.inr rfl, Or.inr rfl, Or.inr rfl, Or.inr rfl, trivial⟩ ?_
      exact key _ hv hp
    · skip
      have h43 := nI_leF (a := s_n S 1) (b := s_n S 1) (by omega) (by omega) h43
      exact absurd h43 (by omega)
  | succ m ih =>
    intro a σ Q hc hv hp hz
    have hz : q_itQ (q_qb S rf k w) m (a + 1) (q_qb S rf k w a Q) = Z := hz
    have hpe := hv.2.1.1.pe
    have h5 : qx_mi σ 16 5 = nI (s_n S 1) := hv.2.1.2.1.1.2.1.trans hv.2.1.1.1.2.1.2.1.1
    have ha1 : a < s_n S 1 := by omega
    have w30 := Nat.lt_of_lt_of_le hw (q_8pe hpe)
    have k2 : ∀ s, vQ σ0 S rf e b s (q_qb S rf k w a Q) → pQ k w (q_qb S rf k w a Q) → qx_K G qc_T 5 RX6 YX6_grow 145 [.ref b, .int (nI w), .int (nI a), .retAddr 0, .retAddr 0, .retAddr 0, .retAddr 0] [] s Φ := fun s hv' hp' => by
      have nx := ih (a + 1) s _ (by omega) hv' hp' hz
      refine qy_wp_ok (c := CX6_grow) (cuts := [32, 145]) vX6_grow wX6_grow 2000 145 _ _ _ ?_
      refine Exists.intro (nI (a + 1)) (And.intro (nI_add _ _) ?_)
      exact nx
    have lo := l_qb (G := G) ha1 hw k2 (s_n S 1 - (a + 1)) (a + 1) σ Q (by omega) (by omega) hv hp rfl
    refine qy_wp_ok (c := CX6_grow) (cuts := [32, 57, 151]) vX6_grow wX6_grow 2000 32 _ _ _ ?_
    refine And.intro (by rw [show qx_sh qc_T _ b = _ from hv.1.1.1]; rfl) (Exists.intro 156 (And.intro rfl ?_))
    refine And.intro rfl (Exists.intro 16 (And.intro rfl ?_))
    refine And.intro rfl (Exists.intro 5 (Exists.intro (nI (s_n S 1)) (And.intro rfl (And.intro h5 ?_))))
    refine And.intro (fun h43 => ?_) (fun h43 => ?_)
    · skip
      have h43 := nI_leT (a := s_n S 1) (b := a) (by omega) (by omega) h43
      exact absurd h43 (by omega)
    · skip
      have h43 := nI_leF (a := s_n S 1) (b := a) (by omega) (by omega) h43
      refine Exists.intro _ (And.intro (by decide) (qx_M_mono (c_placeIn w30 (by omega)) ?_))
      rintro _ _ ⟨rfl, rfl⟩
      refine Exists.intro (nI 1) (And.intro rfl ?_)
      refine Exists.intro (nI (a + 1)) (And.intro (nI_add _ _) ?_)
      exact lo
def q_gok (Q : q_Q) : Bool := decide (Q.2.1 < Q.1) && !decide (2001 ≤ Q.1)
theorem mQ.g8 {σ s : qx_S} {b k : Nat} {Q : q_Q} (h : mQ σ b Q) (hk : k < Q.1) (es : s = qx_wi σ b 8 (nI (k + 1))) : mQ s b (Q.1, k + 1, Q.2.2) := by
  obtain ⟨hq, ⟨hb, hb2⟩, h7, h8, hz, hg, hc, sl, H, hsl⟩ := h
  have f := qn_wif es
  have m : ∀ y j, y ≠ b ∨ j ≠ 8 → qx_mi s y j = qx_mi σ y j := fun y j h => qn_ne es h
  refine ⟨hq.fr f, ⟨hb, by rw [f.1]; exact hb2⟩, (m _ _ (by omega)).trans h7, qn_eq es, hz, hk, fun i hi => ?_, sl, H, fun j hj => (m _ _ (by omega)).trans (hsl j hj)⟩
  have c := hc i hi
  exact ⟨⟨(m _ _ (by omega)).trans c.1.1, c.1.2⟩, ⟨(m _ _ (by omega)).trans c.2.1.1, c.2.1.2⟩, (m _ _ (by omega)).trans c.2.2.1, (m _ _ (by omega)).trans c.2.2.2.1, (m _ _ (by omega)).trans c.2.2.2.2.1, c.2.2.2.2.2⟩
theorem c_grow {G : qx_G} {σ0 σ : qx_S} {S : qS} {rf : Option qR} {e b : Nat} {Q : q_Q} (h : vQ σ0 S rf e b σ Q) : qx_M G qc_T 5 YX6_grow [.ref b] σ (fun r s => r = some (.int (bI (q_gok Q))) ∧ vQ σ0 S rf e b s (if q_gok Q = true then q_qg S rf Q else Q)) := by
  have hm := h.1
  have hq := hm.1
  have hz := hm.2.2.2.2.1
  have hg := hm.2.2.2.2.2.1
  obtain ⟨k, ek⟩ : ∃ k, k = Q.2.1 := ⟨_, rfl⟩
  obtain ⟨w, ew⟩ : ∃ w, w = Q.2.2.1 k := ⟨_, rfl⟩
  have m7 : qx_mi σ b 7 = nI Q.1 := hm.2.2.1
  have m8 : qx_mi σ b 8 = nI k := by rw [ek]; exact hm.2.2.2.1
  rw [← ek] at hg
  rcases Nat.lt_or_ge k Q.1 with hk | hk
  · rcases Nat.lt_or_ge Q.1 2001 with hl | hl
    · have ok : q_gok Q = true := by
        unfold q_gok
        rw [← ek, decide_eq_true hk, decide_eq_false (show ¬ 2001 ≤ Q.1 by omega)]
        rfl
      rw [if_pos ok, ok]
      have hw : w < 8 ^ s_n S 1 := by rw [ew]; exact h.2.2.2.2 k hk
      have h1 : qx_mi σ (b + 1) k = nI w := by rw [ew]; exact (hm.2.2.2.2.2.2.1 k hk).1.1
      have key : ∀ s, vQ σ0 S rf e b s (q_qa S rf k w Q) → pQ k w (q_qa S rf k w Q) → qx_K G qc_T 5 RX6 YX6_grow 151 [.ref b, .retAddr 0, .retAddr 0, .retAddr 0, .retAddr 0, .retAddr 0, .retAddr 0] [] s (fun r s => r = some (.int (bI true)) ∧ vQ σ0 S rf e b s (q_qg S rf Q)) := by
        intro s hv hp
        have fin : ∀ s', s' = qx_wi s b 8 (nI (k + 1)) → vQ σ0 S rf e b s' (q_qg S rf Q) := fun s' es => by
          unfold q_qg
          rw [← ek, ← ew]
          exact hv.gf (qf.cv (qn_wif es) (by simp)) (hv.1.g8 hp.2.1 es) (qn_ne es (Or.inr (by decide))) hv.2.2.2.2
        have s8 : qx_mi s b 8 = nI k := hv.1.2.2.2.1.trans (congrArg nI hp.1)
        refine qy_wp_ok (c := CX6_grow) (cuts := []) vX6_grow wX6_grow 2000 151 _ _ _ ?_
        refine And.intro (by rw [show qx_sh qc_T _ b = _ from hv.1.1.1]; rfl) (Exists.intro 8 (Exists.intro (nI k) (And.intro rfl (And.intro s8 ?_))))
        refine Exists.intro (nI 1) (And.intro rfl ?_)
        refine Exists.intro (nI (k + 1)) (And.intro (nI_add _ _) ?_)
        obtain ⟨σ1, eσ1⟩ : ∃ zs, zs = (qx_wi s b 8 (nI (k + 1))) := ⟨_, rfl⟩
        have fσ1 := qn_wif eσ1
        refine And.intro (by rw [show qx_sh qc_T _ b = _ from hv.1.1.1]; rfl) (Exists.intro 8 (Exists.intro σ1 (And.intro rfl (And.intro eσ1.symm ?_))))
        refine Exists.intro (nI 1) (And.intro rfl ?_)
        refine And.intro (Or.inr rfl) ?_
        exact ⟨rfl, fin _ eσ1⟩
      have lo := l_qa (G := G) hw key (s_n S 1) 0 σ Q (by omega) h ⟨ek.symm, hk, ew.symm⟩ rfl
      refine qx_M_in rfl (Nat.le_of_ble_eq_true rfl) ?_
      refine qy_wp_ok (c := CX6_grow) (cuts := [32]) vX6_grow wX6_grow 2000 0 _ _ _ ?_
      refine And.intro (by rw [show qx_sh qc_T _ b = _ from hq.1]; rfl) (Exists.intro 8 (Exists.intro (nI k) (And.intro rfl (And.intro m8 ?_))))
      refine And.intro (by rw [show qx_sh qc_T _ b = _ from hq.1]; rfl) (Exists.intro 7 (Exists.intro (nI Q.1) (And.intro rfl (And.intro m7 ?_))))
      refine And.intro (fun h8 => ?_) (fun h8 => ?_)
      · skip
        have h8 := nI_leT (a := Q.1) (b := k) (by omega) (by omega) h8
        exact absurd h8 (by omega)
      · skip
        have h8 := nI_leF (a := Q.1) (b := k) (by omega) (by omega) h8
        refine And.intro ((congrArg Prod.fst (hq.1)).trans rfl) (Exists.intro _ (And.intro (by decide) (qx_M_mono (c_full hq.1 m7 hz) ?_)))
        rintro _ _ ⟨rfl, rfl⟩
        refine And.intro (fun h15 => ?_) (fun h15 => ?_)
        · skip
          have h15 := bI_f h15
          refine And.intro (by rw [show qx_sh qc_T _ b = _ from hq.1]; rfl) (Exists.intro (b + 1) (And.intro rfl ?_))
          refine And.intro (by rw [show qx_sh qc_T _ b = _ from hq.1]; rfl) (Exists.intro 8 (Exists.intro (nI k) (And.intro rfl (And.intro m8 ?_))))
          refine Exists.intro (k) (Exists.intro (nI w) (And.intro rfl (And.intro ⟨2001, (hq.2.1 1 (by decide) (by decide)), by omega, by decide⟩ (And.intro h1 ?_))))
          refine Exists.intro (nI 0) (And.intro rfl ?_)
          exact lo
        · skip
          have h15 := bI_t h15
          exact absurd (h15.symm.trans (decide_eq_false (by omega))) (by decide)
    · have ok : q_gok Q = false := by
        unfold q_gok
        rw [decide_eq_true hl]
        exact Bool.and_false _
      rw [if_neg (by rw [ok]; decide), ok]
      refine qx_M_in rfl (Nat.le_of_ble_eq_true rfl) ?_
      refine qy_wp_ok (c := CX6_grow) (cuts := [32, 20]) vX6_grow wX6_grow 2000 0 _ _ _ ?_
      refine And.intro (by rw [show qx_sh qc_T _ b = _ from hq.1]; rfl) (Exists.intro 8 (Exists.intro (nI k) (And.intro rfl (And.intro m8 ?_))))
      refine And.intro (by rw [show qx_sh qc_T _ b = _ from hq.1]; rfl) (Exists.intro 7 (Exists.intro (nI Q.1) (And.intro rfl (And.intro m7 ?_))))
      refine And.intro (fun h8 => ?_) (fun h8 => ?_)
      · skip
        have h8 := nI_leT (a := Q.1) (b := k) (by omega) (by omega) h8
        exact absurd h8 (by omega)
      · skip
        have h8 := nI_leF (a := Q.1) (b := k) (by omega) (by omega) h8
        refine And.intro ((congrArg Prod.fst (hq.1)).trans rfl) (Exists.intro _ (And.intro (by decide) (qx_M_mono (c_full hq.1 m7 hz) ?_)))
        rintro _ _ ⟨rfl, rfl⟩
        refine And.intro (fun h15 => ?_) (fun h15 => ?_)
        · skip
          have h15 := bI_f h15
          exact absurd (h15.symm.trans (decide_eq_true hl)) (by decide)
        · skip
          have h15 := bI_t h15
          refine Exists.intro (nI 0) (And.intro rfl ?_)
          refine And.intro (Or.inl rfl) ?_
          exact ⟨rfl, h⟩
  · have ok : q_gok Q = false := by
      unfold q_gok
      rw [← ek, decide_eq_false (show ¬ k < Q.1 by omega)]
      rfl
    rw [if_neg (by rw [ok]; decide), ok]
    refine qx_M_in rfl (Nat.le_of_ble_eq_true rfl) ?_
    refine qy_wp_ok (c := CX6_grow) (cuts := [32]) vX6_grow wX6_grow 2000 0 _ _ _ ?_
    refine And.intro (by rw [show qx_sh qc_T _ b = _ from hq.1]; rfl) (Exists.intro 8 (Exists.intro (nI k) (And.intro rfl (And.intro m8 ?_))))
    refine And.intro (by rw [show qx_sh qc_T _ b = _ from hq.1]; rfl) (Exists.intro 7 (Exists.intro (nI Q.1) (And.intro rfl (And.intro m7 ?_))))
    refine And.intro (fun h8 => ?_) (fun h8 => ?_)
    · skip
      have h8 := nI_leT (a := Q.1) (b := k) (by omega) (by omega) h8
      refine Exists.intro (nI 0) (And.intro rfl ?_)
      refine And.intro (Or.inl rfl) ?_
      exact ⟨rfl, h⟩
    · skip
      have h8 := nI_leF (a := Q.1) (b := k) (by omega) (by omega) h8
      exact absurd h8 (by omega)

