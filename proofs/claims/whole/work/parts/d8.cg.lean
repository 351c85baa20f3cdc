/-! what hangs on which cells of the state -/
theorem s_n_cg {S S' : qS} {i : Nat} (h : S' i = S i) : s_n S' i = s_n S i := by unfold s_n; rw [h]
def eLd (S S' : qS) : Prop := ∀ i, i ≤ 2 ∨ (10 ≤ i ∧ i < 60 ∧ (i - 10) % 5 ≠ 0 ∧ (i - 10) % 5 ≠ 4) ∨ (60 ≤ i ∧ i < 148) → S' i = S i
theorem q_ca_cg8 {S S' : qS} (q : Int32) : ∀ n, n ≤ 8 → (∀ c, c < n → S' (140 + c) = S (140 + c)) → q_ca S' q n = q_ca S q n
  | 0, _, _ => rfl
  | n + 1, hn, h => by
    show q_ca S' q n + _ = q_ca S q n + _
    rw [q_ca_cg8 q n (by omega) (fun c hc => h c (by omega)), h n (by omega)]
theorem dR.tr {σ s : qx_S} {a : Nat} {S S' : qS} (h : dR σ a S) (g : gD S) (fm : ∀ k, k ≤ 4 → ∀ j, qx_mi s (a + k) j = qx_mi σ (a + k) j) (e : eLd S S') : dR s a S' := by
  obtain ⟨a1, a2, a3, a4, a5, a6, a7, bn, a8, a9, a10⟩ := h
  have n1 := s_n_cg (e 1 (by omega))
  have n2 := s_n_cg (e 2 (by omega))
  have b1 := g.2.1.2
  have b2 := g.2.2.2
  have f0 : ∀ j, qx_mi s a j = qx_mi σ a j := fun j => fm 0 (by omega) j
  refine ⟨(f0 4).trans (a1.trans (e 0 (by omega)).symm), (f0 5).trans (a2.trans (e 1 (by omega)).symm), (f0 6).trans (a3.trans (e 2 (by omega)).symm), ?_, ?_, ?_, ?_, bn, (f0 7).trans a8, by rw [n1]; exact a9, ?_⟩
  · rw [n1]
    exact fun p hp => ⟨(fm 1 (by omega) p).trans ((a4 p hp).1.trans (e _ (by omega)).symm), (fm 2 (by omega) p).trans ((a4 p hp).2.trans (e _ (by omega)).symm)⟩
  · rw [n1]
    exact fun p hp q hq => (fm 3 (by omega) _).trans ((a5 p hp q hq).trans (e _ (by omega)).symm)
  · rw [n1]
    exact fun k h1 h2 => (fm 3 (by omega) _).trans (a6 k h1 h2)
  · rw [n2]
    exact fun q hq => (fm 4 (by omega) _).trans ((a7 q hq).trans (congrArg nI (q_ca_cg8 _ _ b2 (fun c hc => e _ (by omega))).symm))
  · rw [n1]
    exact fun p hp => by rw [e _ (by omega)]; exact a10 p hp
theorem zR.tr {σ s : qx_S} {a pe pe' : Nat} {f f' : Nat → Int32} (h : zR σ a pe f) (hpe : pe ≤ 10) (e1 : pe' = pe) (k : ∀ y j, a ≤ y → y ≤ a + 4 → qx_mi s y j = qx_mi σ y j) (e : ∀ i, i < 122 → f' i = f i) : zR s a pe' f' := by
  rw [e1]
  exact (h.fb k).cg hpe e
def eNw (S S' : qS) : Prop := ∀ i, i = 3 ∨ i = 6 ∨ (10 ≤ i ∧ i < 60 ∧ ((i - 10) % 5 = 0 ∨ (i - 10) % 5 = 4)) ∨ (154 ≤ i ∧ i < 254) → S' i = S i
theorem eNw.q {S S' : qS} (e : eNw S S') {i : Nat} (_ : i < 122) : q_nw S' i = q_nw S i := by
  unfold q_nw
  split
  · exact e _ (by omega)
  · split
    · exact e _ (by omega)
    · split
      · exact e _ (by omega)
      · split
        · exact e _ (by omega)
        · exact e _ (by omega)
theorem rG.tr {σ s : qx_S} {y : Nat} {n n' : Int32} {f f' : Nat → Int32} (h : rG σ y n f) (e1 : n' = n) (k : ∀ z j, y ≤ z → z ≤ y + 1 → qx_mi s z j = qx_mi σ z j) (e : ∀ j, j < n.toNatClampNeg → f' j = f j) : rG s y n' f' := by
  rw [e1]
  exact ⟨(k _ _ (by omega) (by omega)).trans h.1, fun j hj => (k _ _ (by omega) (by omega)).trans ((h.2 j hj).trans (e j hj).symm)⟩
def eUn (S S' : qS) : Prop := ∀ i, i = 1 ∨ i = 9 ∨ (348 ≤ i ∧ i < 2788) → S' i = S i
def cPa (σ : qx_S) (b : Nat) (S : qS) : Prop := ∃ pf, pf < 20 ∧ qx_mi σ b 6 = nI pf ∧ ∀ i, i < s_n S 9 → zR σ (b + 16 + 5 * ((pf + i) % 20)) (s_n S 1) (q_slt S i)
theorem cPa.tr {σ s : qx_S} {b : Nat} {S S' : qS} (h : cPa σ b S) (h1 : s_n S 1 ≤ 10) (h9 : s_n S 9 ≤ 20) (k0 : qx_mi s b 6 = qx_mi σ b 6) (k : ∀ y j, b + 16 ≤ y → y ≤ b + 115 → qx_mi s y j = qx_mi σ y j) (e : eUn S S') : cPa s b S' := by
  obtain ⟨pf, p1, p2, p3⟩ := h
  refine ⟨pf, p1, k0.trans p2, fun i hi => ?_⟩
  rw [s_n_cg (e 9 (by omega))] at hi
  have := Nat.mod_lt (pf + i) (show 0 < 20 by decide)
  exact (p3 i hi).tr h1 (s_n_cg (e 1 (by omega))) (fun y j _ _ => k _ _ (by omega) (by omega)) (fun j hj => e _ (by omega))
def cTo (σ : qx_S) (b : Nat) (S : qS) : Prop := ∀ i, i < s_n S 5 → rG σ (b + 116 + 2 * i) (S (254 + 7 * i)) (fun j => S (254 + 7 * i + 1 + j))
def eBk (S S' : qS) : Prop := ∀ i, i = 1 ∨ i = 5 ∨ (254 ≤ i ∧ i < 338) → S' i = S i
theorem cTo.tr {σ s : qx_S} {b : Nat} {S S' : qS} (h : cTo σ b S) (hB : iB S) (k : ∀ y j, b + 116 ≤ y → y ≤ b + 139 → qx_mi s y j = qx_mi σ y j) (e : eBk S S') : cTo s b S' := by
  intro i hi
  rw [s_n_cg (e 5 (by omega))] at hi
  have b12 := hB.2.1
  obtain ⟨y1, y2, y3, y4⟩ := hB.2.2 i hi
  have y3 : (S (254 + 7 * i)).toNatClampNeg ≤ 6 := y3
  exact (h i hi).tr (e _ (by omega)) (fun z j _ _ => k _ _ (by omega) (by omega)) (fun j hj => e _ (by omega))
theorem cSt.mk {σ : qx_S} {b : Nat} {S : qS} (h1 : dR σ (b + 1) S) (h2 : zR σ (b + 6) (s_n S 1) (q_nw S)) (h3 : cPa σ b S) (h4 : rG σ (b + 12) (S 4) (fun j => S (148 + j))) (h5 : cTo σ b S) (h6 : ∀ p, p < s_n S 1 → qx_mi σ (b + 15) p = S (338 + p)) (h7 : qx_mi σ b 7 = S 9) (h8 : qx_mi σ b 8 = S 5) (h9 : qx_mi σ b 9 = S 7) (h10 : qx_mi σ b 10 = S 8) : cSt σ b S := ⟨h1, h2, h3, h4, h5, h6, h7, h8, h9, h10⟩
/-! soundness -/
theorem gL.cg {S S' : qS} (h : gL S) (e : ∀ i, i ≤ 2 ∨ (10 ≤ i ∧ i < 140 ∧ (60 ≤ i ∨ (i - 10) % 5 ≠ 4)) → S' i = S i) : gL S' := by
  have n0 := s_n_cg (e 0 (by omega))
  have n1 := s_n_cg (e 1 (by omega))
  have n2 := s_n_cg (e 2 (by omega))
  have b1 := h.1.2.1.2
  refine ⟨⟨by rw [e 0 (by omega), n0]; exact h.1.1, by rw [e 1 (by omega), n1]; exact h.1.2.1, by rw [e 2 (by omega), n2]; exact h.1.2.2⟩, ⟨by rw [e 0 (by omega), n0]; exact h.2.1.1, by rw [e 1 (by omega), n1]; exact h.2.1.2.1, ?_⟩, ?_⟩
  · rw [n1, n0]
    intro p hp
    rw [e (10 + 5 * p) (by omega), s_n_cg (e (10 + 5 * p) (by omega))]
    exact h.2.1.2.2 p hp
  · rw [n1]
    intro p hp
    refine ⟨fun q hq => ?_, ?_⟩
    · rw [e _ (by omega)]
      exact (h.2.2 p hp).1 q hq
    · rw [e _ (by omega)]
      exact (h.2.2 p hp).2
theorem gO.cg {f f' : Nat → Int32} {pe pe' : Nat} (h : gO f pe) (e1 : pe' = pe) (e : ∀ k, k < 100 → f' (10 + k) = f (10 + k)) : gO f' pe' := by
  rw [e1]
  intro p k hp hk hz
  rw [show 10 + 10 * p + k = 10 + (10 * p + k) by omega, e _ (by omega), show 10 + (10 * p + k) = 10 + 10 * p + k by omega]
  exact h p k hp hk hz
theorem iC.cg {S S' : qS} (h : iC S) (e : ∀ i, i = 1 ∨ i = 4 ∨ (148 ≤ i ∧ i < 154) → S' i = S i) : iC S' := by
  have n4 := s_n_cg (e 4 (by omega))
  have h6 := h.2.1
  refine ⟨by rw [e 4 (by omega), n4]; exact h.1, by rw [n4]; exact h6, ?_⟩
  rw [n4, s_n_cg (e 1 (by omega))]
  intro k hk
  rw [e _ (by omega), s_n_cg (e _ (by omega))]
  exact h.2.2 k hk
theorem iB.cg {S S' : qS} (h : iB S) (e : eBk S S') : iB S' := by
  have n5 := s_n_cg (e 5 (by omega))
  have b12 := h.2.1
  refine ⟨by rw [e 5 (by omega), n5]; exact h.1, by rw [n5]; exact b12, ?_⟩
  rw [n5, s_n_cg (e 1 (by omega))]
  intro b hb
  obtain ⟨y1, y2, y3, y4⟩ := h.2.2 b hb
  have nb := s_n_cg (e (254 + 7 * b) (by omega))
  rw [e _ (by omega), nb]
  refine ⟨y1, y2, y3, fun k hk => ?_⟩
  rw [e _ (by omega), s_n_cg (e _ (by omega))]
  exact y4 k hk
def gU (S : qS) : Prop := (S 9 = nI (s_n S 9) ∧ s_n S 9 ≤ 20) ∧ ∀ u, u < s_n S 9 → gO (q_slt S u) (s_n S 1) ∧ ∀ p, p < s_n S 1 → ∃ v, v < s_n S 0 ∧ q_slt S u p = nI v
theorem gU.cg {S S' : qS} (h : gU S) (h1 : s_n S 1 ≤ 10) (e0 : S' 0 = S 0) (e : eUn S S') : gU S' := by
  have n9 := s_n_cg (e 9 (by omega))
  have h20 := h.1.2
  refine ⟨by rw [e 9 (by omega), n9]; exact h.1, ?_⟩
  rw [n9, s_n_cg (e 1 (by omega)), s_n_cg e0]
  intro u hu
  obtain ⟨y1, y2⟩ := h.2 u hu
  refine ⟨y1.cg rfl (fun k hk => e _ (by omega)), fun p hp => ?_⟩
  obtain ⟨v, v1, v2⟩ := y2 p hp
  exact ⟨v, v1, (e _ (by omega)).trans v2⟩
theorem gT.U {S : qS} (h : gT S) : gU S := h.2.2.2.2
theorem gT.mk {S : qS} (h1 : gL S) (h2 : gO (q_nw S) (s_n S 1)) (h3 : iC S) (h4 : iB S) (h5 : gU S) : gT S := ⟨h1, h2, h3, h4, h5⟩
theorem gT.pe {S : qS} (h : gT S) : s_n S 1 ≤ 10 := h.1.1.2.1.2
theorem gT.pl {S : qS} (h : gT S) : s_n S 0 ≤ 8 := h.1.1.1.2
/-- liking and laws hang on land, day, debts and moves -/
theorem q_wd_cg {S S' : qS} (e : ∀ i, i = 1 ∨ i = 3 ∨ (10 ≤ i ∧ i < 60 ∧ (i - 10) % 5 ≠ 0) ∨ (60 ≤ i ∧ i < 140) ∨ (154 ≤ i ∧ i < 254) → S' i = S i) {p a q : Nat} {wi : Option Nat} {n : Nat} (hp : p < 10) (hq : q < 8) (h1 : s_n S 1 ≤ 10) (ho : ∀ o, wi = some o → o < 10) (v : Nat) : q_wd S' p a q wi n v = q_wd S p a q wi n v := by
  unfold q_wd
  split
  · rfl
  · exact e _ (by omega)
  · exact e _ (by omega)
  · rfl
  · rfl
  · exact e _ (by omega)
  · rfl
  · cases wi with
    | none => rfl
    | some o => exact e _ (by have := ho o rfl; omega)
  · rfl
  · rw [s_n_cg (e 1 (by omega))]
    exact q_sum_cg _ (fun k hk => e _ (by omega))
  · exact e _ (by omega)
  · exact e _ (by omega)
def eLw (S S' : qS) : Prop := ∀ i, i = 1 ∨ i = 3 ∨ (10 ≤ i ∧ i < 60 ∧ (i - 10) % 5 ≠ 0) ∨ (60 ≤ i ∧ i < 140) ∨ (154 ≤ i ∧ i < 254) → S' i = S i
theorem q_lk_cg {S S' : qS} (e : eLw S S') (rf : Option qR) {p a q : Nat} (hp : p < 10) (hq : q < 8) (h1 : s_n S 1 ≤ 10) : q_lk S' rf p a q = q_lk S rf p a q := by
  cases rf with
  | none => exact e _ (by omega)
  | some R =>
    unfold q_lk
    dsimp only
    rw [show q_w S' p a q none 0 = q_w S p a q none 0 from funext fun v => congrArg Int32.toInt64 (q_wd_cg e hp hq h1 (fun o h => by cases h) v), e (60 + 8 * p + q) (by omega)]
theorem q_br_cg {S S' : qS} (e : eLw S S') (rf : Option qR) {p a q o n : Nat} (hp : p < 10) (hq : q < 8) (ho : o < 10) (h1 : s_n S 1 ≤ 10) : q_br S' rf p a q o n = q_br S rf p a q o n := by
  cases rf with
  | none => rfl
  | some R =>
    unfold q_br
    dsimp only
    rw [show q_w S' p a q (some o) n = q_w S p a q (some o) n from funext fun v => congrArg Int32.toInt64 (q_wd_cg e hp hq h1 (fun o h => by cases h; exact ho) v)]
theorem q_bk_cg {S S' : qS} (e : eLw S S') (rf : Option qR) {p a q o n : Nat} (hp : p < 10) (ha : a < 8) (hq : q < 8) (ho : o < 10) (h1 : s_n S 1 ≤ 10) : q_bk S' rf none p a q o n = q_bk S rf none p a q o n := by
  unfold q_bk q_ll
  dsimp only
  rw [q_lk_cg e rf hp hq h1, q_lk_cg e rf hp ha h1, q_br_cg e rf hp hq ho h1, e (10 + 5 * p + 3) (by omega)]
theorem q_c2_cg {S S' : qS} (e : eLw S S') (rf : Option qR) {i j x y : Nat} (hi : i < 10) (hj : j < 10) (hx : x < 8) (hy : y < 8) (h1 : s_n S 1 ≤ 10) : q_c2 S' rf i j x y = q_c2 S rf i j x y := by
  unfold q_c2
  rw [q_bk_cg e rf hi hx hy hj h1, q_bk_cg e rf hj hy hx hi h1]
theorem cI.ax {σ s : qx_S} {S S' : qS} {rf : Option qR} {e : Nat} {l : List (Nat × Option Nat)} (h : cI σ S rf e) (f : ql l σ s) (h2 : kY l = true) (g : gT S') (c : cSt s 15 S') (el : eLw S S') : cI s S' rf e :=
  h.as f h2 g c (s_n_cg (el 1 (by omega))) (fun p a q hp hq => q_lk_cg el rf (Nat.lt_of_lt_of_le hp h.1.pe) hq h.1.pe) (fun i j x y hi hj hx hy => q_c2_cg el rf (Nat.lt_of_lt_of_le hi h.1.pe) (Nat.lt_of_lt_of_le hj h.1.pe) hx hy h.1.pe)
