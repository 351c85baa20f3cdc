/-! MEMORY THAT GROWS: what stays; the room that is still wanted -/
def qq (σ : qx_S) (a k n : Nat) : Nat := match qx_mr σ a k with
  | none => n
  | some _ => 0
/-- slots made, and those that rows made when first asked for will want; cells likewise -/
def po (σ : qx_S) : Nat := σ.2.1 + qq σ 156 5 6400 + qq σ 3 17 14111 + qq σ 3 18 14111
def pcl (σ : qx_S) : Nat := σ.1 + qq σ 156 5 1 + qq σ 3 17 7 + qq σ 3 18 7
abbrev kG : List (Nat × Option Nat) := [(156, some 5), (3, some 17), (3, some 18)]
def qg (l : List (Nat × Option Nat)) (σ s : qx_S) : Prop := 229 ≤ σ.1 ∧ σ.1 ≤ s.1 ∧ po s = po σ ∧ pcl s = pcl σ ∧ (∀ a, a < σ.1 → s.2.2.1 a = σ.2.2.1 a) ∧ (∀ a j, a < σ.1 → pL kG a j = false → qx_mr s a j = qx_mr σ a j) ∧ (∀ a j t, a < σ.1 → qx_mr σ a j = some t → qx_mr s a j = some t) ∧ (∀ a j, a < σ.1 → (a < 229 ∨ qx_sh qc_T σ a ≠ (0, 6400)) → pL l a j = false → qx_mi s a j = qx_mi σ a j ∧ qx_ml s a j = qx_ml σ a j) ∧ (∀ j, qx_mr s 3 j = qx_mr σ 3 j ∨ ∃ b, qx_mr s 3 j = some b ∧ qx_mr σ 3 j = none ∧ σ.1 ≤ b ∧ pL l b 7 = true)
theorem qq_cg {σ s : qx_S} (h : s.2.2.2.2.2 = σ.2.2.2.2.2) (a k n : Nat) : qq s a k n = qq σ a k n := by
  unfold qq qx_mr
  rw [h]
theorem qg.of {l : List (Nat × Option Nat)} {σ s : qx_S} (f : ql l σ s) (h : 229 ≤ σ.1) : qg l σ s := by
  refine ⟨h, Nat.le_of_eq f.1.symm, ?_, ?_, fun a _ => by rw [f.2.2.1], fun a j _ _ => f.r a j, fun a j t _ ht => (f.r a j).trans ht, fun a j _ _ hp => ⟨f.i a j hp, f.l a j hp⟩, fun j => Or.inl (f.r 3 j)⟩
  · unfold po
    rw [qq_cg f.2.2.2.1, qq_cg f.2.2.2.1, qq_cg f.2.2.2.1, f.2.1]
  · unfold pcl
    rw [qq_cg f.2.2.2.1, qq_cg f.2.2.2.1, qq_cg f.2.2.2.1, f.1]
theorem qg.sv {l : List (Nat × Option Nat)} {σ s : qx_S} (h : qg l σ s) {a : Nat} (ha : a < σ.1) : qx_sh qc_T s a = qx_sh qc_T σ a := by
  unfold qx_sh
  rw [h.2.2.2.2.1 a ha]
theorem qg.iv {l : List (Nat × Option Nat)} {σ s : qx_S} (h : qg l σ s) {a j : Nat} (ha : a < σ.1) (hs : a < 229 ∨ qx_sh qc_T σ a ≠ (0, 6400)) (hp : pL l a j = false) : qx_mi s a j = qx_mi σ a j := (h.2.2.2.2.2.2.2.1 a j ha hs hp).1
theorem qg.lt {l : List (Nat × Option Nat)} {a j : Nat} (h : cond (Nat.blt a 229) (pL l a j) true = false) : a < 229 ∧ pL l a j = false := by
  cases hb : Nat.blt a 229 with
  | false => rw [hb] at h; cases h
  | true => rw [hb] at h; exact ⟨Nat.le_of_ble_eq_true hb, h⟩
theorem qg.i {l : List (Nat × Option Nat)} {σ s : qx_S} (h : qg l σ s) (a j : Nat) (hp : cond (Nat.blt a 229) (pL l a j) true = false) : qx_mi s a j = qx_mi σ a j := by
  obtain ⟨h1, h2⟩ := qg.lt hp
  exact h.iv (Nat.lt_of_lt_of_le h1 h.1) (Or.inl h1) h2
theorem qg.l {l : List (Nat × Option Nat)} {σ s : qx_S} (h : qg l σ s) (a j : Nat) (hp : cond (Nat.blt a 229) (pL l a j) true = false) : qx_ml s a j = qx_ml σ a j := by
  obtain ⟨h1, h2⟩ := qg.lt hp
  exact (h.2.2.2.2.2.2.2.1 a j (Nat.lt_of_lt_of_le h1 h.1) (Or.inl h1) h2).2
theorem qg.r {l : List (Nat × Option Nat)} {σ s : qx_S} (h : qg l σ s) (a j : Nat) (hp : cond (Nat.blt a 229) (pL kG a j) true = false) : qx_mr s a j = qx_mr σ a j := by
  obtain ⟨h1, h2⟩ := qg.lt hp
  exact h.2.2.2.2.2.1 a j (Nat.lt_of_lt_of_le h1 h.1) h2
theorem qg.tr {l : List (Nat × Option Nat)} {a b c : qx_S} (h : qg l a b) (k : qg l b c) : qg l a c := by
  refine ⟨h.1, Nat.le_trans h.2.1 k.2.1, k.2.2.1.trans h.2.2.1, k.2.2.2.1.trans h.2.2.2.1, fun x hx => ?_, fun x j hx hp => ?_, fun x j t hx ht => ?_, fun x j hx hs hp => ?_, fun j => ?_⟩
  · exact (k.2.2.2.2.1 x (Nat.lt_of_lt_of_le hx h.2.1)).trans (h.2.2.2.2.1 x hx)
  · exact (k.2.2.2.2.2.1 x j (Nat.lt_of_lt_of_le hx h.2.1) hp).trans (h.2.2.2.2.2.1 x j hx hp)
  · exact k.2.2.2.2.2.2.1 x j t (Nat.lt_of_lt_of_le hx h.2.1) (h.2.2.2.2.2.2.1 x j t hx ht)
  · have w1 := h.2.2.2.2.2.2.2.1 x j hx hs hp
    have w2 := k.2.2.2.2.2.2.2.1 x j (Nat.lt_of_lt_of_le hx h.2.1) (by rw [h.sv hx]; exact hs) hp
    exact ⟨w2.1.trans w1.1, w2.2.trans w1.2⟩
  · rcases k.2.2.2.2.2.2.2.2 j with z | ⟨b', z1, z2, z3, z4⟩
    · rcases h.2.2.2.2.2.2.2.2 j with w | ⟨b', w1, w2, w3, w4⟩
      · exact Or.inl (z.trans w)
      · exact Or.inr ⟨b', z.trans w1, w2, w3, w4⟩
    · rcases h.2.2.2.2.2.2.2.2 j with w | ⟨b'', w1, -⟩
      · exact Or.inr ⟨b', z1, w.symm.trans z2, Nat.le_trans h.2.1 z3, z4⟩
      · rw [w1] at z2; cases z2
theorem qg.mono {l m : List (Nat × Option Nat)} {σ s : qx_S} (h : qg l σ s) (hs : ∀ x j, pL m x j = false → pL l x j = false) : qg m σ s :=
  ⟨h.1, h.2.1, h.2.2.1, h.2.2.2.1, h.2.2.2.2.1, h.2.2.2.2.2.1, h.2.2.2.2.2.2.1, fun a j ha hs2 hp => h.2.2.2.2.2.2.2.1 a j ha hs2 (hs a j hp), fun j => (h.2.2.2.2.2.2.2.2 j).imp id (fun ⟨b, z1, z2, z3, z4⟩ => ⟨b, z1, z2, z3, by
    cases hb : pL m b 7 with
    | true => rfl
    | false => rw [hs b 7 hb] at z4; cases z4⟩)⟩
theorem qg.mn {l m : List (Nat × Option Nat)} {σ s : qx_S} (h : qg l σ s) (hs : pLs l m = true) : qg m σ s := h.mono (fun x j hp => pLs_ok hs x j hp)
theorem qg.rf {l : List (Nat × Option Nat)} {σ : qx_S} (h : 229 ≤ σ.1) : qg l σ σ := qg.of qf.rf h
theorem qg.le {l : List (Nat × Option Nat)} {σ s : qx_S} (h : qg l σ s) : 229 ≤ s.1 := Nat.le_trans h.1 h.2.1
/-! the laws over it -/
theorem uR.sh {σ s : qx_S} {a : Nat} (h : shR σ a) (f : ∀ y, a ≤ y → y ≤ a + 5 → qx_sh qc_T s y = qx_sh qc_T σ y) : shR s a :=
  ⟨h.1, (f a (by omega) (by omega)).trans h.2.1, (f (a + 1) (by omega) (by omega)).trans h.2.2.1, (f (a + 2) (by omega) (by omega)).trans h.2.2.2.1, (f (a + 3) (by omega) (by omega)).trans h.2.2.2.2.1, (f (a + 4) (by omega) (by omega)).trans h.2.2.2.2.2.1, (f (a + 5) (by omega) (by omega)).trans h.2.2.2.2.2.2⟩
theorem shR.no {σ : qx_S} {a y : Nat} (h : shR σ a) (h1 : a ≤ y) (h2 : y ≤ a + 5) : qx_sh qc_T σ y ≠ (0, 6400) := by
  rcases (show y = a ∨ y = a + 1 ∨ y = a + 2 ∨ y = a + 3 ∨ y = a + 4 ∨ y = a + 5 by omega) with z | z | z | z | z | z
  · rw [z, h.2.1]; decide
  · rw [z, h.2.2.1]; decide
  · rw [z, h.2.2.2.1]; decide
  · rw [z, h.2.2.2.2.1]; decide
  · rw [z, h.2.2.2.2.2.1]; decide
  · rw [z, h.2.2.2.2.2.2]; decide
theorem cRu.gr {σ s : qx_S} {rf : Option qR} {l : List (Nat × Option Nat)} (h : cRu σ rf) (f : qg l σ s) (hl : kLow l = true) : cRu s rf := by
  have g := f.1
  cases rf with
  | none => exact (f.r _ _ rfl).trans h
  | some R =>
    obtain ⟨x, h1, h2, h3, h4, h5⟩ := h
    have h2b := h2.2
    have h2c := f.2.1
    exact ⟨x, (f.r _ _ rfl).trans h1, ⟨h2.1, by omega⟩, uR.sh h3 (fun y _ hy => f.sv (by omega)), h4.lo (fun y hy hy2 j => f.iv (by omega) (Or.inr (h3.no hy hy2)) (kLow_ne hl (by omega))), h5⟩
theorem wL.gr {σ s : qx_S} {S : qS} {st : Nat} {l : List (Nat × Option Nat)} (h : wL σ S st) (g : gD S) (f : qg l σ s) (hl : kOut l = true) : wL s S st := by
  obtain ⟨h1, h2, h3, h4, h5⟩ := h
  have f1 := f.1
  have e : ∀ x j, (16 ≤ x ∧ x ≤ 25) ∨ (180 ≤ x ∧ x ≤ 184) → qx_mi s x j = qx_mi σ x j := fun x j hx => f.iv (by omega) (Or.inl (by omega)) (kOut_ne hl hx)
  exact ⟨(f.r _ _ rfl).trans h1, h2, h3.fb g (fun k hk j => e _ _ (by omega)), (e _ _ (by omega)).trans h4, fun p hp => ⟨(e _ _ (by omega)).trans (h5 p hp).1, (e _ _ (by omega)).trans (h5 p hp).2⟩⟩
theorem cW.gr {σ s : qx_S} {S : qS} {rf : Option qR} {st : Nat} {l : List (Nat × Option Nat)} (h : cW σ S rf st) (f : qg l σ s) (h1 : kOut l = true) (h2 : kLow l = true) : cW s S rf st := ⟨h.1, h.2.1.gr h.1.1 f h1, h.2.2.gr f h2⟩
theorem cK.gr {σ s : qx_S} {e pe : Nat} {kp : Bool} {lk : Nat → Nat → Nat → Int32} {l : List (Nat × Option Nat)} (h : cK σ e kp pe lk) (f : qg l σ s) (h7 : ∀ j, pL l 157 j = false) (h8 : pL l 156 8 = false) (h9 : pL l 156 9 = false) : cK s e kp pe lk := by
  have f1 := f.1
  refine ⟨(f.iv (by omega) (Or.inl (by omega)) h8).trans h.1, h.2.1, (f.iv (by omega) (Or.inl (by omega)) h9).trans h.2.2.1, fun p a q hp ha hq => ?_⟩
  obtain ⟨v, w1, w2⟩ := h.2.2.2 p a q hp ha hq
  exact ⟨v, (f.iv (by omega) (Or.inl (by omega)) (h7 _)).trans w1, w2⟩
/-- the row of twos -/
def kTt (σ : qx_S) (t e pe : Nat) (can : Nat → Nat → Nat → Nat → Bool) : Prop := qx_mr σ 156 5 = some t ∧ 229 ≤ t ∧ t < σ.1 ∧ qx_sh qc_T σ t = (0, 6400) ∧ ∀ i j x y, i < 10 → j < 10 → x < 8 → y < 8 → ∃ v, qx_mi σ t (((i * 10 + j) * 8 + x) * 8 + y) = nI v ∧ v / 2 ≤ e ∧ (i < pe → j < pe → v / 2 = e → (v % 2 = 1 ↔ can i j x y = true))
def kTw (σ : qx_S) (e pe : Nat) (can : Nat → Nat → Nat → Nat → Bool) : Prop := qx_mr σ 156 5 = none ∨ ∃ t, kTt σ t e pe can
theorem kTt.fr {σ s : qx_S} {t e pe : Nat} {can : Nat → Nat → Nat → Nat → Bool} {l : List (Nat × Option Nat)} (h : kTt σ t e pe can) (f : ql l σ s) (hl : ∀ j, pL l t j = false) : kTt s t e pe can := by
  refine ⟨(f.r _ _).trans h.1, h.2.1, by rw [f.1]; exact h.2.2.1, (f.s _).trans h.2.2.2.1, fun i j x y hi hj hx hy => ?_⟩
  obtain ⟨v, w1, w2⟩ := h.2.2.2.2 i j x y hi hj hx hy
  exact ⟨v, (f.i _ _ (hl _)).trans w1, w2⟩
theorem kTw.fr {σ s : qx_S} {e pe : Nat} {can : Nat → Nat → Nat → Nat → Bool} {l : List (Nat × Option Nat)} (h : kTw σ e pe can) (f : ql l σ s) (hl : kLow l = true) : kTw s e pe can := by
  rcases h with h | ⟨t, h⟩
  · exact Or.inl ((f.r _ _).trans h)
  · exact Or.inr ⟨t, h.fr f (fun j => kLow_ne hl (by have := h.2.1; omega))⟩
def q_c2 (S : qS) (rf : Option qR) (i j x y : Nat) : Bool := decide (q_bk S rf none i x y j 2 = 0) && decide (q_bk S rf none j y x i 2 = 0)
def cH2 (S : qS) (rf : Option qR) (kp : Bool) (can : Nat → Nat → Nat → Nat → Bool) : Prop := kp = true → ∀ i j x y, i < s_n S 1 → j < s_n S 1 → x < 8 → y < 8 → can i j x y = q_c2 S rf i j x y
theorem l_can {G : qx_G} {σ : qx_S} {S : qS} {rf : Option qR} {e st t : Nat} {kp : Bool} {lk : Nat → Nat → Nat → Int32} {can : Nat → Nat → Nat → Nat → Bool} {i j x y : Nat} (hW : cW σ S rf st) (hK : cK σ e kp (s_n S 1) lk) (hk : cH S rf kp lk) (hT : kTt σ t e (s_n S 1) can) (hc : cH2 S rf kp can) (hi : i < s_n S 1) (hj : j < s_n S 1) (hx : x < 8) (hy : y < 8) : qx_K G qc_T 4 RX2 YX2_canChange 16 [.ref 156, .int (nI i), .int (nI j), .int (nI x), .int (nI y), .retAddr 0, .retAddr 0] [] σ (fun r s => r = some (.int (bI (q_c2 S rf i j x y))) ∧ ql ((t, none) :: kLw) σ s ∧ cK s e kp (s_n S 1) lk ∧ kTt s t e (s_n S 1) can) := by
  have hpe := hW.1.1.2.1.2
  have he := hK.2.1
  have ht := hT.2.1
  obtain ⟨v, w1, w2, w3⟩ := hT.2.2.2.2 i j x y (by omega) (by omega) hx hy
  have hv2 : v &&& 1 = v % 2 := Nat.and_two_pow_sub_one_eq_mod _ 1
  have hv3 : v % 2 = 0 ∨ v % 2 = 1 := by omega
  have b1 := q_bk_le S rf none i x y j 2
  have b2 := q_bk_le S rf none j y x i 2
  have c1 : q_bk S rf none i x y j 2 = 0 → q_bk S rf none j y x i 2 = 0 → q_c2 S rf i j x y = true := fun h1 h2 => by
    unfold q_c2
    rw [decide_eq_true h1, decide_eq_true h2]
    rfl
  have c2 : ¬ q_bk S rf none i x y j 2 = 0 → q_c2 S rf i j x y = false := fun h1 => by
    unfold q_c2
    rw [decide_eq_false h1]
    rfl
  have c3 : ¬ q_bk S rf none j y x i 2 = 0 → q_c2 S rf i j x y = false := fun h1 => by
    unfold q_c2
    rw [decide_eq_false h1]
    exact Bool.and_false _
  have hf : ql ((t, none) :: kLw) σ σ := qf.rf
  have fe : ∀ a b : qx_S, ql kLw a b → ql ((t, none) :: kLw) a b := fun a b f => qf.cv f (by simp)
  have tn : ∀ j, pL kLw t j = false := fun j => pL_ne (by simp; omega)
  have put : ∀ (a b : qx_S) (c : Bool) (u : Nat), c = q_c2 S rf i j x y → u = e * 2 + cond c 1 0 → kp = true → b = qx_wi a t (((i * 10 + j) * 8 + x) * 8 + y) (nI u) → kTt a t e (s_n S 1) can → kTt b t e (s_n S 1) can := by
    intro a b c u hcu hu hkp eb h
    have f := qn_wi eb
    refine ⟨(f.r _ _).trans h.1, h.2.1, by rw [f.1]; exact h.2.2.1, (f.s _).trans h.2.2.2.1, fun i' j' x' y' hi' hj' hx' hy' => ?_⟩
    by_cases z : i' = i ∧ j' = j ∧ x' = x ∧ y' = y
    · obtain ⟨rfl, rfl, rfl, rfl⟩ := z
      refine ⟨u, (qn_eq eb), ?_, fun hi2 hj2 _ => ?_⟩
      · rw [hu]; cases c <;> simp <;> omega
      · rw [hc hkp i' j' x' y' hi2 hj2 hx' hy', ← hcu, hu]
        cases c with
        | true => exact ⟨fun _ => rfl, fun _ => by simp⟩
        | false => exact ⟨fun h => absurd h (by simp), fun h => by cases h⟩
    · obtain ⟨v, w1, w2⟩ := h.2.2.2.2 i' j' x' y' hi' hj' hx' hy'
      exact ⟨v, (qn_ne eb (Or.inr (by omega))).trans w1, w2⟩
  refine qy_wp_ok (c := CX2_canChange) (cuts := []) vX2_canChange wX2_canChange 2000 16 _ _ _ ?_
  refine Exists.intro (nI 10) (And.intro rfl ?_)
  refine Exists.intro (nI (i * 10)) (And.intro (pk_mul _ _) ?_)
  refine Exists.intro (nI (i * 10 + j)) (And.intro (nI_add _ _) ?_)
  refine Exists.intro (nI 8) (And.intro rfl ?_)
  refine Exists.intro (nI ((i * 10 + j) * 8)) (And.intro (pk_mul _ _) ?_)
  refine Exists.intro (nI ((i * 10 + j) * 8 + x)) (And.intro (nI_add _ _) ?_)
  refine Exists.intro (nI 8) (And.intro rfl ?_)
  refine Exists.intro (nI (((i * 10 + j) * 8 + x) * 8)) (And.intro (pk_mul _ _) ?_)
  refine Exists.intro (nI (((i * 10 + j) * 8 + x) * 8 + y)) (And.intro (nI_add _ _) ?_)
  refine And.intro rfl (Exists.intro 9 (Exists.intro (bI kp) (And.intro rfl (And.intro hK.2.2.1 ?_))))
  refine And.intro (fun h39 => ?_) (fun h39 => ?_)
  · skip
    have h39 := bI_f h39
    refine Exists.intro (nI 2) (And.intro rfl ?_)
    refine And.intro rfl (Exists.intro _ (And.intro (by decide) (qx_M_mono (c_brokenBy hW hK hk (by omega) (by omega) (by omega) (by omega)) ?_)))
    rintro _ σ1 ⟨rfl, fσ1, kσ1⟩
    have hW_σ1 : cW σ1 S rf st := hW.fr fσ1 rfl rfl
    have hT_σ1 : kTt σ1 t e (s_n S 1) can := hT.fr fσ1 tn
    have hf_σ1 : ql ((t, none) :: kLw) σ σ1 := hf.tr (fe _ _ fσ1)
    have hK_σ1 : cK σ1 e kp (s_n S 1) lk := kσ1
    refine And.intro (fun h86 => ?_) (fun h86 => ?_)
    · skip
      have h86 := nI_neT (a := q_bk S rf none i x y j 2) (b := 0) (by omega) (by decide) h86
      refine Exists.intro (nI 0) (And.intro rfl ?_)
      refine And.intro rfl (Exists.intro 9 (Exists.intro (bI kp) (And.intro rfl (And.intro ((fσ1.i _ _ rfl).trans (hK.2.2.1)) ?_))))
      refine And.intro (fun h113 => ?_) (fun h113 => ?_)
      · skip
        have h113 := bI_f h113
        refine And.intro (Or.inl rfl) ?_
        refine ⟨congrArg (fun z => some (Value.int z)) ?_, hf_σ1, hK_σ1, hT_σ1⟩
        first | (rw [c1 h86 h99]; rfl) | (rw [c2 h86]; rfl) | (rw [c3 h99]; rfl)
      · skip
        have h113 := bI_t h113
        refine And.intro rfl (Exists.intro 5 (Exists.intro (some t) (And.intro rfl (And.intro ((fσ1.r _ _).trans (hT.1)) ?_))))
        refine And.intro rfl (Exists.intro 8 (Exists.intro (nI e) (And.intro rfl (And.intro ((fσ1.i _ _ rfl).trans (hK.1)) ?_))))
        refine Exists.intro (nI 1) (And.intro rfl ?_)
        refine Exists.intro (nI (e * 2)) (And.intro (nI_shl (by omega)) ?_)
        refine And.intro (fun h130 => ?_) (fun h130 => ?_)
        · skip
          refine Exists.intro (nI 0) (And.intro rfl ?_)
          refine Exists.intro (nI (e * 2 + 0)) (And.intro (nI_add _ _) ?_)
          obtain ⟨σ2, eσ2⟩ : ∃ zs, zs = (qx_wi σ1 t (((i * 10 + j) * 8 + x) * 8 + y) (nI (e * 2 + 0))) := ⟨_, rfl⟩
          have fσ2 := qn_wi eσ2
          refine Exists.intro (((i * 10 + j) * 8 + x) * 8 + y) (Exists.intro σ2 (And.intro rfl (And.intro ⟨6400, (fσ1.s _).trans (hT.2.2.2.1), by omega, by decide⟩ (And.intro eσ2.symm ?_))))
          have hf_σ2 : ql ((t, none) :: kLw) σ σ2 := hf_σ1.tr (qf.cv fσ2 (by simp))
          have hK_σ2 : cK σ2 e kp (s_n S 1) lk := hK_σ1.fr fσ2 (fun _ => pL_ne (by simp; omega)) (pL_ne (by simp; omega)) (pL_ne (by simp; omega))
          have hT_σ2 : kTt σ2 t e (s_n S 1) can := put _ _ _ _ rfl (by first | (rw [c1 h86 h99]; rfl) | (rw [c2 h86]; rfl) | (rw [c3 h99]; rfl)) h113 eσ2 hT_σ1
          refine And.intro (Or.inl rfl) ?_
          refine ⟨congrArg (fun z => some (Value.int z)) ?_, hf_σ2, hK_σ2, hT_σ2⟩
          first | (rw [c1 h86 h99]; rfl) | (rw [c2 h86]; rfl) | (rw [c3 h99]; rfl)
        · skip
          exact absurd (by decide) h130
    · skip
      have h86 := nI_eqT (a := q_bk S rf none i x y j 2) (b := 0) (by omega) (by decide) h86
      refine Exists.intro (nI 2) (And.intro rfl ?_)
      refine And.intro rfl (Exists.intro _ (And.intro (by decide) (qx_M_mono (c_brokenBy hW_σ1 hK_σ1 hk (by omega) (by omega) (by omega) (by omega)) ?_)))
      rintro _ σ2 ⟨rfl, fσ2, kσ2⟩
      have hW_σ2 : cW σ2 S rf st := hW_σ1.fr fσ2 rfl rfl
      have hT_σ2 : kTt σ2 t e (s_n S 1) can := hT_σ1.fr fσ2 tn
      have hf_σ2 : ql ((t, none) :: kLw) σ σ2 := hf_σ1.tr (fe _ _ fσ2)
      have hK_σ2 : cK σ2 e kp (s_n S 1) lk := kσ2
      refine And.intro (fun h99 => ?_) (fun h99 => ?_)
      · skip
        have h99 := nI_neT (a := q_bk S rf none j y x i 2) (b := 0) (by omega) (by decide) h99
        refine Exists.intro (nI 0) (And.intro rfl ?_)
        refine And.intro rfl (Exists.intro 9 (Exists.intro (bI kp) (And.intro rfl (And.intro ((fσ2.i _ _ rfl).trans ((fσ1.i _ _ rfl).trans (hK.2.2.1))) ?_))))
        refine And.intro (fun h113 => ?_) (fun h113 => ?_)
        · skip
          have h113 := bI_f h113
          refine And.intro (Or.inl rfl) ?_
          refine ⟨congrArg (fun z => some (Value.int z)) ?_, hf_σ2, hK_σ2, hT_σ2⟩
          first | (rw [c1 h86 h99]; rfl) | (rw [c2 h86]; rfl) | (rw [c3 h99]; rfl)
        · skip
          have h113 := bI_t h113
          refine And.intro rfl (Exists.intro 5 (Exists.intro (some t) (And.intro rfl (And.intro ((fσ2.r _ _).trans ((fσ1.r _ _).trans (hT.1))) ?_))))
          refine And.intro rfl (Exists.intro 8 (Exists.intro (nI e) (And.intro rfl (And.intro ((fσ2.i _ _ rfl).trans ((fσ1.i _ _ rfl).trans (hK.1))) ?_))))
          refine Exists.intro (nI 1) (And.intro rfl ?_)
          refine Exists.intro (nI (e * 2)) (And.intro (nI_shl (by omega)) ?_)
          refine And.intro (fun h130 => ?_) (fun h130 => ?_)
          · skip
            refine Exists.intro (nI 0) (And.intro rfl ?_)
            refine Exists.intro (nI (e * 2 + 0)) (And.intro (nI_add _ _) ?_)
            obtain ⟨σ3, eσ3⟩ : ∃ zs, zs = (qx_wi σ2 t (((i * 10 + j) * 8 + x) * 8 + y) (nI (e * 2 + 0))) := ⟨_, rfl⟩
            have fσ3 := qn_wi eσ3
            refine Exists.intro (((i * 10 + j) * 8 + x) * 8 + y) (Exists.intro σ3 (And.intro rfl (And.intro ⟨6400, (fσ2.s _).trans ((fσ1.s _).trans (hT.2.2.2.1)), by omega, by decide⟩ (And.intro eσ3.symm ?_))))
            have hf_σ3 : ql ((t, none) :: kLw) σ σ3 := hf_σ2.tr (qf.cv fσ3 (by simp))
            have hK_σ3 : cK σ3 e kp (s_n S 1) lk := hK_σ2.fr fσ3 (fun _ => pL_ne (by simp; omega)) (pL_ne (by simp; omega)) (pL_ne (by simp; omega))
            have hT_σ3 : kTt σ3 t e (s_n S 1) can := put _ _ _ _ rfl (by first | (rw [c1 h86 h99]; rfl) | (rw [c2 h86]; rfl) | (rw [c3 h99]; rfl)) h113 eσ3 hT_σ2
            refine And.intro (Or.inl rfl) ?_
            refine ⟨congrArg (fun z => some (Value.int z)) ?_, hf_σ3, hK_σ3, hT_σ3⟩
            first | (rw [c1 h86 h99]; rfl) | (rw [c2 h86]; rfl) | (rw [c3 h99]; rfl)
          · skip
            exact absurd (by decide) h130
      · skip
        have h99 := nI_eqT (a := q_bk S rf none j y x i 2) (b := 0) (by omega) (by decide) h99
        refine Exists.intro (nI 1) (And.intro rfl ?_)
        refine And.intro rfl (Exists.intro 9 (Exists.intro (bI kp) (And.intro rfl (And.intro ((fσ2.i _ _ rfl).trans ((fσ1.i _ _ rfl).trans (hK.2.2.1))) ?_))))
        refine And.intro (fun h113 => ?_) (fun h113 => ?_)
        · skip
          have h113 := bI_f h113
          refine And.intro (Or.inr rfl) ?_
          refine ⟨congrArg (fun z => some (Value.int z)) ?_, hf_σ2, hK_σ2, hT_σ2⟩
          first | (rw [c1 h86 h99]; rfl) | (rw [c2 h86]; rfl) | (rw [c3 h99]; rfl)
        · skip
          have h113 := bI_t h113
          refine And.intro rfl (Exists.intro 5 (Exists.intro (some t) (And.intro rfl (And.intro ((fσ2.r _ _).trans ((fσ1.r _ _).trans (hT.1))) ?_))))
          refine And.intro rfl (Exists.intro 8 (Exists.intro (nI e) (And.intro rfl (And.intro ((fσ2.i _ _ rfl).trans ((fσ1.i _ _ rfl).trans (hK.1))) ?_))))
          refine Exists.intro (nI 1) (And.intro rfl ?_)
          refine Exists.intro (nI (e * 2)) (And.intro (nI_shl (by omega)) ?_)
          refine And.intro (fun h130 => ?_) (fun h130 => ?_)
          · skip
            exact absurd h130 (by decide)
          · skip
            refine Exists.intro (nI 1) (And.intro rfl ?_)
            refine Exists.intro (nI (e * 2 + 1)) (And.intro (nI_add _ _) ?_)
            obtain ⟨σ3, eσ3⟩ : ∃ zs, zs = (qx_wi σ2 t (((i * 10 + j) * 8 + x) * 8 + y) (nI (e * 2 + 1))) := ⟨_, rfl⟩
            have fσ3 := qn_wi eσ3
            refine Exists.intro (((i * 10 + j) * 8 + x) * 8 + y) (Exists.intro σ3 (And.intro rfl (And.intro ⟨6400, (fσ2.s _).trans ((fσ1.s _).trans (hT.2.2.2.1)), by omega, by decide⟩ (And.intro eσ3.symm ?_))))
            have hf_σ3 : ql ((t, none) :: kLw) σ σ3 := hf_σ2.tr (qf.cv fσ3 (by simp))
            have hK_σ3 : cK σ3 e kp (s_n S 1) lk := hK_σ2.fr fσ3 (fun _ => pL_ne (by simp; omega)) (pL_ne (by simp; omega)) (pL_ne (by simp; omega))
            have hT_σ3 : kTt σ3 t e (s_n S 1) can := put _ _ _ _ rfl (by first | (rw [c1 h86 h99]; rfl) | (rw [c2 h86]; rfl) | (rw [c3 h99]; rfl)) h113 eσ3 hT_σ2
            refine And.intro (Or.inr rfl) ?_
            refine ⟨congrArg (fun z => some (Value.int z)) ?_, hf_σ3, hK_σ3, hT_σ3⟩
            first | (rw [c1 h86 h99]; rfl) | (rw [c2 h86]; rfl) | (rw [c3 h99]; rfl)
  · skip
    have h39 := bI_t h39
    refine And.intro rfl (Exists.intro 5 (Exists.intro (some t) (And.intro rfl (And.intro hT.1 ?_))))
    refine Exists.intro (((i * 10 + j) * 8 + x) * 8 + y) (Exists.intro (nI v) (And.intro rfl (And.intro ⟨6400, hT.2.2.2.1, by omega, by decide⟩ (And.intro w1 ?_))))
    refine Exists.intro (nI 1) (And.intro rfl ?_)
    refine Exists.intro (nI (v / 2)) (And.intro (nI_shr (by omega) (by decide)) ?_)
    refine And.intro rfl (Exists.intro 8 (Exists.intro (nI e) (And.intro rfl (And.intro hK.1 ?_))))
    refine And.intro (fun h55 => ?_) (fun h55 => ?_)
    · skip
      have h55 := nI_neT (a := v / 2) (b := e) (by omega) (by omega) h55
      refine Exists.intro (nI 2) (And.intro rfl ?_)
      refine And.intro rfl (Exists.intro _ (And.intro (by decide) (qx_M_mono (c_brokenBy hW hK hk (by omega) (by omega) (by omega) (by omega)) ?_)))
      rintro _ σ1 ⟨rfl, fσ1, kσ1⟩
      have hW_σ1 : cW σ1 S rf st := hW.fr fσ1 rfl rfl
      have hT_σ1 : kTt σ1 t e (s_n S 1) can := hT.fr fσ1 tn
      have hf_σ1 : ql ((t, none) :: kLw) σ σ1 := hf.tr (fe _ _ fσ1)
      have hK_σ1 : cK σ1 e kp (s_n S 1) lk := kσ1
      refine And.intro (fun h86 => ?_) (fun h86 => ?_)
      · skip
        have h86 := nI_neT (a := q_bk S rf none i x y j 2) (b := 0) (by omega) (by decide) h86
        refine Exists.intro (nI 0) (And.intro rfl ?_)
        refine And.intro rfl (Exists.intro 9 (Exists.intro (bI kp) (And.intro rfl (And.intro ((fσ1.i _ _ rfl).trans (hK.2.2.1)) ?_))))
        refine And.intro (fun h113 => ?_) (fun h113 => ?_)
        · skip
          have h113 := bI_f h113
          refine And.intro (Or.inl rfl) ?_
          refine ⟨congrArg (fun z => some (Value.int z)) ?_, hf_σ1, hK_σ1, hT_σ1⟩
          first | (rw [c1 h86 h99]; rfl) | (rw [c2 h86]; rfl) | (rw [c3 h99]; rfl)
        · skip
          have h113 := bI_t h113
          refine And.intro rfl (Exists.intro 5 (Exists.intro (some t) (And.intro rfl (And.intro ((fσ1.r _ _).trans (hT.1)) ?_))))
          refine And.intro rfl (Exists.intro 8 (Exists.intro (nI e) (And.intro rfl (And.intro ((fσ1.i _ _ rfl).trans (hK.1)) ?_))))
          refine Exists.intro (nI 1) (And.intro rfl ?_)
          refine Exists.intro (nI (e * 2)) (And.intro (nI_shl (by omega)) ?_)
          refine And.intro (fun h130 => ?_) (fun h130 => ?_)
          · skip
            refine Exists.intro (nI 0) (And.intro rfl ?_)
            refine Exists.intro (nI (e * 2 + 0)) (And.intro (nI_add _ _) ?_)
            obtain ⟨σ2, eσ2⟩ : ∃ zs, zs = (qx_wi σ1 t (((i * 10 + j) * 8 + x) * 8 + y) (nI (e * 2 + 0))) := ⟨_, rfl⟩
            have fσ2 := qn_wi eσ2
            refine Exists.intro (((i * 10 + j) * 8 + x) * 8 + y) (Exists.intro σ2 (And.intro rfl (And.intro ⟨6400, (fσ1.s _).trans (hT.2.2.2.1), by omega, by decide⟩ (And.intro eσ2.symm ?_))))
            have hf_σ2 : ql ((t, none) :: kLw) σ σ2 := hf_σ1.tr (qf.cv fσ2 (by simp))
            have hK_σ2 : cK σ2 e kp (s_n S 1) lk := hK_σ1.fr fσ2 (fun _ => pL_ne (by simp; omega)) (pL_ne (by simp; omega)) (pL_ne (by simp; omega))
            have hT_σ2 : kTt σ2 t e (s_n S 1) can := put _ _ _ _ rfl (by first | (rw [c1 h86 h99]; rfl) | (rw [c2 h86]; rfl) | (rw [c3 h99]; rfl)) h113 eσ2 hT_σ1
            refine And.intro (Or.inl rfl) ?_
            refine ⟨congrArg (fun z => some (Value.int z)) ?_, hf_σ2, hK_σ2, hT_σ2⟩
            first | (rw [c1 h86 h99]; rfl) | (rw [c2 h86]; rfl) | (rw [c3 h99]; rfl)
          · skip
            exact absurd (by decide) h130
      · skip
        have h86 := nI_eqT (a := q_bk S rf none i x y j 2) (b := 0) (by omega) (by decide) h86
        refine Exists.intro (nI 2) (And.intro rfl ?_)
        refine And.intro rfl (Exists.intro _ (And.intro (by decide) (qx_M_mono (c_brokenBy hW_σ1 hK_σ1 hk (by omega) (by omega) (by omega) (by omega)) ?_)))
        rintro _ σ2 ⟨rfl, fσ2, kσ2⟩
        have hW_σ2 : cW σ2 S rf st := hW_σ1.fr fσ2 rfl rfl
        have hT_σ2 : kTt σ2 t e (s_n S 1) can := hT_σ1.fr fσ2 tn
        have hf_σ2 : ql ((t, none) :: kLw) σ σ2 := hf_σ1.tr (fe _ _ fσ2)
        have hK_σ2 : cK σ2 e kp (s_n S 1) lk := kσ2
        refine And.intro (fun h99 => ?_) (fun h99 => ?_)
        · skip
          have h99 := nI_neT (a := q_bk S rf none j y x i 2) (b := 0) (by omega) (by decide) h99
          refine Exists.intro (nI 0) (And.intro rfl ?_)
          refine And.intro rfl (Exists.intro 9 (Exists.intro (bI kp) (And.intro rfl (And.intro ((fσ2.i _ _ rfl).trans ((fσ1.i _ _ rfl).trans (hK.2.2.1))) ?_))))
          refine And.intro (fun h113 => ?_) (fun h113 => ?_)
          · skip
            have h113 := bI_f h113
            refine And.intro (Or.inl rfl) ?_
            refine ⟨congrArg (fun z => some (Value.int z)) ?_, hf_σ2, hK_σ2, hT_σ2⟩
            first | (rw [c1 h86 h99]; rfl) | (rw [c2 h86]; rfl) | (rw [c3 h99]; rfl)
          · skip
            have h113 := bI_t h113
            refine And.intro rfl (Exists.intro 5 (Exists.intro (some t) (And.intro rfl (And.intro ((fσ2.r _ _).trans ((fσ1.r _ _).trans (hT.1))) ?_))))
            refine And.intro rfl (Exists.intro 8 (Exists.intro (nI e) (And.intro rfl (And.intro ((fσ2.i _ _ rfl).trans ((fσ1.i _ _ rfl).trans (hK.1))) ?_))))
            refine Exists.intro (nI 1) (And.intro rfl ?_)
            refine Exists.intro (nI (e * 2)) (And.intro (nI_shl (by omega)) ?_)
            refine And.intro (fun h130 => ?_) (fun h130 => ?_)
            · skip
              refine Exists.intro (nI 0) (And.intro rfl ?_)
              refine Exists.intro (nI (e * 2 + 0)) (And.intro (nI_add _ _) ?_)
              obtain ⟨σ3, eσ3⟩ : ∃ zs, zs = (qx_wi σ2 t (((i * 10 + j) * 8 + x) * 8 + y) (nI (e * 2 + 0))) := ⟨_, rfl⟩
              have fσ3 := qn_wi eσ3
              refine Exists.intro (((i * 10 + j) * 8 + x) * 8 + y) (Exists.intro σ3 (And.intro rfl (And.intro ⟨6400, (fσ2.s _).trans ((fσ1.s _).trans (hT.2.2.2.1)), by omega, by decide⟩ (And.intro eσ3.symm ?_))))
              have hf_σ3 : ql ((t, none) :: kLw) σ σ3 := hf_σ2.tr (qf.cv fσ3 (by simp))
              have hK_σ3 : cK σ3 e kp (s_n S 1) lk := hK_σ2.fr fσ3 (fun _ => pL_ne (by simp; omega)) (pL_ne (by simp; omega)) (pL_ne (by simp; omega))
              have hT_σ3 : kTt σ3 t e (s_n S 1) can := put _ _ _ _ rfl (by first | (rw [c1 h86 h99]; rfl) | (rw [c2 h86]; rfl) | (rw [c3 h99]; rfl)) h113 eσ3 hT_σ2
              refine And.intro (Or.inl rfl) ?_
              refine ⟨congrArg (fun z => some (Value.int z)) ?_, hf_σ3, hK_σ3, hT_σ3⟩
              first | (rw [c1 h86 h99]; rfl) | (rw [c2 h86]; rfl) | (rw [c3 h99]; rfl)
            · skip
              exact absurd (by decide) h130
        · skip
          have h99 := nI_eqT (a := q_bk S rf none j y x i 2) (b := 0) (by omega) (by decide) h99
          refine Exists.intro (nI 1) (And.intro rfl ?_)
          refine And.intro rfl (Exists.intro 9 (Exists.intro (bI kp) (And.intro rfl (And.intro ((fσ2.i _ _ rfl).trans ((fσ1.i _ _ rfl).trans (hK.2.2.1))) ?_))))
          refine And.intro (fun h113 => ?_) (fun h113 => ?_)
          · skip
            have h113 := bI_f h113
            refine And.intro (Or.inr rfl) ?_
            refine ⟨congrArg (fun z => some (Value.int z)) ?_, hf_σ2, hK_σ2, hT_σ2⟩
            first | (rw [c1 h86 h99]; rfl) | (rw [c2 h86]; rfl) | (rw [c3 h99]; rfl)
          · skip
            have h113 := bI_t h113
            refine And.intro rfl (Exists.intro 5 (Exists.intro (some t) (And.intro rfl (And.intro ((fσ2.r _ _).trans ((fσ1.r _ _).trans (hT.1))) ?_))))
            refine And.intro rfl (Exists.intro 8 (Exists.intro (nI e) (And.intro rfl (And.intro ((fσ2.i _ _ rfl).trans ((fσ1.i _ _ rfl).trans (hK.1))) ?_))))
            refine Exists.intro (nI 1) (And.intro rfl ?_)
            refine Exists.intro (nI (e * 2)) (And.intro (nI_shl (by omega)) ?_)
            refine And.intro (fun h130 => ?_) (fun h130 => ?_)
            · skip
              exact absurd h130 (by decide)
            · skip
              refine Exists.intro (nI 1) (And.intro rfl ?_)
              refine Exists.intro (nI (e * 2 + 1)) (And.intro (nI_add _ _) ?_)
              obtain ⟨σ3, eσ3⟩ : ∃ zs, zs = (qx_wi σ2 t (((i * 10 + j) * 8 + x) * 8 + y) (nI (e * 2 + 1))) := ⟨_, rfl⟩
              have fσ3 := qn_wi eσ3
              refine Exists.intro (((i * 10 + j) * 8 + x) * 8 + y) (Exists.intro σ3 (And.intro rfl (And.intro ⟨6400, (fσ2.s _).trans ((fσ1.s _).trans (hT.2.2.2.1)), by omega, by decide⟩ (And.intro eσ3.symm ?_))))
              have hf_σ3 : ql ((t, none) :: kLw) σ σ3 := hf_σ2.tr (qf.cv fσ3 (by simp))
              have hK_σ3 : cK σ3 e kp (s_n S 1) lk := hK_σ2.fr fσ3 (fun _ => pL_ne (by simp; omega)) (pL_ne (by simp; omega)) (pL_ne (by simp; omega))
              have hT_σ3 : kTt σ3 t e (s_n S 1) can := put _ _ _ _ rfl (by first | (rw [c1 h86 h99]; rfl) | (rw [c2 h86]; rfl) | (rw [c3 h99]; rfl)) h113 eσ3 hT_σ2
              refine And.intro (Or.inr rfl) ?_
              refine ⟨congrArg (fun z => some (Value.int z)) ?_, hf_σ3, hK_σ3, hT_σ3⟩
              first | (rw [c1 h86 h99]; rfl) | (rw [c2 h86]; rfl) | (rw [c3 h99]; rfl)
    · skip
      have h55 := nI_eqT (a := v / 2) (b := e) (by omega) (by omega) h55
      refine And.intro rfl (Exists.intro 5 (Exists.intro (some t) (And.intro rfl (And.intro hT.1 ?_))))
      refine Exists.intro (((i * 10 + j) * 8 + x) * 8 + y) (Exists.intro (nI v) (And.intro rfl (And.intro ⟨6400, hT.2.2.2.1, by omega, by decide⟩ (And.intro w1 ?_))))
      refine Exists.intro (nI 1) (And.intro rfl ?_)
      refine Exists.intro (nI (v % 2)) (And.intro ((nI_and _ _).trans (congrArg nI hv2)) ?_)
      refine And.intro (fun h67 => ?_) (fun h67 => ?_)
      · skip
        have h67 := nI_eqT (a := v % 2) (b := 0) (by omega) (by decide) h67
        refine Exists.intro (nI 0) (And.intro rfl ?_)
        refine And.intro (Or.inl rfl) ?_
        refine ⟨congrArg (fun z => some (Value.int z)) ?_, hf, hK, hT⟩
        rw [← hc h39 i j x y hi hj hx hy]
        first | exact (bI_true ((w3 hi hj h55).mp (hv3.resolve_left h67))).symm | exact (bI_false (Bool.eq_false_iff.mpr (fun z => absurd (((w3 hi hj h55).mpr z).symm.trans h67) (by decide)))).symm
      · skip
        have h67 := nI_neT (a := v % 2) (b := 0) (by omega) (by decide) h67
        refine Exists.intro (nI 1) (And.intro rfl ?_)
        refine And.intro (Or.inr rfl) ?_
        refine ⟨congrArg (fun z => some (Value.int z)) ?_, hf, hK, hT⟩
        rw [← hc h39 i j x y hi hj hx hy]
        first | exact (bI_true ((w3 hi hj h55).mp (hv3.resolve_left h67))).symm | exact (bI_false (Bool.eq_false_iff.mpr (fun z => absurd (((w3 hi hj h55).mpr z).symm.trans h67) (by decide)))).symm
/-- a row is made -/
theorem qa_i {σ : qx_S} {q : Nat × Nat} {n a j : Nat} (h : a < σ.1) : qx_mi (qx_al σ q n) a j = qx_mi σ a j := congrFun (va_up_ne σ.2.2.2.1 _ (by omega)) j
theorem qa_l {σ : qx_S} {q : Nat × Nat} {n a j : Nat} (h : a < σ.1) : qx_ml (qx_al σ q n) a j = qx_ml σ a j := congrFun (va_up_ne σ.2.2.2.2.1 _ (by omega)) j
theorem qa_r {σ : qx_S} {q : Nat × Nat} {n a j : Nat} (h : a < σ.1) : qx_mr (qx_al σ q n) a j = qx_mr σ a j := congrFun (va_up_ne σ.2.2.2.2.2 _ (by omega)) j
theorem qa_d {σ : qx_S} {q : Nat × Nat} {n a : Nat} (h : a < σ.1) : (qx_al σ q n).2.2.1 a = σ.2.2.1 a := va_up_ne _ _ (by omega)
theorem qc_hi {a : Nat} (h : 229 ≤ a) : qc_T a = none := by
  unfold qc_T
  rw [show Nat.blt a 3 = false from Bool.eq_false_iff.mpr (fun w => by have := Nat.le_of_ble_eq_true w; omega), show Nat.blt a 229 = false from Bool.eq_false_iff.mpr (fun w => by have := Nat.le_of_ble_eq_true w; omega)]
  rfl
theorem qa_s {σ : qx_S} {q : Nat × Nat} {n : Nat} (h : 229 ≤ σ.1) : qx_sh qc_T (qx_al σ q n) σ.1 = q := by
  unfold qx_sh
  rw [qc_hi h]
  exact va_up_self _ _ _
theorem qw_rsh {σ : qx_S} {a k b : Nat} {v : Option Nat} : qx_sh qc_T (qx_wr σ a k v) b = qx_sh qc_T σ b := rfl
theorem qa_two {σ s : qx_S} (h : 229 ≤ σ.1) (hn : qx_mr σ 156 5 = none) (e : s = qx_wr (qx_al σ (0, 6400) 6400) 156 5 (some σ.1)) : qg [] σ s := by
  have r3 : ∀ a k, a < σ.1 → ¬ (a = 156 ∧ k = 5) → qx_mr s a k = qx_mr σ a k := fun a k ha hk => by
    rw [e]
    exact (qw_rne (by omega)).trans (qa_r ha)
  have q1 : ∀ a k n, a < σ.1 → ¬ (a = 156 ∧ k = 5) → qq s a k n = qq σ a k n := fun a k n ha hk => by
    unfold qq
    rw [r3 a k ha hk]
  have q2 : ∀ n, qq s 156 5 n = 0 := fun n => by
    unfold qq
    rw [show qx_mr s 156 5 = some σ.1 by rw [e]; exact qw_req]
  have q3 : ∀ n, qq σ 156 5 n = n := fun n => by
    unfold qq
    rw [hn]
  refine ⟨h, by rw [e]; exact Nat.le_succ _, ?_, ?_, fun a ha => by rw [e]; exact qa_d (n := 6400) ha, fun a j ha hp => r3 a j ha (fun z => ?_), fun a j t ha ht => (r3 a j ha (fun z => ?_)).trans ht, fun a j ha _ _ => ?_, fun j => Or.inl (r3 3 j (by omega) (by omega))⟩
  · unfold po
    rw [q2, q3, q1 3 17 _ (by omega) (by omega), q1 3 18 _ (by omega) (by omega)]
    rw [show s.2.1 = σ.2.1 + 6400 by rw [e]; rfl]
  · unfold pcl
    rw [q2, q3, q1 3 17 _ (by omega) (by omega), q1 3 18 _ (by omega) (by omega)]
    rw [show s.1 = σ.1 + 1 by rw [e]; rfl]
  · rw [z.1, z.2] at hp
    exact absurd hp (by decide)
  · rw [z.1, z.2, hn] at ht
    cases ht
  · rw [e]
    exact ⟨qa_i (q := (0, 6400)) (n := 6400) ha, qa_l (q := (0, 6400)) (n := 6400) ha⟩
theorem c_canChange {G : qx_G} {σ : qx_S} {S : qS} {rf : Option qR} {e st : Nat} {kp : Bool} {lk : Nat → Nat → Nat → Int32} {can : Nat → Nat → Nat → Nat → Bool} {i j x y : Nat} (hW : cW σ S rf st) (hK : cK σ e kp (s_n S 1) lk) (hk : cH S rf kp lk) (hT : kTw σ e (s_n S 1) can) (hc : cH2 S rf kp can) (h9 : 229 ≤ σ.1) (hi : i < s_n S 1) (hj : j < s_n S 1) (hx : x < 8) (hy : y < 8) : qx_M G qc_T 4 YX2_canChange [.ref 156, .int (nI i), .int (nI j), .int (nI x), .int (nI y)] σ (fun r s => r = some (.int (bI (q_c2 S rf i j x y))) ∧ qg kLw σ s ∧ cK s e kp (s_n S 1) lk ∧ kTw s e (s_n S 1) can) := by
  have fin : ∀ σ1 t s, qg kLw σ σ1 → kTt σ1 t e (s_n S 1) can → ql ((t, none) :: kLw) σ1 s → qg kLw σ s := by
    intro σ1 t s f hT f2
    refine f.tr ⟨f.le, Nat.le_of_eq f2.1.symm, (qg.of f2 f.le).2.2.1, (qg.of f2 f.le).2.2.2.1, fun a _ => by rw [f2.2.2.1], fun a j _ _ => f2.r a j, fun a j t _ ht => (f2.r a j).trans ht, fun a j _ hs hp => ?_, fun j => Or.inl (f2.r 3 j)⟩
    have ne : a ≠ t := fun z => hs.elim (fun w => by have := hT.2.1; omega) (fun w => w (by rw [z]; exact hT.2.2.2.1))
    have hp2 : pL ((t, none) :: kLw) a j = false := by
      show ((Nat.beq t a && true) || pL kLw a j) = false
      rw [hp, show Nat.beq t a = false from Bool.eq_false_iff.mpr (fun w => ne (Nat.eq_of_beq_eq_true w).symm)]
      rfl
    exact ⟨f2.i a j hp2, f2.l a j hp2⟩
  rcases hT with hn | ⟨t, hT⟩
  · have key : ∀ s, s = qx_wr (qx_al σ (0, 6400) 6400) 156 5 (some σ.1) → qx_K G qc_T 4 RX2 YX2_canChange 16 [.ref 156, .int (nI i), .int (nI j), .int (nI x), .int (nI y), .retAddr 0, .retAddr 0] [] s (fun r s => r = some (.int (bI (q_c2 S rf i j x y))) ∧ qg kLw σ s ∧ cK s e kp (s_n S 1) lk ∧ kTw s e (s_n S 1) can) := by
      intro s es
      have f := qa_two h9 hn es
      have hT : kTt s σ.1 e (s_n S 1) can := by
        refine ⟨by rw [es]; exact qw_req, h9, by rw [es]; exact Nat.lt_succ_self _, by rw [es]; exact qa_s (n := 6400) h9, fun i j x y _ _ _ _ => ⟨0, ?_, by omega, fun _ _ z => ?_⟩⟩
        · rw [es]
          show va_up σ.2.2.2.1 σ.1 (fun _ => 0) σ.1 _ = _
          rw [va_up_self]
          rfl
        · have := hK.2.1.1
          omega
      exact qx_K_mono (l_can (hW.gr f rfl rfl) (hK.gr f (fun _ => rfl) rfl rfl) hk hT hc hi hj hx hy) (fun r s2 h => ⟨h.1, fin s σ.1 s2 (f.mn rfl) hT h.2.1, h.2.2.1, Or.inr ⟨_, h.2.2.2⟩⟩)
    refine qx_M_in rfl (Nat.le_of_ble_eq_true rfl) ?_
    refine qy_wp_ok (c := CX2_canChange) (cuts := [16]) vX2_canChange wX2_canChange 2000 0 _ _ _ ?_
    refine And.intro rfl (Exists.intro 5 (Exists.intro none (And.intro rfl (And.intro hn ?_))))
    refine Exists.intro (nI 6400) (And.intro rfl ?_)
    refine Exists.intro 6400 (Exists.intro (qx_nx σ) (Exists.intro (qx_al σ (0, 6400) 6400) (And.intro rfl (And.intro (by decide) (And.intro rfl (And.intro rfl ?_))))))
    refine And.intro rfl (Exists.intro 5 (Exists.intro (qx_wr (qx_al σ (0, 6400) 6400) 156 5 (some (qx_nx σ))) (And.intro rfl (And.intro rfl ?_))))
    exact key _ rfl
  · skip
    refine qx_M_in rfl (Nat.le_of_ble_eq_true rfl) ?_
    refine qy_wp_ok (c := CX2_canChange) (cuts := [16]) vX2_canChange wX2_canChange 2000 0 _ _ _ ?_
    refine And.intro rfl (Exists.intro 5 (Exists.intro (some t) (And.intro rfl (And.intro hT.1 ?_))))
    exact qx_K_mono (l_can hW hK hk hT hc hi hj hx hy) (fun r s2 h => ⟨h.1, fin σ t s2 (qg.rf h9) hT h.2.1, h.2.2.1, Or.inr ⟨_, h.2.2.2⟩⟩)

