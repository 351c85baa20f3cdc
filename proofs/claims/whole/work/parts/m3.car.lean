/-! what the class keeps, carried over any change of memory that leaves it alone; ow: whose an object is -/
def qk (P R : Nat → Nat → Bool) (σ s : qx_S) : Prop := σ.1 ≤ s.1 ∧ (∀ a, a < σ.1 → s.2.2.1 a = σ.2.2.1 a) ∧ (∀ a j, a < σ.1 → (a < 229 ∨ qx_sh qc_T σ a ≠ (0, 6400)) → P a j = false → qx_mi s a j = qx_mi σ a j) ∧ ∀ a j, a < σ.1 → R a j = false → qx_mr s a j = qx_mr σ a j
theorem qk.sv {P R : Nat → Nat → Bool} {σ s : qx_S} (f : qk P R σ s) {a : Nat} (ha : a < σ.1) : qx_sh qc_T s a = qx_sh qc_T σ a := kx_sh (f.2.1 a ha)
theorem qk.lo {P R : Nat → Nat → Bool} {σ s : qx_S} (f : qk P R σ s) (h9 : 229 ≤ σ.1) {a j : Nat} (ha : a < 229) (hp : P a j = false) : qx_mi s a j = qx_mi σ a j := f.2.2.1 a j (by omega) (Or.inl ha) hp
theorem qk.r {P R : Nat → Nat → Bool} {σ s : qx_S} (f : qk P R σ s) (h9 : 229 ≤ σ.1) {a j : Nat} (ha : a < 229) (hp : R a j = false) : qx_mr s a j = qx_mr σ a j := f.2.2.2 a j (by omega) hp
theorem qf.k {P : Nat → Nat → Bool} {σ s : qx_S} (f : qf P σ s) : qk P (fun _ _ => false) σ s := ⟨by rw [f.1]; exact Nat.le_refl _, fun a _ => by rw [f.2.2.1], fun a j _ _ h => f.i a j h, fun a j _ _ => f.r a j⟩
theorem qg.k {l : List (Nat × Option Nat)} {σ s : qx_S} (f : qg l σ s) : qk (pL l) (pL kG) σ s := ⟨f.2.1, f.2.2.2.2.1, fun a j ha hs hp => f.iv ha hs hp, fun a j ha hr => f.2.2.2.2.2.1 a j ha hr⟩
theorem qk.wr {P R : Nat → Nat → Bool} {σ s s' : qx_S} {b k : Nat} {v : Option Nat} (f : qk P R σ s) (e : s' = qx_wr s b k v) (hR : R b k = true) : qk P R σ s' := by
  subst e
  refine ⟨f.1, f.2.1, fun a j ha hs hp => f.2.2.1 a j ha hs hp, fun a j ha hr => ?_⟩
  refine Eq.trans ?_ (f.2.2.2 a j ha hr)
  show qx_mr (qx_wr s b k v) a j = qx_mr s a j
  unfold qx_mr qx_wr
  show qx_up2 s.2.2.2.2.2 b k v a j = s.2.2.2.2.2 a j
  exact if_neg (fun z => by rw [z.1, z.2, hR] at hr; cases hr)
theorem qk.wi {P R : Nat → Nat → Bool} {σ s s' : qx_S} {b k : Nat} {v : Int32} (f : qk P R σ s) (e : s' = qx_wi s b k v) (hP : P b k = true) : qk P R σ s' := by
  subst e
  refine ⟨f.1, f.2.1, fun a j ha hs hp => ?_, f.2.2.2⟩
  refine Eq.trans ?_ (f.2.2.1 a j ha hs hp)
  show qx_mi (qx_wi s b k v) a j = qx_mi s a j
  unfold qx_mi qx_wi
  show qx_up2 s.2.2.2.1 b k v a j = s.2.2.2.1 a j
  exact if_neg (fun z => by rw [z.1, z.2, hP] at hp; cases hp)
theorem qk.mono {P R P' R' : Nat → Nat → Bool} {σ s : qx_S} (f : qk P R σ s) (hp : ∀ a j, P' a j = false → P a j = false) (hr : ∀ a j, R' a j = false → R a j = false) : qk P' R' σ s := ⟨f.1, f.2.1, fun a j ha hs h => f.2.2.1 a j ha hs (hp a j h), fun a j ha h => f.2.2.2 a j ha (hr a j h)⟩
theorem qk.tr {P R : Nat → Nat → Bool} {a b c : qx_S} (f : qk P R a b) (k : qk P R b c) : qk P R a c := ⟨Nat.le_trans f.1 k.1, fun x hx => (k.2.1 x (Nat.lt_of_lt_of_le hx f.1)).trans (f.2.1 x hx), fun x j hx hs hp => (k.2.2.1 x j (Nat.lt_of_lt_of_le hx f.1) (hs.imp id (fun w => by rw [f.sv hx]; exact w)) hp).trans (f.2.2.1 x j hx hs hp), fun x j hx hr => (k.2.2.2 x j (Nat.lt_of_lt_of_le hx f.1) hr).trans (f.2.2.2 x j hx hr)⟩
/-- kept likes, kept most, kept lies -/
theorem cLk.k {P R : Nat → Nat → Bool} {σ s : qx_S} {S : qS} {rf : Option qR} {e : Nat} (h : cLk σ S rf e) (h9 : 229 ≤ σ.1) (f : qk P R σ s) (h1 : P 3 16 = false) (h2 : ∀ j, P 187 j = false) : cLk s S rf e := by
  obtain ⟨el, a, b, c⟩ := h
  exact ⟨el, (f.lo h9 (by decide) h1).trans a, b, fun z p q hp hq => (f.lo h9 (by decide) (h2 _)).trans (c z p q hp hq)⟩
theorem cMs.k {P R : Nat → Nat → Bool} {σ s : qx_S} {S : qS} {rf : Option qR} {e : Nat} (h : cMs σ S rf e) (h9 : 229 ≤ σ.1) (f : qk P R σ s) (h1 : ∀ x j, (160 ≤ x ∧ x ≤ 161) ∨ (165 ≤ x ∧ x ≤ 170) → P x j = false) : cMs s S rf e := by
  have i : ∀ x j, (160 ≤ x ∧ x ≤ 161) ∨ (165 ≤ x ∧ x ≤ 170) → qx_mi s x j = qx_mi σ x j := fun x j hx => f.lo h9 (by omega) (h1 x j hx)
  obtain ⟨a, ⟨M, b1, b2, b3⟩, ku, es, c1, c2, c3, c4, c5⟩ := h
  refine ⟨fun n n2 n4 => ?_, ⟨M, ⟨fun x hx => (i _ _ (by omega)).trans (b1.1 x hx), fun x hx => (i _ _ (by omega)).trans (b1.2.1 x hx), (i _ _ (by omega)).trans b1.2.2.1, (i _ _ (by omega)).trans b1.2.2.2⟩, b2, b3⟩, ku, es, c1, (i _ _ (by omega)).trans c2, (i _ _ (by omega)).trans c3, c4, fun z => ?_⟩
  · obtain ⟨eu, d1, d2, d3⟩ := a n n2 n4
    exact ⟨eu, (i _ _ (by omega)).trans d1, d2, fun z x hx => (i _ _ (by omega)).trans (d3 z x hx)⟩
  · obtain ⟨w1, w2, w3⟩ := c5 z
    exact ⟨w1, fun x hx => (i _ _ (by omega)).trans (w2 x hx), fun x y hx hy => (i _ _ (by omega)).trans (w3 x y hx hy)⟩
theorem cLi.k {P R : Nat → Nat → Bool} {σ s : qx_S} {A : Nat} {S : qS} {rf : Option qR} {e w : Nat} (h : cLi σ A S rf e w) (hA : A + 4 < 229) (h9 : 229 ≤ σ.1) (f : qk P R σ s) (h1 : ∀ j, P (A + 3) j = false) (h2 : ∀ j, P (A + 4) j = false) : cLi s A S rf e w := fun p hp => by
  obtain ⟨el, a, b, c⟩ := h p hp
  exact ⟨el, (f.lo h9 hA (h2 _)).trans a, b, fun z1 z2 => (f.lo h9 (by omega) (h1 _)).trans (c z1 z2)⟩
/-- the searches -/
def cSw (σ : qx_S) (ow : Nat → Nat) (S : qS) (rf : Option qR) (e fld w t : Nat) : Prop := cSe σ S rf e fld w ∧ ∀ b, qx_mr σ 3 fld = some b → ∀ x, b ≤ x → x < b + 7 → ow x = t
theorem cSw.k {P R : Nat → Nat → Bool} {σ s : qx_S} {ow ow' : Nat → Nat} {S : qS} {rf : Option qR} {e fld w t : Nat} (h : cSw σ ow S rf e fld w t) (h9 : 229 ≤ σ.1) (f : qk P R σ s) (ho : ∀ x, x < σ.1 → ow' x = ow x) (h1 : R 3 fld = false) (h2 : ∀ x j, 191 ≤ x → x < σ.1 → ow x = t → P x j = false) : cSw s ow' S rf e fld w t := by
  have er := f.r h9 (a := 3) (j := fld) (by decide) h1
  refine ⟨?_, fun b hb x x1 x2 => ?_⟩
  · rcases h.1 with z | ⟨b, b1, b2, b3, es, b4, b5, b6⟩
    · exact Or.inl (er.trans z)
    · have hm : ∀ y j, b ≤ y → y ≤ b + 6 → qx_mi s y j = qx_mi σ y j := fun y j y1 y2 => f.2.2.1 y j (by omega) (Or.inr (b3.n64 y1 y2)) (h2 y j (by omega) (by omega) (h.2 b b1 y y1 (by omega)))
      have hv : ∀ y, b ≤ y → y ≤ b + 6 → qx_sh qc_T s y = qx_sh qc_T σ y := fun y y1 y2 => f.sv (by omega)
      have hf := f.1
      refine Or.inr ⟨b, er.trans b1, by omega, ⟨(hv _ (by omega) (by omega)).trans b3.1, fun i i1 i2 => (hv _ (by omega) (by omega)).trans (b3.2.1 i i1 i2), (hv _ (by omega) (by omega)).trans b3.2.2⟩, es, (hm _ _ (by omega) (by omega)).trans b4, b5, fun z => ?_⟩
      obtain ⟨n, q⟩ := b6 z
      exact ⟨n, q.cg hv hm f.1⟩
  · rw [er] at hb
    rcases h.1 with z | ⟨b', b1, b2, -⟩
    · rw [z] at hb; cases hb
    · have e : b' = b := by rw [b1] at hb; exact Option.some.inj hb
      rw [ho x (by omega)]
      exact h.2 b hb x x1 x2
/-- the rules, the draft, the tape, the images -/
def cRs (σ : qx_S) (ow : Nat → Nat) (nr : Nat) (Rs : Nat → qR) : Prop := cRl σ nr Rs ∧ ∀ i y, i < nr → qx_mr σ 14 i = some y → ∀ x, y ≤ x → x < y + 6 → ow x = 10 + i
theorem cRs.k {P R : Nat → Nat → Bool} {σ s : qx_S} {ow ow' : Nat → Nat} {nr : Nat} {Rs : Nat → qR} (h : cRs σ ow nr Rs) (h9 : 229 ≤ σ.1) (f : qk P R σ s) (ho : ∀ x, x < σ.1 → ow' x = ow x) (h1 : P 3 15 = false) (h3 : ∀ i, i < nr → R 14 i = false) (h2 : ∀ x j, 191 ≤ x → x < σ.1 → 10 ≤ ow x → ow x < 10 + nr → P x j = false) : cRs s ow' nr Rs := by
  have er : ∀ i, i < nr → qx_mr s 14 i = qx_mr σ 14 i := fun i hi => f.r h9 (by decide) (h3 i hi)
  have hf := f.1
  refine ⟨⟨(f.lo h9 (by decide) h1).trans h.1.1, h.1.2.1, fun i hi => ?_⟩, fun i y hi hy x x1 x2 => ?_⟩
  · obtain ⟨y, y1, y2, y3, y4, y5⟩ := h.1.2.2 i hi
    have hv : ∀ z, y ≤ z → z ≤ y + 5 → qx_sh qc_T s z = qx_sh qc_T σ z := fun z z1 z2 => f.sv (by omega)
    refine ⟨y, (er i hi).trans y1, by omega, ⟨y3.1, (hv _ (by omega) (by omega)).trans y3.2.1, (hv _ (by omega) (by omega)).trans y3.2.2.1, (hv _ (by omega) (by omega)).trans y3.2.2.2.1, (hv _ (by omega) (by omega)).trans y3.2.2.2.2.1, (hv _ (by omega) (by omega)).trans y3.2.2.2.2.2.1, (hv _ (by omega) (by omega)).trans y3.2.2.2.2.2.2⟩, y4.lo (fun z z1 z2 j => ?_), y5⟩
    have o := h.2 i y hi y1 z z1 (by omega)
    exact f.2.2.1 z j (by omega) (Or.inr (y3.no z1 z2)) (h2 z j (by omega) (by omega) (by omega) (by omega))
  · rw [er i hi] at hy
    obtain ⟨y', y1, y2, -⟩ := h.1.2.2 i hi
    have e : y' = y := by rw [y1] at hy; exact Option.some.inj hy
    rw [ho x (by omega)]
    exact h.2 i y hi hy x x1 x2
def cDr (σ : qx_S) (ow : Nat → Nat) : Prop := ∃ a, qx_mr σ 3 14 = some a ∧ (191 ≤ a ∧ a + 6 ≤ σ.1) ∧ shR σ a ∧ ∀ x, a ≤ x → x < a + 6 → ow x = 3
theorem cDr.k {P R : Nat → Nat → Bool} {σ s : qx_S} {ow ow' : Nat → Nat} (h : cDr σ ow) (h9 : 229 ≤ σ.1) (f : qk P R σ s) (ho : ∀ x, x < σ.1 → ow' x = ow x) (h3 : R 3 14 = false) : cDr s ow' := by
  obtain ⟨y, y1, y2, y3, y4⟩ := h
  have hf := f.1
  have hv : ∀ z, y ≤ z → z ≤ y + 5 → qx_sh qc_T s z = qx_sh qc_T σ z := fun z z1 z2 => f.sv (by omega)
  exact ⟨y, (f.r h9 (by decide) h3).trans y1, by omega, ⟨y3.1, (hv _ (by omega) (by omega)).trans y3.2.1, (hv _ (by omega) (by omega)).trans y3.2.2.1, (hv _ (by omega) (by omega)).trans y3.2.2.2.1, (hv _ (by omega) (by omega)).trans y3.2.2.2.2.1, (hv _ (by omega) (by omega)).trans y3.2.2.2.2.2.1, (hv _ (by omega) (by omega)).trans y3.2.2.2.2.2.2⟩, fun x x1 x2 => by rw [ho x (by omega)]; exact y4 x x1 x2⟩
theorem tC.k {P R : Nat → Nat → Bool} {σ s : qx_S} {T : q_T} (h : tC σ T) (h9 : 229 ≤ σ.1) (f : qk P R σ s) (h1 : P 4 4 = false) (h2 : ∀ j, P 5 j = false) : tC s T := ⟨(f.lo h9 (by decide) h1).trans h.1, h.2.1, fun k hk => ⟨(f.lo h9 (by decide) (h2 k)).trans (h.2.2 k hk).1, (h.2.2 k hk).2⟩⟩
def cJ1 (σ : qx_S) (ow : Nat → Nat) (k : Nat) (S : qS) : Prop := gT S ∧ ∃ b, qx_mr σ 155 k = some b ∧ (229 ≤ b ∧ b + 140 ≤ σ.1) ∧ cSh σ b ∧ cSt σ b S ∧ ∀ x, b ≤ x → x < b + 140 → ow x = 20 + k
def cJm (σ : qx_S) (ow : Nat → Nat) (J : Nat → Option qS) : Prop := ∀ k, k < 4 → (J k = none → qx_mr σ 155 k = none) ∧ ∀ S, J k = some S → cJ1 σ ow k S
theorem cSh.sv {σ s : qx_S} {b : Nat} (h : cSh σ b) (v : ∀ y, b ≤ y → y < b + 140 → qx_sh qc_T s y = qx_sh qc_T σ y) (r : ∀ y j, b ≤ y → y < b + 140 → qx_mr s y j = qx_mr σ y j) : cSh s b := by
  obtain ⟨b1, b2, b3, b4, b5, b6, b7, b8, b9⟩ := h
  refine ⟨(v _ (by omega) (by omega)).trans b1, ⟨(v _ (by omega) (by omega)).trans b2.1, (v _ (by omega) (by omega)).trans b2.2.1, (v _ (by omega) (by omega)).trans b2.2.2.1, (v _ (by omega) (by omega)).trans b2.2.2.2.1, (v _ (by omega) (by omega)).trans b2.2.2.2.2⟩, ⟨(v _ (by omega) (by omega)).trans b3.1, (v _ (by omega) (by omega)).trans b3.2.1, (v _ (by omega) (by omega)).trans b3.2.2.1, (v _ (by omega) (by omega)).trans b3.2.2.2.1, (v _ (by omega) (by omega)).trans b3.2.2.2.2⟩, (v _ (by omega) (by omega)).trans b4, ⟨(v _ (by omega) (by omega)).trans b5.1, (v _ (by omega) (by omega)).trans b5.2⟩, (v _ (by omega) (by omega)).trans b6, (v _ (by omega) (by omega)).trans b7, fun i hi => ⟨(r _ _ (by omega) (by omega)).trans (b8 i hi).1, ?_⟩, fun i hi => ⟨(r _ _ (by omega) (by omega)).trans (b9 i hi).1, ?_⟩⟩
  · have w := (b8 i hi).2
    exact ⟨(v _ (by omega) (by omega)).trans w.1, (v _ (by omega) (by omega)).trans w.2.1, (v _ (by omega) (by omega)).trans w.2.2.1, (v _ (by omega) (by omega)).trans w.2.2.2.1, (v _ (by omega) (by omega)).trans w.2.2.2.2⟩
  · have w := (b9 i hi).2
    exact ⟨(v _ (by omega) (by omega)).trans w.1, (v _ (by omega) (by omega)).trans w.2⟩
theorem cJ1.k {P R : Nat → Nat → Bool} {σ s : qx_S} {ow ow' : Nat → Nat} {k : Nat} {S : qS} (h : cJ1 σ ow k S) (h9 : 229 ≤ σ.1) (f : qk P R σ s) (ho : ∀ x, x < σ.1 → ow' x = ow x) (h1 : R 155 k = false) (h3 : ∀ x j, 229 ≤ x → R x j = false) (h2 : ∀ x j, 191 ≤ x → x < σ.1 → ow x = 20 + k → P x j = false) : cJ1 s ow' k S := by
  obtain ⟨g, b, b1, b2, b3, b4, b5⟩ := h
  have hf := f.1
  refine ⟨g, b, (f.r h9 (by decide) h1).trans b1, by omega, b3.sv (fun y y1 y2 => f.sv (by omega)) (fun y j y1 y2 => f.2.2.2 y j (by omega) (h3 y j (by omega))), b4.fb g.1.1 g.b12 (fun y j y1 y2 => f.2.2.1 y j (by omega) (Or.inr (fun z => b3.nk y1 y2 (by rw [z]; unfold nK; simp))) (h2 y j (by omega) (by omega) (b5 y y1 (by omega)))), fun x x1 x2 => by rw [ho x (by omega)]; exact b5 x x1 x2⟩
theorem cJm.k {P R : Nat → Nat → Bool} {σ s : qx_S} {ow ow' : Nat → Nat} {J : Nat → Option qS} (h : cJm σ ow J) (h9 : 229 ≤ σ.1) (f : qk P R σ s) (ho : ∀ x, x < σ.1 → ow' x = ow x) (h1 : ∀ k, R 155 k = false) (h3 : ∀ x j, 229 ≤ x → R x j = false) (h2 : ∀ x j, 191 ≤ x → x < σ.1 → 20 ≤ ow x → P x j = false) : cJm s ow' J := fun k hk => ⟨fun z => (f.r h9 (by decide) (h1 k)).trans ((h k hk).1 z), fun S' z => ((h k hk).2 S' z).k h9 f ho (h1 k) h3 (fun x j x1 x2 x3 => h2 x j x1 x2 (by omega))⟩
