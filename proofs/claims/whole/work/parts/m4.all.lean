/-! THE WHOLE: what class and reference keep, side by side -/
theorem shR.x {σ : qx_S} {x : Nat} (h : shR σ x) (h1 : 191 ≤ x) : x = 191 ∨ 229 ≤ x := by
  rcases Nat.lt_or_ge x 229 with z | z
  · have k := h.2.1
    have q : ∀ y, y < 37 → qc_T (192 + y) ≠ some (13, 0) ∧ qc_T (192 + y) ≠ none := by decide
    by_cases e : x = 191
    · exact Or.inl e
    · exfalso
      obtain ⟨q1, q2⟩ := q (x - 192) (by omega)
      rw [show 192 + (x - 192) = x by omega] at q1 q2
      unfold qx_sh at k
      cases hq : qc_T x with
      | none => exact q2 hq
      | some v => rw [hq] at k q1; exact q1 (congrArg some k)
  · exact Or.inr z
theorem cI.mm {σ s : qx_S} {S : qS} {rf : Option qR} {e : Nat} (h : cI σ S rf e) (h1 : σ.1 ≤ s.1) (d : ∀ a, a < σ.1 → s.2.2.1 a = σ.2.2.1 a) (i : ∀ a j, a < σ.1 → a < 197 ∨ 229 ≤ a → qx_mi s a j = qx_mi σ a j) (r : ∀ a j, a = 14 ∨ a = 26 ∨ a = 29 ∨ a = 156 → qx_mr s a j = qx_mr σ a j) : cI s S rf e := by
  have h9 := h.2.2.2.2.2.2.2.2
  have sv : ∀ a, a < σ.1 → qx_sh qc_T s a = qx_sh qc_T σ a := fun a ha => kx_sh (d a ha)
  have lo : ∀ a j, a < 197 → qx_mi s a j = qx_mi σ a j := fun a j ha => i a j (by omega) (Or.inl ha)
  obtain ⟨a1, a2, a3, a4, a5, a6, a7, a8, a9⟩ := h
  refine ⟨a1, a2.fb a1.1.1 a1.b12 (fun y j h1 h2 => lo _ _ (by omega)), ?_, (r _ _ (by omega)).trans a4, ?_, ?_, ⟨(lo _ _ (by omega)).trans a7.1, a7.2.1, (lo _ _ (by omega)).trans a7.2.2.1, fun p a q hp ha hq => ?_⟩, ?_, by omega⟩
  · obtain ⟨b1, b2, b3, b4, b5, b6, b7, b8, b9⟩ := a3
    refine ⟨rfl, b2, b3, rfl, b5, rfl, rfl, fun i hi => ⟨(r _ _ (by omega)).trans (b8 i hi).1, ?_⟩, fun i hi => ⟨(r _ _ (by omega)).trans (b9 i hi).1, ?_⟩⟩
    · have w := (b8 i hi).2
      exact ⟨(sv _ (by omega)).trans w.1, (sv _ (by omega)).trans w.2.1, (sv _ (by omega)).trans w.2.2.1, (sv _ (by omega)).trans w.2.2.2.1, (sv _ (by omega)).trans w.2.2.2.2⟩
    · have w := (b9 i hi).2
      exact ⟨(sv _ (by omega)).trans w.1, (sv _ (by omega)).trans w.2⟩
  · cases rf with
    | none => exact (r _ _ (by omega)).trans a5
    | some R =>
      obtain ⟨x, h1', h2, h3, h4, h5⟩ := a5
      have h2b := h2.2
      refine ⟨x, (r _ _ (by omega)).trans h1', ⟨h2.1, by omega⟩, uR.sh h3 (fun y _ hy => sv _ (by omega)), h4.lo (fun y hy hy2 j => i _ _ (by omega) (by have := h3.x h2.1; omega)), h5⟩
  · rw [show qx_mr s 156 7 = qx_mr σ 156 7 from r _ _ (by omega)]
    rcases a6 with ⟨a, b⟩ | ⟨g, nr, x, c1, c2, c3, c4, c5, c6⟩
    · exact Or.inl ⟨a, (lo _ _ (by omega)).trans b⟩
    · exact Or.inr ⟨g, nr, x, c1, (lo _ _ (by omega)).trans c2, (lo _ _ (by omega)).trans c3, c4, c5, (r _ _ (by omega)).trans c6⟩
  · obtain ⟨v, w1, w2⟩ := a7.2.2.2 p a q hp ha hq
    exact ⟨v, (lo _ _ (by omega)).trans w1, w2⟩
  · rcases a8 with t1 | ⟨t, t1⟩
    · exact Or.inl ((r _ _ (by omega)).trans t1)
    · refine Or.inr ⟨t, (r _ _ (by omega)).trans t1.1, t1.2.1, by have := t1.2.2.1; omega, (sv _ t1.2.2.1).trans t1.2.2.2.1, fun i' j x y hi hj hx hy => ?_⟩
      obtain ⟨v, w1, w2⟩ := t1.2.2.2.2 i' j x y hi hj hx hy
      exact ⟨v, (i _ _ t1.2.2.1 (Or.inr t1.2.1)).trans w1, w2⟩/-- the class's side: state S, rules Rs (nr of them), tape T, images J, edition e -/
def zC (σ : qx_S) (S : qS) (nr : Nat) (Rs : Nat → qR) (T : q_T) (J : Nat → Option qS) (e : Nat) (ow : Nat → Nat) : Prop := cWy σ S (q_rf nr Rs (S 7)) e ∧ cSw σ ow S (q_rf nr Rs (S 7)) e 17 (q_en (s_at S) (s_n S 1)) 1 ∧ cSw σ ow S (q_rf nr Rs (S 7)) e 18 (q_en (fun p => s_n S (10 + 5 * p + 2)) (s_n S 1)) 2 ∧ cRs σ ow nr Rs ∧ cDr σ ow ∧ tC σ T ∧ cJm σ ow J ∧ ∀ x, 197 ≤ x → x < 229 → ow x = 0
/-- the reference's side -/
def zM (σ : qx_S) (S : qS) (nr : Nat) (Rs : Nat → qR) (T : q_T) (J : Nat → Option qS) : Prop := qx_mi σ 207 = S ∧ qx_mi σ 197 2 = nI nr ∧ qx_mi σ 197 21 = -1 ∧ (∀ t, t < nr → mR1 σ t (Rs t)) ∧ tR σ T ∧ ∀ k, k < 4 → (J k = none → qx_mi σ 228 k = nI 0) ∧ ∀ I, J k = some I → qx_mi σ 228 k = nI 1 ∧ ∀ j, j < 2788 → qx_mi σ 227 (2788 * k + j) = I j
/-- what holds of a state besides -/
def iWu (S : qS) : Prop := (∀ u, u < s_n S 9 → (∀ a b, a < s_n S 1 → b < s_n S 1 → 0 < S (348 + 122 * u + 10 + 10 * a + b) → S (10 + 5 * b + 1) < S (10 + 5 * a + 1)) ∧ ∃ d, d ≤ 9999 ∧ S (348 + 122 * u + 120) = nI d) ∧ (∀ p, p < s_n S 1 → ∃ v, v ≤ 99 ∧ S (10 + 5 * p + 1) = nI v) ∧ ∀ j, 2788 ≤ j → S j = 0
def gX (S : qS) (nr : Nat) : Prop := iW S ∧ iWu S ∧ iL S ∧ gH S ∧ gFd S ∧ (∃ x, x < 2147483648 ∧ S 8 = nI x) ∧ (∃ d, d ≤ 9999 ∧ S 3 = nI d) ∧ (S 7 = -1 ∨ q_is (S 7) nr = true)
def zZ (n : Nat) (σ : qx_S) : Prop := ∃ S nr Rs T J e ow, zC σ S nr Rs T J e ow ∧ zM σ S nr Rs T J ∧ gX S nr ∧ (∀ k I, k < 4 → J k = some I → gX I nr) ∧ e ≤ n + 1 ∧ po σ ≤ 64000 + 3200 * n ∧ pcl σ ≤ 260 + 140 * n
/-- the reference's contracts' premise -/
theorem zM.x {σ : qx_S} {S : qS} {nr : Nat} {Rs : Nat → qR} {T : q_T} {J : Nat → Option qS} (h : zM σ S nr Rs T J) (g : gS S) (hr : nr ≤ 6) (h7 : S 7 = -1 ∨ q_is (S 7) nr = true) : mX σ S (q_rf nr Rs (S 7)) none := by
  refine ⟨h.1, g.2.1.1, g.2.1.2, ?_, h.2.2.1⟩
  unfold q_rf
  by_cases z : q_is (S 7) nr = true
  · rw [if_pos z]
    obtain ⟨t, t1, t2⟩ := q_is_t z (by omega)
    refine ⟨t, by omega, t2, ?_⟩
    rw [t2, nI_clamp (by omega)]
    exact h.2.2.2.1 t t1
  · rw [if_neg z]
    exact h7.resolve_right z
/-- the class leaves the reference alone -/
theorem zM.k {P R : Nat → Nat → Bool} {σ s : qx_S} {S : qS} {nr : Nat} {Rs : Nat → qR} {T : q_T} {J : Nat → Option qS} (h : zM σ S nr Rs T J) (h9 : 229 ≤ σ.1) (f : qk P R σ s) (hp : ∀ a j, 197 ≤ a → a < 229 → P a j = false) : zM s S nr Rs T J := by
  have i : ∀ a j, 197 ≤ a → a < 229 → qx_mi s a j = qx_mi σ a j := fun a j h1 h2 => f.lo h9 h2 (hp a j h1 h2)
  have ir : ∀ a, 197 ≤ a → a < 229 → qx_mi s a = qx_mi σ a := fun a h1 h2 => funext fun j => i a j h1 h2
  obtain ⟨a, b, c, d, e, k⟩ := h
  refine ⟨(ir _ (by omega) (by omega)).trans a, (i _ _ (by omega) (by omega)).trans b, (i _ _ (by omega) (by omega)).trans c, fun t ht => ?_, ⟨(i _ _ (by omega) (by omega)).trans e.1, e.2.1, fun x hx => ⟨(i _ _ (by omega) (by omega)).trans (e.2.2 x hx).1, (e.2.2 x hx).2⟩⟩, fun x hx => ⟨fun z => (i _ _ (by omega) (by omega)).trans ((k x hx).1 z), fun I z => ⟨(i _ _ (by omega) (by omega)).trans ((k x hx).2 I z).1, fun j hj => (i _ _ (by omega) (by omega)).trans (((k x hx).2 I z).2 j hj)⟩⟩⟩
  have w := d t ht
  unfold mR1 at w ⊢
  rw [ir 202 (by omega) (by omega), ir 199 (by omega) (by omega), ir 201 (by omega) (by omega)]
  exact w
/-- the class's own frames: what they may change -/
def kP0 (P : Nat → Nat → Bool) (b : Nat) : Prop := P 3 15 = false ∧ P 4 4 = false ∧ (∀ j, P 5 j = false) ∧ ∀ x j, 191 ≤ x → x < b → P x j = false
def kR0 (R : Nat → Nat → Bool) : Prop := R 3 17 = false ∧ R 3 18 = false ∧ R 3 14 = false ∧ (∀ i, R 14 i = false) ∧ (∀ k, R 155 k = false) ∧ ∀ x j, 229 ≤ x → R x j = false
theorem zC.k {P R : Nat → Nat → Bool} {σ s : qx_S} {S : qS} {nr e : Nat} {Rs : Nat → qR} {T : q_T} {J : Nat → Option qS} {ow : Nat → Nat} (h : zC σ S nr Rs T J e ow) (f : qk P R σ s) (hp : kP0 P σ.1) (hr : kR0 R) (hw : cWy s S (q_rf nr Rs (S 7)) e) : zC s S nr Rs T J e ow := by
  obtain ⟨h1, h2, h3, h4, h5, h6, h7, h8⟩ := h
  have h9 := h1.1.2.2.2.2.2.2.2.2
  exact ⟨hw, h2.k h9 f (fun _ _ => rfl) hr.1 (fun x j a b _ => hp.2.2.2 x j a b), h3.k h9 f (fun _ _ => rfl) hr.2.1 (fun x j a b _ => hp.2.2.2 x j a b), h4.k h9 f (fun _ _ => rfl) hp.1 (fun i _ => hr.2.2.2.1 i) (fun x j a b _ _ => hp.2.2.2 x j a b), h5.k h9 f (fun _ _ => rfl) hr.2.2.1, h6.k h9 f hp.2.1 hp.2.2.1, h7.k h9 f (fun _ _ => rfl) hr.2.2.2.2.1 hr.2.2.2.2.2 (fun x j a b _ => hp.2.2.2 x j a b), h8⟩
/-- the reference leaves the class alone -/
theorem zC.m {l : List (Nat × Option Nat)} {σ s : qx_S} {S : qS} {nr e : Nat} {Rs : Nat → qR} {T : q_T} {J : Nat → Option qS} {ow : Nat → Nat} (h : zC σ S nr Rs T J e ow) (f : ql l σ s) (hl : ∀ a j, a < 197 ∨ 229 ≤ a → pL l a j = false) : zC s S nr Rs T J e ow := by
  obtain ⟨h1, h2, h3, h4, h5, h6, h7, h8⟩ := h
  have h9 := h1.1.2.2.2.2.2.2.2.2
  have fk := qf.k f
  have hI : cI s S (q_rf nr Rs (S 7)) e := h1.1.mm fk.1 fk.2.1 (fun a j _ z => f.i a j (hl a j z)) (fun a j _ => f.r a j)
  have lo : ∀ x j, x < 197 → pL l x j = false := fun x j hx => hl x j (Or.inl hx)
  have kk : ∀ x j, ow x ≠ 0 → pL l x j = false := fun x j hx => hl x j (by
    rcases Nat.lt_or_ge x 197 with z | z
    · exact Or.inl z
    · rcases Nat.lt_or_ge x 229 with z2 | z2
      · exact absurd (h8 x z z2) hx
      · exact Or.inr z2)
  exact ⟨⟨hI, h1.2.1.k h9 fk (lo _ _ (by omega)) (fun j => lo _ _ (by omega)), h1.2.2.1.k h9 fk (fun x j hx => lo _ _ (by omega)), h1.2.2.2.1.k (by omega) h9 fk (fun j => lo _ _ (by omega)) (fun j => lo _ _ (by omega)), h1.2.2.2.2.k (by omega) h9 fk (fun j => lo _ _ (by omega)) (fun j => lo _ _ (by omega))⟩, h2.k h9 fk (fun _ _ => rfl) rfl (fun x j _ _ z => kk x j (by omega)), h3.k h9 fk (fun _ _ => rfl) rfl (fun x j _ _ z => kk x j (by omega)), h4.k h9 fk (fun _ _ => rfl) (lo _ _ (by omega)) (fun _ _ => rfl) (fun x j _ _ z _ => kk x j (by omega)), h5.k h9 fk (fun _ _ => rfl) rfl, h6.k h9 fk (lo _ _ (by omega)) (fun j => lo _ _ (by omega)), h7.k h9 fk (fun _ _ => rfl) (fun _ => rfl) (fun _ _ _ => rfl) (fun x j _ _ z => kk x j (by omega)), h8⟩
