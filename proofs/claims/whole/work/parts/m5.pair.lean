/-! ONE CALL OF EACH, side by side -/
abbrev zO (G : qx_G) (Yc Yr : qx_Y) (a : List Value) (n : Nat) (σ : qx_S) : Prop := qx_call G qc_T 40 Yc (.ref 3 :: a) σ (fun r s => ∃ v, r = some (.int v) ∧ qx_call G qc_T 40 Yr (.ref 197 :: a) s (fun r' s' => r' = some (.int v) ∧ zZ (n + 1) s'))
theorem qf.rm {l : List (Nat × Option Nat)} {σ s : qx_S} (f : ql l σ s) : po s = po σ ∧ pcl s = pcl σ := by
  unfold po pcl
  rw [qq_cg f.2.2.2.1, qq_cg f.2.2.2.1, qq_cg f.2.2.2.1, qq_cg f.2.2.2.1, qq_cg f.2.2.2.1, qq_cg f.2.2.2.1, f.2.1, f.1]
  exact ⟨rfl, rfl⟩
/-- the reference's frames -/
def kRf (l : List (Nat × Option Nat)) : Bool := l.all (fun q => Nat.ble 197 q.1 && Nat.blt q.1 229)
theorem kRf.no {l : List (Nat × Option Nat)} (h : kRf l = true) {a j : Nat} (ha : a < 197 ∨ 229 ≤ a) : pL l a j = false := by
  cases hb : pL l a j with
  | false => rfl
  | true =>
    exfalso
    obtain ⟨q, hq, h1⟩ := List.any_eq_true.mp hb
    have h2 := List.all_eq_true.mp h q hq
    rw [Bool.and_eq_true] at h1 h2
    have e := Nat.eq_of_beq_eq_true h1.1
    have a1 := Nat.le_of_ble_eq_true h2.1
    have a2 : q.1 < 229 := Nat.le_of_ble_eq_true h2.2
    omega
theorem zPair {G : qx_G} {n dc dr e e' : Nat} {σ : qx_S} {Yc Yr : qx_Y} {a : List Value} {v : Int32} {S S' : qS} {nr nr' : Nat} {Rs Rs' : Nat → qR} {T T' : q_T} {J J' : Nat → Option qS} (hb : e' ≤ e + 1) (he : e ≤ n + 1) (hg : gX S' nr') (hj : ∀ k I, k < 4 → J' k = some I → gX I nr') (hp : po σ ≤ 64000 + 3200 * n) (hq : pcl σ ≤ 260 + 140 * n) (h1 : dc < 40) (h2 : dr < 40)
    (hc : qx_M G qc_T dc Yc (.ref 3 :: a) σ (fun r s => r = some (.int v) ∧ (∃ ow', zC s S' nr' Rs' T' J' e' ow') ∧ zM s S nr Rs T J ∧ po s ≤ po σ + 3200 ∧ pcl s ≤ pcl σ + 140))
    (hr : ∀ s, zM s S nr Rs T J → qx_M G qc_T dr Yr (.ref 197 :: a) s (fun r s' => r = some (.int v) ∧ (∃ l, ql l s s' ∧ kRf l = true) ∧ zM s' S' nr' Rs' T' J')) : zO G Yc Yr a n σ := by
  refine qx_M_d (qx_M_mono hc (fun r s h => ?_)) h1
  obtain ⟨h3, ⟨ow', h4⟩, h5, h6, h7⟩ := h
  refine ⟨v, h3, qx_M_d (qx_M_mono (hr s h5) (fun r' s' k => ?_)) h2⟩
  obtain ⟨k1, ⟨l, k2, k3⟩, k4⟩ := k
  have k5 := qf.rm k2
  exact ⟨k1, S', nr', Rs', T', J', e', ow', h4.m k2 (fun a j z => kRf.no k3 z), k4, hg, hj, by omega, by omega, by omega⟩
/-- nothing happens -/
theorem zPair0 {G : qx_G} {n dc dr : Nat} {σ : qx_S} {Yc Yr : qx_Y} {a : List Value} {v : Int32} (h : zZ n σ) (h1 : dc < 40) (h2 : dr < 40) (hc : qx_M G qc_T dc Yc (.ref 3 :: a) σ (qr v σ)) (hr : qx_M G qc_T dr Yr (.ref 197 :: a) σ (qr v σ)) : zO G Yc Yr a n σ := by
  refine qx_M_d (qx_M_mono hc (fun r s k => ?_)) h1
  obtain ⟨k1, rfl⟩ := k
  refine ⟨v, k1, qx_M_d (qx_M_mono hr (fun r' s' k => ?_)) h2⟩
  obtain ⟨k3, rfl⟩ := k
  obtain ⟨S, nr, Rs, T, J, e, ow, c1, c2, c3, c4, c5, c6, c7⟩ := h
  exact ⟨k3, S, nr, Rs, T, J, e, ow, c1, c2, c3, c4, by omega, by omega, by omega⟩
/-- the class asked, nothing said anew: frames of low lists -/
def kQy (l : List (Nat × Option Nat)) : Bool := l.all (fun q => Nat.blt q.1 191 && !(Nat.beq q.1 4) && !(Nat.beq q.1 5) && (!(Nat.beq q.1 3) || (match q.2 with
  | some k => Nat.beq k 16
  | none => false)))
theorem kQy.no {l : List (Nat × Option Nat)} (h : kQy l = true) {a j : Nat} (ha : 191 ≤ a ∨ a = 4 ∨ a = 5 ∨ (a = 3 ∧ j ≠ 16)) : pL l a j = false := by
  cases hb : pL l a j with
  | false => rfl
  | true =>
    exfalso
    obtain ⟨⟨x, y⟩, hq, h1⟩ := List.any_eq_true.mp hb
    have h2 := List.all_eq_true.mp h _ hq
    simp only [Bool.and_eq_true, Bool.or_eq_true, Bool.not_eq_true'] at h1 h2
    obtain ⟨⟨⟨b1, b2⟩, b3⟩, b4⟩ := h2
    have e : x = a := Nat.eq_of_beq_eq_true h1.1
    have a1 : x < 191 := Nat.le_of_ble_eq_true b1
    have a2 : x ≠ 4 := fun z => by rw [z] at b2; cases b2
    have a3 : x ≠ 5 := fun z => by rw [z] at b3; cases b3
    rcases ha with z | z | z | ⟨z1, z2⟩
    · omega
    · omega
    · omega
    · rcases b4 with w | w
      · rw [e, z1] at w; cases w
      · cases y with
        | none => cases w
        | some k =>
          have := Nat.eq_of_beq_eq_true w
          have h3 := h1.2
          have := Nat.eq_of_beq_eq_true h3
          omega
theorem kQy.p {l : List (Nat × Option Nat)} (h : kQy l = true) (b : Nat) : kP0 (pL l) b := ⟨kQy.no h (by omega), kQy.no h (by omega), fun j => kQy.no h (by omega), fun x j hx _ => kQy.no h (by omega)⟩
theorem zC.q1 {l : List (Nat × Option Nat)} {σ s : qx_S} {S : qS} {nr e : Nat} {Rs : Nat → qR} {T : q_T} {J : Nat → Option qS} {ow : Nat → Nat} (h : zC σ S nr Rs T J e ow) (hM : zM σ S nr Rs T J) (f : ql l σ s) (hl : kQy l = true) (hw : cWy s S (q_rf nr Rs (S 7)) e) : (∃ ow', zC s S nr Rs T J e ow') ∧ zM s S nr Rs T J ∧ po s ≤ po σ + 3200 ∧ pcl s ≤ pcl σ + 140 := by
  have k := qf.rm f
  have h9 := h.1.1.2.2.2.2.2.2.2.2
  exact ⟨⟨ow, h.k (qf.k f) (kQy.p hl _) ⟨rfl, rfl, rfl, fun _ => rfl, fun _ => rfl, fun _ _ _ => rfl⟩ hw⟩, hM.k h9 (qf.k f) (fun a j h1 h2 => kQy.no hl (by omega)), by omega, by omega⟩
theorem zC.q2 {l : List (Nat × Option Nat)} {σ s : qx_S} {S : qS} {nr e : Nat} {Rs : Nat → qR} {T : q_T} {J : Nat → Option qS} {ow : Nat → Nat} (h : zC σ S nr Rs T J e ow) (hM : zM σ S nr Rs T J) (f : qg l σ s) (hl : kQy l = true) (hw : cWy s S (q_rf nr Rs (S 7)) e) : (∃ ow', zC s S nr Rs T J e ow') ∧ zM s S nr Rs T J ∧ po s ≤ po σ + 3200 ∧ pcl s ≤ pcl σ + 140 := by
  have k1 := f.2.2.1
  have k2 := f.2.2.2.1
  have h9 := h.1.1.2.2.2.2.2.2.2.2
  have f3 : ∀ j, qx_mr s 3 j = qx_mr σ 3 j := fun j => by
    rcases f.2.2.2.2.2.2.2.2 j with w | ⟨b, -, -, w3, w4⟩
    · exact w
    · rw [kQy.no hl (by omega)] at w4
      cases w4
  have fk : qk (pL l) (pL [(156, some 5)]) σ s := ⟨f.2.1, f.2.2.2.2.1, fun a j ha hs hp => f.iv ha hs hp, fun a j ha hr => by
    by_cases z : a = 3
    · rw [z]; exact f3 j
    · refine f.2.2.2.2.2.1 a j ha ?_
      have hr2 : (Nat.beq 156 a && Nat.beq 5 j || false) = false := hr
      rw [Bool.or_false] at hr2
      have hz : Nat.beq 3 a = false := Bool.eq_false_iff.mpr (fun w => z (Nat.eq_of_beq_eq_true w).symm)
      show (Nat.beq 156 a && Nat.beq 5 j || (Nat.beq 3 a && Nat.beq 17 j || (Nat.beq 3 a && Nat.beq 18 j || false))) = false
      rw [hr2, hz]
      rfl⟩
  exact ⟨⟨ow, h.k fk (kQy.p hl _) ⟨rfl, rfl, rfl, fun _ => rfl, fun _ => rfl, fun x j hx => pL_ne (by simp; omega)⟩ hw⟩, hM.k h9 fk (fun a j h1 h2 => kQy.no hl (by omega)), by omega, by omega⟩
/-- liking and laws asked: what is kept of the rest -/
def kWk (P : Nat → Nat → Bool) : Prop := P 3 16 = false ∧ (∀ j, P 187 j = false) ∧ (∀ x j, (160 ≤ x ∧ x ≤ 161) ∨ (165 ≤ x ∧ x ≤ 170) → P x j = false) ∧ ∀ x j, x = 163 ∨ x = 164 ∨ x = 177 ∨ x = 178 → P x j = false
theorem cWy.k {P R : Nat → Nat → Bool} {σ s : qx_S} {S : qS} {rf : Option qR} {e : Nat} (h : cWy σ S rf e) (f : qk P R σ s) (hk : kWk P) (hI : cI s S rf e) : cWy s S rf e := by
  have h9 := h.1.2.2.2.2.2.2.2.2
  exact ⟨hI, h.2.1.k h9 f hk.1 hk.2.1, h.2.2.1.k h9 f hk.2.2.1, h.2.2.2.1.k (by omega) h9 f (fun j => hk.2.2.2 _ j (by omega)) (fun j => hk.2.2.2 _ j (by omega)), h.2.2.2.2.k (by omega) h9 f (fun j => hk.2.2.2 _ j (by omega)) (fun j => hk.2.2.2 _ j (by omega))⟩
