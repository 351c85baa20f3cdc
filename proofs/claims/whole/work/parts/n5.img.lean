/-! image -/
def zJ' (J : Nat → Option qS) (t : Nat) (S : qS) : Nat → Option qS := fun i => if i = t then some S else J i
theorem zC.im {P R : Nat → Nat → Bool} {σ s : qx_S} {S : qS} {nr e t : Nat} {Rs : Nat → qR} {T : q_T} {J : Nat → Option qS} {ow ow' : Nat → Nat} (h : zC σ S nr Rs T J e ow) (f : qk P R σ s) (ho : ∀ x, x < σ.1 → ow' x = ow x) (hp1 : ∀ x j, x < 229 → P x j = false) (hp2 : ∀ x j, 191 ≤ x → x < σ.1 → ow x ≠ 20 + t → P x j = false) (r1 : ∀ j, R 3 j = false) (r2 : ∀ i, R 14 i = false) (r3 : ∀ i, i ≠ t → R 155 i = false) (r4 : ∀ x j, 229 ≤ x → R x j = false) (hI : cI s S (q_rf nr Rs (S 7)) e) (hn : cJ1 s ow' t S) (hnr : nr ≤ 6) : zC s S nr Rs T (zJ' J t S) e ow' := by
  obtain ⟨h1, h2, h3, h4, h5, h6, h7, h8⟩ := h
  have h9 := h1.1.2.2.2.2.2.2.2.2
  refine ⟨h1.k f ⟨hp1 _ _ (by omega), fun _ => hp1 _ _ (by omega), fun x j z => hp1 _ _ (by omega), fun x j z => hp1 _ _ (by omega)⟩ hI, h2.k h9 f ho (r1 _) (fun x j a b z => hp2 x j a b (by omega)), h3.k h9 f ho (r1 _) (fun x j a b z => hp2 x j a b (by omega)), h4.k h9 f ho (hp1 _ _ (by omega)) (fun i _ => r2 i) (fun x j a b z z2 => hp2 x j a b (by omega)), h5.k h9 f ho (r1 _), h6.k h9 f (hp1 _ _ (by omega)) (fun _ => hp1 _ _ (by omega)), fun i hi => ⟨fun z => ?_, fun I z => ?_⟩, fun x x1 x2 => (ho x (by omega)).trans (h8 x x1 x2)⟩
  · unfold zJ' at z
    by_cases w : i = t
    · rw [if_pos w] at z; cases z
    · rw [if_neg w] at z
      exact (f.r h9 (by decide) (r3 i w)).trans ((h7 i hi).1 z)
  · unfold zJ' at z
    by_cases w : i = t
    · rw [if_pos w] at z
      have z := Option.some.inj z
      rw [w, ← z]
      exact hn
    · rw [if_neg w] at z
      exact ((h7 i hi).2 I z).k h9 f ho (r3 i w) r4 (fun x j a b z => hp2 x j a b (by omega))
theorem zM.im {σ s : qx_S} {S : qS} {nr t : Nat} {Rs : Nat → qR} {T : q_T} {J : Nat → Option qS} (h : zM σ S nr Rs T J) (ht : t < 4) (f : ql [(227, none), (228, none)] σ s) (h1 : ∀ j, qx_mi s 228 j = if j = t then nI 1 else qx_mi σ 228 j) (h2 : ∀ j, j < 2788 → qx_mi s 227 (2788 * t + j) = S j) (h3 : ∀ j, (j < 2788 * t ∨ 2788 * t + 2788 ≤ j) → qx_mi s 227 j = qx_mi σ 227 j) : (∃ l, ql l σ s ∧ kRf l = true) ∧ zM s S nr Rs T (zJ' J t S) := by
  refine ⟨⟨_, f, rfl⟩, (f.row _ (fun _ => rfl)).trans h.1, (f.i _ _ rfl).trans h.2.1, (f.i _ _ rfl).trans h.2.2.1, fun t ht => (h.2.2.2.1 t ht).fr f (fun _ => rfl) (fun _ => rfl) (fun _ => rfl), h.2.2.2.2.1.fr f rfl (fun _ => rfl), fun i hi => ⟨fun z => ?_, fun I z => ?_⟩⟩
  · unfold zJ' at z
    by_cases w : i = t
    · rw [if_pos w] at z; cases z
    · rw [if_neg w] at z
      rw [h1, if_neg w]
      exact (h.2.2.2.2.2 i hi).1 z
  · unfold zJ' at z
    by_cases w : i = t
    · rw [if_pos w] at z
      have z := Option.some.inj z
      rw [w, ← z]
      exact ⟨(h1 t).trans (if_pos rfl), h2⟩
    · rw [if_neg w] at z
      obtain ⟨a, b⟩ := (h.2.2.2.2.2 i hi).2 I z
      refine ⟨(h1 i).trans ((if_neg w).trans a), fun j hj => (h3 _ ?_).trans (b j hj)⟩
      rcases Nat.lt_or_ge i t with q | q
      · left; omega
      · right; omega
theorem z_image {G : qx_G} {n : Nat} {σ : qx_S} (h : zZ n σ) (x : Int32) : zO G YX11_image YX12_image [.int x] n σ := by
  obtain ⟨S, nr, Rs, T, J, e, ow, k⟩ := h.k
  have h9 := k.I.2.2.2.2.2.2.2.2
  cases hx : q_in64 x.toInt64 (lN 0) (lN 3) with
  | false => exact zPair0 h (by decide) (by decide) (c_image_no hx) (m_image_no hx)
  | true =>
    obtain ⟨t, -, ht, rfl⟩ := q_in_t (by decide) (by decide) hx
    have ht : t < 4 := by omega
    have gj : ∀ i I, i < 4 → zJ' J t S i = some I → gX I nr := fun i I hi z => by
      unfold zJ' at z
      by_cases w : i = t
      · rw [if_pos w] at z
        rw [← Option.some.inj z]
        exact k.2.2.1
      · rw [if_neg w] at z
        exact k.2.2.2.1 i I hi z
    have fin : ∀ {dc : Nat}, dc < 40 → qx_M G qc_T dc YX11_image [.ref 3, .int (nI t)] σ (fun r s => r = some (.int (S 6)) ∧ (∃ ow', zC s S nr Rs T (zJ' J t S) e ow') ∧ zM s S nr Rs T J ∧ po s ≤ po σ + 3200 ∧ pcl s ≤ pcl σ + 140) → zO G YX11_image YX12_image [.int (nI t)] n σ := fun hd hc =>
      zPair (by omega) k.2.2.2.2.1 k.2.2.1 gj k.2.2.2.2.2.1 k.2.2.2.2.2.2 hd (by decide : (1 : Nat) < 40) hc (fun s hM => qx_M_mono (m_image_ok hM.1 ht) (fun r s' z => ⟨z.1, hM.im ht z.2.1 z.2.2.1 z.2.2.2.1 z.2.2.2.2⟩))
    cases hJ : J t with
    | some I =>
      obtain ⟨gI, b, b1, b2, b3, b4, b5⟩ := (k.1.2.2.2.2.2.2.1 t ht).2 I hJ
      refine fin (by decide) (qx_M_mono (c_image_old k.I ht b1 b3 b2.1) (fun r s z => ?_))
      obtain ⟨z1, f, z3, z4⟩ := z
      have fk := qf.k f
      obtain ⟨p3, p4⟩ := po_eq f.1 f.2.1 f.2.2.2.1
      refine ⟨z1, ⟨ow, k.1.im fk (fun _ _ => rfl) (fun x j hx => kT9_no (by omega)) (fun x j x1 x2 x3 => kT9_no ?_) (fun _ => rfl) (fun _ => rfl) (fun _ _ => rfl) (fun _ _ _ => rfl) z4 ⟨k.I.1, b, (f.r _ _).trans b1, ⟨b2.1, by rw [f.1]; exact b2.2⟩, b3.fr f, z3, b5⟩ k.r6⟩, k.2.1.k h9 fk (fun a j q1 q2 => kT9_no (by omega)), by omega, by omega⟩
      have := b5 x
      omega
    | none =>
      refine fin (by decide) (qx_M_mono (c_image_new k.I ht ((k.1.2.2.2.2.2.2.1 t ht).1 hJ)) (fun r s z => ?_))
      obtain ⟨z1, c, ⟨f1, f2, f3, f4, f5, f6, f7, f8⟩, z3, z4⟩ := z
      have fk : qk (fun _ _ => false) (fun a j => decide (a = 155 ∧ j = t)) σ s := ⟨by omega, fun a ha => f4 a (by omega), fun a j ha _ _ => (f5 a j (by omega)).1, fun a j ha hr => f6 a j (by omega) (of_decide_eq_false hr)⟩
      have q1 : ∀ a j m, a < 155 ∨ a = 156 → qq s a j m = qq σ a j m := fun a j m ha => by
        unfold qq
        rw [f6 a j (by omega) (by omega)]
      have r1 : po s = po σ + 3130 ∧ pcl s = pcl σ + 140 := by
        unfold po pcl
        rw [q1 _ _ _ (by omega), q1 _ _ _ (by omega), q1 _ _ _ (by omega), q1 _ _ _ (by omega), q1 _ _ _ (by omega), q1 _ _ _ (by omega), f2, f3, f1]
        omega
      exact ⟨z1, ⟨fun x => if c ≤ x then 20 + t else ow x, k.1.im fk (fun x hx => if_neg (by omega)) (fun _ _ _ => rfl) (fun _ _ _ _ _ => rfl) (fun _ => decide_eq_false (by omega)) (fun _ => decide_eq_false (by omega)) (fun i hi => decide_eq_false (by omega)) (fun x j hx => decide_eq_false (by omega)) z4 ⟨k.I.1, c, f7, ⟨by omega, by omega⟩, f8, z3, fun x x1 x2 => if_pos x1⟩ k.r6⟩, k.2.1.k h9 fk (fun a j q1 q2 => rfl), by omega, by omega⟩
