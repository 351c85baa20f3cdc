/-! THE CALLS THAT STIR: force, desire, pay, dawn, strike -/
theorem cLk.up {σ : qx_S} {S S' : qS} {rf rf' : Option qR} {e : Nat} (h : cLk σ S rf e) : cLk σ S' rf' (e + 1) := by
  obtain ⟨el, a, b, -⟩ := h
  exact ⟨el, a, by omega, fun z => by omega⟩
theorem cMs.up {σ : qx_S} {S S' : qS} {rf rf' : Option qR} {e : Nat} (h : cMs σ S rf e) : cMs σ S' rf' (e + 1) := by
  obtain ⟨a, b, ku, es, c1, c2, c3, c4, -⟩ := h
  refine ⟨fun n n2 n4 => ?_, b, ku, es, c1, c2, c3, by omega, fun z => by omega⟩
  obtain ⟨eu, d1, d2, -⟩ := a n n2 n4
  exact ⟨eu, d1, by omega, fun z => by omega⟩
theorem cLi.up {σ : qx_S} {A : Nat} {S S' : qS} {rf rf' : Option qR} {e w : Nat} (h : cLi σ A S rf e w) : cLi σ A S' rf' (e + 1) w := fun p hp => by
  obtain ⟨el, a, b, -⟩ := h p hp
  exact ⟨el, a, by omega, fun _ z => by omega⟩
theorem cSw.up {σ : qx_S} {ow : Nat → Nat} {S S' : qS} {rf rf' : Option qR} {e fld w w' t : Nat} (h : cSw σ ow S rf e fld w t) : cSw σ ow S' rf' (e + 1) fld w' t := by
  refine ⟨?_, h.2⟩
  rcases h.1 with z | ⟨b, b1, b2, b3, es, b4, b5, -⟩
  · exact Or.inl z
  · exact Or.inr ⟨b, b1, b2, b3, es, b4, by omega, fun z => by omega⟩
def kP1 (P : Nat → Nat → Bool) (b : Nat) : Prop := P 3 15 = false ∧ ∀ x j, 191 ≤ x → x < b → P x j = false
theorem zK.up {G : qx_G} {n dc dr : Nat} {σ : qx_S} {Yc Yr : qx_Y} {a : List Value} {v : Int32} {S S' : qS} {nr : Nat} {Rs : Nat → qR} {T T' : q_T} {J : Nat → Option qS} {e : Nat} {ow : Nat → Nat} (k : zK n σ S nr Rs T J e ow) (hg : gX S' nr) (h1 : dc < 40) (h2 : dr < 40)
    (hc : qx_M G qc_T dc Yc (.ref 3 :: a) σ (fun r s => r = some (.int v) ∧ (∃ P R, qk P R σ s ∧ kP1 P σ.1 ∧ kWk P ∧ kR0 R) ∧ po s ≤ po σ + 3200 ∧ pcl s ≤ pcl σ + 140 ∧ tC s T' ∧ cI s S' (q_rf nr Rs (S' 7)) (e + 1)))
    (hr : ∀ s, zM s S nr Rs T J → mX s S (q_rf nr Rs (S 7)) none → qx_M G qc_T dr Yr (.ref 197 :: a) s (fun r s' => r = some (.int v) ∧ (∃ l, ql l s s' ∧ kRf l = true) ∧ zM s' S' nr Rs T' J)) : zO G Yc Yr a n σ := by
  refine zPair (Nat.le_refl _) k.2.2.2.2.1 hg k.2.2.2.1 k.2.2.2.2.2.1 k.2.2.2.2.2.2 h1 h2 (qx_M_mono hc (fun r s z => ?_)) (fun s hM => hr s hM (hM.x k.g k.r6 k.2.2.1.2.2.2.2.2.2.2))
  obtain ⟨z1, ⟨P, R, f, p, hk, hR⟩, z3, z4, z5, z6⟩ := z
  obtain ⟨⟨c1, c2, c3, c4, c5, c6, c7, c8⟩, hM, -⟩ := k
  have h9 := c1.1.2.2.2.2.2.2.2.2
  exact ⟨z1, ⟨ow, ⟨z6, (c1.2.1.k h9 f hk.1 hk.2.1).up, (c1.2.2.1.k h9 f hk.2.2.1).up, (c1.2.2.2.1.k (by omega) h9 f (fun j => hk.2.2.2 _ j (by omega)) (fun j => hk.2.2.2 _ j (by omega))).up, (c1.2.2.2.2.k (by omega) h9 f (fun j => hk.2.2.2 _ j (by omega)) (fun j => hk.2.2.2 _ j (by omega))).up⟩, (c2.k h9 f (fun _ _ => rfl) hR.1 (fun x j a b _ => p.2 x j a b)).up, (c3.k h9 f (fun _ _ => rfl) hR.2.1 (fun x j a b _ => p.2 x j a b)).up, c4.k h9 f (fun _ _ => rfl) p.1 (fun i _ => hR.2.2.2.1 i) (fun x j a b _ _ => p.2 x j a b), c5.k h9 f (fun _ _ => rfl) hR.2.2.1, z5, c7.k h9 f (fun _ _ => rfl) hR.2.2.2.2.1 hR.2.2.2.2.2 (fun x j a b _ => p.2 x j a b), c8⟩, hM.k h9 f (fun a j q1 q2 => p.2 a j (by omega) (by omega)), z3, z4⟩
/-- over a low list -/
theorem zK.ul {G : qx_G} {n dc dr : Nat} {σ : qx_S} {Yc Yr : qx_Y} {a : List Value} {v : Int32} {S S' : qS} {nr : Nat} {Rs : Nat → qR} {T : q_T} {J : Nat → Option qS} {e : Nat} {ow : Nat → Nat} (k : zK n σ S nr Rs T J e ow) (hg : gX S' nr) (h1 : dc < 40) (h2 : dr < 40)
    (hc : qx_M G qc_T dc Yc (.ref 3 :: a) σ (fun r s => r = some (.int v) ∧ (∃ l, ql l σ s ∧ kQy l = true ∧ kWk (pL l)) ∧ cI s S' (q_rf nr Rs (S' 7)) (e + 1)))
    (hr : ∀ s, zM s S nr Rs T J → mX s S (q_rf nr Rs (S 7)) none → qx_M G qc_T dr Yr (.ref 197 :: a) s (fun r s' => r = some (.int v) ∧ (∃ l, ql l s s' ∧ kRf l = true) ∧ zM s' S' nr Rs T J)) : zO G Yc Yr a n σ := by
  refine k.up hg h1 h2 (qx_M_mono hc (fun r s z => ?_)) hr
  obtain ⟨z1, ⟨l, f, hl, hk⟩, z3⟩ := z
  have q := qf.rm f
  have hp := kQy.p hl σ.1
  exact ⟨z1, ⟨_, _, qf.k f, ⟨hp.1, hp.2.2.2⟩, hk, ⟨rfl, rfl, rfl, fun _ => rfl, fun _ => rfl, fun _ _ _ => rfl⟩⟩, by omega, by omega, k.1.2.2.2.2.2.1.k k.I.2.2.2.2.2.2.2.2 (qf.k f) hp.2.1 hp.2.2.1, z3⟩
/-- what gX looks at -/
theorem gX.st {S S' : qS} {nr : Nat} (h : gX S nr) (gs : gS S) (en : ∀ i, i ≤ 2 ∨ i = 8 ∨ i = 9 ∨ (10 ≤ i ∧ i < 60) ∨ (140 ≤ i ∧ i < 148) ∨ (338 ≤ i ∧ i < 348) ∨ 348 ≤ i → S' i = S i) (hw : iW S') (h3 : ∃ d, d ≤ 9999 ∧ S' 3 = nI d) (h7 : S' 7 = -1 ∨ q_is (S' 7) nr = true) : gX S' nr := by
  obtain ⟨-, b, c, d, f, g, -, -⟩ := h
  have h10 := gs.2.1.2
  have n0 : s_n S' 0 = s_n S 0 := s_n_cg (en 0 (by omega))
  have n1 : s_n S' 1 = s_n S 1 := s_n_cg (en 1 (by omega))
  have n9 : s_n S' 9 = s_n S 9 := s_n_cg (en 9 (by omega))
  have n2 : s_n S' 2 = s_n S 2 := s_n_cg (en 2 (by omega))
  refine ⟨hw, ⟨fun u hu => ?_, fun p hp => ?_, fun j hj => (en j (by omega)).trans (b.2.2 j hj)⟩, ⟨?_, by rw [n2]; exact c.2.1, fun q hq => ?_⟩, fun p hp => ?_, fun p hp => ?_, ?_, h3, h7⟩
  · rw [n9] at hu
    obtain ⟨w1, dd, w2, w3⟩ := b.1 u hu
    refine ⟨fun x y hx hy => ?_, dd, w2, (en _ (by omega)).trans w3⟩
    rw [n1] at hx hy
    rw [en _ (by omega), en _ (by omega), en (10 + 5 * x + 1) (by omega)]
    exact w1 x y hx hy
  · rw [n1] at hp
    rw [en _ (by omega)]
    exact b.2.1 p hp
  · rw [n2, en 2 (by omega)]
    exact c.1
  · rw [n2] at hq
    have c8 := c.2.1
    rw [s_n_cg (en (140 + q) (by omega)), en (140 + q) (by omega), n0]
    exact c.2.2 q hq
  · rw [n1] at hp
    rw [s_n_cg (en (10 + 5 * p + 2) (by omega)), en (10 + 5 * p + 2) (by omega), n0]
    exact d p hp
  · rw [n1] at hp
    rw [en _ (by omega)]
    exact f p hp
  · rw [en 8 (by omega)]
    exact g
theorem iW.cg {S S' : qS} (h : iW S) (gs : gS S) (en : ∀ i, i = 1 ∨ (10 ≤ i ∧ i < 60) ∨ (154 ≤ i ∧ i < 254) → S' i = S i) : iW S' := fun a b ha hb => by
  have h10 := gs.2.1.2
  rw [s_n_cg (en 1 (by omega))] at ha hb
  rw [en _ (by omega), en _ (by omega), en (10 + 5 * a + 1) (by omega)]
  exact h a b ha hb
theorem z_desire {G : qx_G} {n : Nat} {σ : qx_S} (h : zZ n σ) (hn : n ≤ 900) (x q w : Int32) : zO G YX11_desire YX12_desire [.int x, .int q, .int w] n σ := by
  obtain ⟨S, nr, Rs, T, J, e, ow, k⟩ := h.k
  have g := k.g
  have h10 := g.2.1.2
  have h8 := g.1.2
  have xx := k.2.2.1
  have he := k.2.2.2.2.1
  cases hb : (q_is x (s_n S 1) && q_is q (s_n S 0) && q_in64 w.toInt64 (lN 0) (lN 99)) with
  | false => exact zPair0 h (by decide) (by decide) (c_desire_no k.I hb) (m_desire_no k.2.1.1 g.2.1.1 g.1.1 hb)
  | true =>
    rw [Bool.and_eq_true, Bool.and_eq_true] at hb
    obtain ⟨p, hp, rfl⟩ := q_is_t hb.1.1 (by omega)
    obtain ⟨m, hm, rfl⟩ := q_is_t hb.1.2 (by omega)
    obtain ⟨c, -, hc, rfl⟩ := q_in_t (by decide) (by decide) hb.2
    have e7 : va_up S (60 + 8 * p + m) (nI c) 7 = S 7 := va_up_ne _ _ (by omega)
    have c1 := c_desire_ok (G := G) k.I (by omega) hp hm hc
    rw [← e7] at c1
    exact k.ul (xx.st g (fun i hi => va_up_ne _ _ (by omega)) (xx.1.cg g (fun i hi => va_up_ne _ _ (by omega))) (by rw [va_up_ne _ _ (by omega)]; exact xx.2.2.2.2.2.2.1) (by rw [e7]; exact xx.2.2.2.2.2.2.2)) (by decide) (by decide) (qx_M_mono c1 (fun r s z => ⟨z.1, ⟨_, z.2.1, rfl, rfl, fun _ => rfl, fun x j h => pL_ne (by simp; omega), fun x j h => pL_ne (by simp; omega)⟩, z.2.2⟩)) (fun s hM hX => qx_M_mono (m_desire_ok hM.1 g.2.1.1 g.1.1 h10 h8 hp hm hc) (fun r s' z => ⟨z.1, hM.w z.2.1 z.2.2⟩))
theorem z_dawn {G : qx_G} {n : Nat} {σ : qx_S} (h : zZ n σ) (hn : n ≤ 900) : zO G YX11_dawn YX12_dawn [] n σ := by
  obtain ⟨S, nr, Rs, T, J, e, ow, k⟩ := h.k
  have g := k.g
  have h8 := g.1.2
  have xx := k.2.2.1
  have he := k.2.2.2.2.1
  obtain ⟨dy, hd, e3⟩ := xx.2.2.2.2.2.2.1
  by_cases hb : s_n S 0 = 0 ∨ dy = 9999
  · exact zPair0 h (by decide) (by decide) (c_dawn_no k.I e3 hd hb) (m_dawn_no k.2.1.1 g.1.1 h8 e3 hd hb)
  · have hd2 : dy < 9999 := by omega
    have h0 : 0 < s_n S 0 := by omega
    have e7 : va_up S 3 (nI (dy + 1)) 7 = S 7 := va_up_ne _ _ (by omega)
    have c1 := c_dawn_ok (G := G) k.I (by omega) e3 hd2 h0
    rw [← e7] at c1
    exact k.ul (xx.st g (fun i hi => va_up_ne _ _ (by omega)) (xx.1.cg g (fun i hi => va_up_ne _ _ (by omega))) ⟨dy + 1, by omega, va_up_self _ _ _⟩ (by rw [e7]; exact xx.2.2.2.2.2.2.2)) (by decide) (by decide) (qx_M_mono c1 (fun r s z => ⟨z.1, ⟨_, z.2.1, rfl, rfl, fun _ => rfl, fun x j h => pL_ne (by simp; omega), fun x j h => pL_ne (by simp; omega)⟩, z.2.2⟩)) (fun s hM hX => qx_M_mono (m_dawn_ok hM.1 g.1.1 h8 e3 hd2 h0) (fun r s' z => ⟨z.1, hM.w z.2.1 z.2.2⟩))
theorem z_pay {G : qx_G} {n : Nat} {σ : qx_S} (h : zZ n σ) (hn : n ≤ 900) (x y w : Int32) : zO G YX11_pay YX12_pay [.int x, .int y, .int w] n σ := by
  obtain ⟨S, nr, Rs, T, J, e, ow, k⟩ := h.k
  have g := k.g
  have h10 := g.2.1.2
  have xx := k.2.2.1
  have he := k.2.2.2.2.1
  cases hb : (q_is x (s_n S 1) && q_is y (s_n S 1) && !decide (x = y)) with
  | false => exact zPair0 h (by decide) (by decide) (c_pay_no k.I hb) (m_pay_no k.2.1.1 g.2.1.1 hb)
  | true =>
    simp only [Bool.and_eq_true, Bool.not_eq_true', decide_eq_false_iff_not] at hb
    obtain ⟨p, hp, rfl⟩ := q_is_t hb.1.1 (by omega)
    obtain ⟨m, hm, rfl⟩ := q_is_t hb.1.2 (by omega)
    have hne : p ≠ m := fun z => hb.2 (by rw [z])
    by_cases hw : w < nI 1 ∨ S (154 + 10 * p + m) < w
    · exact zPair0 h (by decide) (by decide) (c_pay_no2 k.I hp hm hne hw) (m_pay_no2 k.2.1.1 g.2.1.1 h10 hp hm hne hw)
    · have e7 : va_up S (154 + 10 * p + m) (S (154 + 10 * p + m) - w) 7 = S 7 := va_up_ne _ _ (by omega)
      have c1 := c_pay_ok (G := G) k.I (by omega) hp hm hne hw
      rw [← e7] at c1
      have hW : iW (va_up S (154 + 10 * p + m) (S (154 + 10 * p + m) - w)) := fun a b ha hb h0 => by
        have n1 : s_n (va_up S (154 + 10 * p + m) (S (154 + 10 * p + m) - w)) 1 = s_n S 1 := s_n_cg (va_up_ne _ _ (by omega))
        rw [n1] at ha hb
        rw [va_up_ne _ _ (by omega), va_up_ne _ _ (by omega)]
        refine xx.1 a b ha hb ?_
        by_cases z : 154 + 10 * a + b = 154 + 10 * p + m
        · rw [z]
          have k1 : ¬ w < nI 1 := fun q => hw (Or.inl q)
          have k2 : ¬ S (154 + 10 * p + m) < w := fun q => hw (Or.inr q)
          rw [Int32.lt_iff_toInt_lt] at k1 k2 ⊢
          have k3 : (nI 1).toInt = 1 := nI_toInt (by decide)
          have k4 : (0 : Int32).toInt = 0 := by decide
          omega
        · rw [va_up_ne _ _ z] at h0
          exact h0
      exact k.ul (xx.st g (fun i hi => va_up_ne _ _ (by omega)) hW (by rw [va_up_ne _ _ (by omega)]; exact xx.2.2.2.2.2.2.1) (by rw [e7]; exact xx.2.2.2.2.2.2.2)) (by decide) (by decide) (qx_M_mono c1 (fun r s z => ⟨z.1, ⟨_, z.2.1, rfl, rfl, fun _ => rfl, fun x j h => pL_ne (by simp; omega), fun x j h => pL_ne (by simp; omega)⟩, z.2.2⟩)) (fun s hM hX => qx_M_mono (m_pay_ok hM.1 g.2.1.1 h10 hp hm hne hw) (fun r s' z => ⟨z.1, hM.w z.2.1 z.2.2⟩))
