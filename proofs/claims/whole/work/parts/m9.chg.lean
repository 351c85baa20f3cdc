/-! THE CALLS THAT SAY SOMETHING, without a stir -/
theorem cLk.ns {σ : qx_S} {S S' : qS} {rf : Option qR} {e : Nat} (h : cLk σ S rf e) (g : gS S) (en : eNs S S') : cLk σ S' rf e := by
  obtain ⟨el, a, b, c⟩ := h
  have h10 := g.2.1.2
  have h8 := g.1.2
  refine ⟨el, a, b, fun z p q hp hq => ?_⟩
  rw [en.n1] at hp
  rw [en.n0] at hq
  rw [en.at (by omega), en.ll rf none (by omega) (by omega) h10]
  exact c z p q hp hq
theorem cMs.ns {σ : qx_S} {S S' : qS} {rf : Option qR} {e : Nat} (h : cMs σ S rf e) (g : gS S) (en : eNs S S') : cMs σ S' rf e := by
  obtain ⟨a, b, ku, es, c1, c2, c3, c4, c5⟩ := h
  refine ⟨fun n n2 n4 => ?_, b, ku, es, c1, c2, c3, c4, fun z => ?_⟩
  · obtain ⟨eu, d1, d2, d3⟩ := a n n2 n4
    refine ⟨eu, d1, d2, fun z x hx => ?_⟩
    rw [en.n1] at hx ⊢
    rw [q_set_cg (s_n S 1) (fun i hi => en.ub g rf (n := n) hx hi)]
    exact d3 z x hx
  · obtain ⟨w1, w2, w3⟩ := c5 z
    refine ⟨w1, ?_, fun x y hx hy => ?_⟩
    · rw [en.n1, en.tk g rf none ku]
      exact w2
    · rw [en.n1] at hx hy
      rw [en.gn g rf none hx hy]
      exact w3 x y hx hy
theorem cLi.ns {σ : qx_S} {A : Nat} {S S' : qS} {rf : Option qR} {e w : Nat} (h : cLi σ A S rf e w) (g : gS S) (en : eNs S S') : cLi σ A S' rf e w := fun p hp => by
  obtain ⟨el, a, b, c⟩ := h p hp
  refine ⟨el, a, b, fun z1 z2 => ?_⟩
  rw [en.n1] at z1
  rw [en.gb g rf w z1]
  exact c z1 z2
theorem cSw.ns {σ : qx_S} {ow : Nat → Nat} {S S' : qS} {rf : Option qR} {e fld w t : Nat} (h : cSw σ ow S rf e fld w t) (g : gS S) (en : eNs S S') : cSw σ ow S' rf e fld w t := by
  refine ⟨?_, h.2⟩
  rcases h.1 with z | ⟨b, b1, b2, b3, es, b4, b5, b6⟩
  · exact Or.inl z
  · refine Or.inr ⟨b, b1, b2, b3, es, b4, b5, fun z => ?_⟩
    obtain ⟨n, q⟩ := b6 z
    refine ⟨n, ?_⟩
    rw [q_grn_cg (eLw.gro g.2.1.2 en.lw)]
    exact q
theorem eNs.en {S S' : qS} (en : eNs S S') (g : gS S) : q_en (s_at S') (s_n S' 1) = q_en (s_at S) (s_n S 1) := by
  have h10 := g.2.1.2
  rw [en.n1]
  exact q_en_cg (fun i hi => en.at (by omega))
theorem eNs.eh {S S' : qS} (en : eNs S S') (g : gS S) : q_en (fun p => s_n S' (10 + 5 * p + 2)) (s_n S' 1) = q_en (fun p => s_n S (10 + 5 * p + 2)) (s_n S 1) := by
  have h10 := g.2.1.2
  rw [en.n1]
  exact q_en_cg (fun i hi => s_n_cg (en _ (by omega)))
/-- what else stays -/
def eN2 (S S' : qS) : Prop := ∀ i, i ≤ 3 ∨ i = 7 ∨ i = 9 ∨ (10 ≤ i ∧ i < 148) ∨ (154 ≤ i ∧ i < 254) ∨ 348 ≤ i → S' i = S i
theorem eN2.n {S S' : qS} (h : eN2 S S') : eNs S S' := fun i hi => h i (by omega)
theorem gX.ns {S S' : qS} {nr : Nat} (h : gX S nr) (gs : gS S) (en : eN2 S S') (hF : gFd S') (h8 : ∃ x, x < 2147483648 ∧ S' 8 = nI x) : gX S' nr := by
  obtain ⟨a, b, c, d, -, -, f, g⟩ := h
  have h10 := gs.2.1.2
  have n0 := en.n.n0
  have n1 := en.n.n1
  have n9 : s_n S' 9 = s_n S 9 := s_n_cg (en 9 (by omega))
  have n2 : s_n S' 2 = s_n S 2 := s_n_cg (en 2 (by omega))
  refine ⟨fun x y hx hy => ?_, ⟨fun u hu => ?_, fun p hp => ?_, fun j hj => (en j (by omega)).trans (b.2.2 j hj)⟩, ⟨?_, by rw [n2]; exact c.2.1, fun q hq => ?_⟩, fun p hp => ?_, hF, h8, ?_, ?_⟩
  · rw [n1] at hx hy
    rw [en _ (by omega), en _ (by omega), en (10 + 5 * x + 1) (by omega)]
    exact a x y hx hy
  · rw [n9] at hu
    obtain ⟨w1, dd, w2, w3⟩ := b.1 u hu
    refine ⟨fun x y hx hy => ?_, dd, w2, (en _ (by omega)).trans w3⟩
    rw [n1] at hx hy
    rw [en _ (by omega), en _ (by omega), en (10 + 5 * x + 1) (by omega)]
    exact w1 x y hx hy
  · rw [n1] at hp
    rw [en _ (by omega)]
    exact b.2.1 p hp
  · rw [n2, en 2 (by omega)]
    exact c.1
  · rw [n2] at hq
    have c8 := c.2.1
    rw [s_n_cg (en (140 + q) (by omega)), en (140 + q) (by omega), n0]
    exact c.2.2 q hq
  · rw [n1] at hp
    rw [s_n_cg (en (10 + 5 * p + 2) (by omega)), en (10 + 5 * p + 2) (by omega), n0]
    exact d p hp
  · rw [en 3 (by omega)]
    exact f
  · rw [en 7 (by omega)]
    exact g
theorem zK.ns {l : List (Nat × Option Nat)} {n : Nat} {σ s : qx_S} {S S' : qS} {nr : Nat} {Rs : Nat → qR} {T : q_T} {J : Nat → Option qS} {e : Nat} {ow : Nat → Nat} (k : zK n σ S nr Rs T J e ow) (f : ql l σ s) (hl : kQy l = true) (hk : kWk (pL l)) (en : eN2 S S') (hI : cI s S' (q_rf nr Rs (S 7)) e) : (∃ ow', zC s S' nr Rs T J e ow') ∧ zM s S nr Rs T J ∧ po s ≤ po σ + 3200 ∧ pcl s ≤ pcl σ + 140 := by
  obtain ⟨⟨h1, h2, h3, h4, h5, h6, h7, h8⟩, hM, -⟩ := k
  have gs : gS S := h1.1.1.1.2.1
  have h9 := h1.1.2.2.2.2.2.2.2.2
  have fk := qf.k f
  have hp := kQy.p hl σ.1
  have r := qf.rm f
  have e7 : S' 7 = S 7 := en 7 (by omega)
  refine ⟨⟨ow, ?_⟩, hM.k h9 fk (fun a j q1 q2 => kQy.no hl (by omega)), by omega, by omega⟩
  unfold zC
  rw [e7, en.n.en gs, en.n.eh gs]
  exact ⟨⟨hI, (h1.2.1.k h9 fk hk.1 hk.2.1).ns gs en.n, (h1.2.2.1.k h9 fk hk.2.2.1).ns gs en.n, (h1.2.2.2.1.k (by omega) h9 fk (fun j => hk.2.2.2 _ j (by omega)) (fun j => hk.2.2.2 _ j (by omega))).ns gs en.n, (h1.2.2.2.2.k (by omega) h9 fk (fun j => hk.2.2.2 _ j (by omega)) (fun j => hk.2.2.2 _ j (by omega))).ns gs en.n⟩, (h2.k h9 fk (fun _ _ => rfl) rfl (fun x j a b _ => hp.2.2.2 x j a b)).ns gs en.n, (h3.k h9 fk (fun _ _ => rfl) rfl (fun x j a b _ => hp.2.2.2 x j a b)).ns gs en.n, h4.k h9 fk (fun _ _ => rfl) hp.1 (fun _ _ => rfl) (fun x j a b _ _ => hp.2.2.2 x j a b), h5.k h9 fk (fun _ _ => rfl) rfl, h6.k h9 fk hp.2.1 hp.2.2.1, h7.k h9 fk (fun _ _ => rfl) (fun _ => rfl) (fun _ _ _ => rfl) (fun x j a b _ => hp.2.2.2 x j a b), h8⟩
/-- the reference's row written -/
theorem zM.w {σ s : qx_S} {S S' : qS} {nr : Nat} {Rs : Nat → qR} {T : q_T} {J : Nat → Option qS} (h : zM σ S nr Rs T J) (f : ql [(207, none)] σ s) (h7 : qx_mi s 207 = S') : (∃ l, ql l σ s ∧ kRf l = true) ∧ zM s S' nr Rs T J :=
  ⟨⟨_, f, rfl⟩, h7, (f.i _ _ rfl).trans h.2.1, (f.i _ _ rfl).trans h.2.2.1, fun t ht => (h.2.2.2.1 t ht).fr f (fun _ => rfl) (fun _ => rfl) (fun _ => rfl), h.2.2.2.2.1.fr f rfl (fun _ => rfl), fun k hk => ⟨fun z => (f.i _ _ rfl).trans ((h.2.2.2.2.2 k hk).1 z), fun I z => ⟨(f.i _ _ rfl).trans ((h.2.2.2.2.2 k hk).2 I z).1, fun j hj => (f.i _ _ rfl).trans (((h.2.2.2.2.2 k hk).2 I z).2 j hj)⟩⟩⟩
theorem zK.n2 {G : qx_G} {n dc dr : Nat} {σ : qx_S} {Yc Yr : qx_Y} {a : List Value} {v : Int32} {S S' : qS} {nr : Nat} {Rs : Nat → qR} {T : q_T} {J : Nat → Option qS} {e : Nat} {ow : Nat → Nat} {l : List (Nat × Option Nat)} (k : zK n σ S nr Rs T J e ow) (h1 : dc < 40) (h2 : dr < 40) (hl : kQy l = true) (hk : kWk (pL l)) (en : eN2 S S') (hF : gFd S') (h8 : ∃ x, x < 2147483648 ∧ S' 8 = nI x)
    (hc : qx_M G qc_T dc Yc (.ref 3 :: a) σ (fun r s => r = some (.int v) ∧ ql l σ s ∧ cI s S' (q_rf nr Rs (S 7)) e))
    (hr : ∀ s, zM s S nr Rs T J → qx_M G qc_T dr Yr (.ref 197 :: a) s (fun r s' => r = some (.int v) ∧ ql [(207, none)] s s' ∧ qx_mi s' 207 = S')) : zO G Yc Yr a n σ :=
  zPair (by omega) k.2.2.2.2.1 (k.2.2.1.ns k.g en hF h8) k.2.2.2.1 k.2.2.2.2.2.1 k.2.2.2.2.2.2 h1 h2 (qx_M_mono hc (fun r s z => ⟨z.1, k.ns z.2.1 hl hk en z.2.2⟩)) (fun s hM => qx_M_mono (hr s hM) (fun r s' z => ⟨z.1, hM.w z.2.1 z.2.2⟩))
theorem z_burn {G : qx_G} {n : Nat} {σ : qx_S} (h : zZ n σ) : zO G YX11_burn YX12_burn [] n σ := by
  obtain ⟨S, nr, Rs, T, J, e, ow, k⟩ := h.k
  have x := k.2.2.1
  have en : eN2 S (va_up S 5 (nI 0)) := fun i hi => va_up_ne _ _ (by omega)
  refine k.n2 (by decide) (by decide) (l := [(15, some 8)]) rfl ⟨rfl, fun _ => rfl, fun x j h => pL_ne (by simp; omega), fun x j h => pL_ne (by simp; omega)⟩ en ?_ ?_ (c_burn k.I) (fun s hM => m_burn hM.1)
  · intro p hp
    rw [en.n.n1] at hp
    rw [va_up_ne _ _ (by omega)]
    exact x.2.2.2.2.1 p hp
  · rw [va_up_ne _ _ (by omega)]
    exact x.2.2.2.2.2.1
theorem z_seed {G : qx_G} {n : Nat} {σ : qx_S} (h : zZ n σ) (x : Int32) : zO G YX11_seed YX12_seed [.int x] n σ := by
  by_cases hx : x < 0
  · exact zPair0 h (by decide) (by decide) (c_seed_no hx) (m_seed_no hx)
  · obtain ⟨S, nr, Rs, T, J, e, ow, k⟩ := h.k
    have xx := k.2.2.1
    have en : eN2 S (va_up S 8 x) := fun i hi => va_up_ne _ _ (by omega)
    refine k.n2 (by decide) (by decide) (l := [(15, some 10)]) rfl ⟨rfl, fun _ => rfl, fun x j h => pL_ne (by simp; omega), fun x j h => pL_ne (by simp; omega)⟩ en ?_ ?_ (c_seed_ok k.I hx) (fun s hM => m_seed_ok hM.1 hx)
    · intro p hp
      rw [en.n.n1] at hp
      rw [va_up_ne _ _ (by omega)]
      exact xx.2.2.2.2.1 p hp
    · rw [va_up_self]
      have k0 : (0 : Int32).toInt ≤ x.toInt := Int32.le_iff_toInt_le.mp (Int32.not_lt.mp hx)
      have k1 : x.toInt < 2147483648 := by have := Int32.toInt_lt x; omega
      have k2 : (0 : Int32).toInt = 0 := by decide
      refine ⟨x.toInt.toNat, by omega, ?_⟩
      apply Int32.toInt_inj.mp
      rw [nI_toInt (by omega)]
      omega
theorem z_found {G : qx_G} {n : Nat} {σ : qx_S} (h : zZ n σ) (x q : Int32) : zO G YX11_found YX12_found [.int x, .int q] n σ := by
  obtain ⟨S, nr, Rs, T, J, e, ow, k⟩ := h.k
  have g := k.g
  have h10 := g.2.1.2
  have h8 := g.1.2
  have xx := k.2.2.1
  cases hb : (q_is x (s_n S 1) && (decide (q = -1) || q_is q (s_n S 0))) with
  | false => exact zPair0 h (by decide) (by decide) (c_found_no k.I hb) (m_found_no k.2.1.1 g.2.1.1 g.1.1 hb)
  | true =>
    rw [Bool.and_eq_true] at hb
    obtain ⟨p, hp, rfl⟩ := q_is_t hb.1 (by omega)
    have en : eN2 S (va_up S (338 + p) q) := fun i hi => va_up_ne _ _ (by omega)
    refine k.n2 (by decide) (by decide) (l := [(30, none)]) rfl ⟨rfl, fun _ => rfl, fun x j h => pL_ne (by simp; omega), fun x j h => pL_ne (by simp; omega)⟩ en ?_ ?_ (c_found_ok k.I hp hb.2) (fun s hM => m_found_ok hM.1 g.2.1.1 g.1.1 h10 hp hb.2)
    · intro p' hp'
      rw [en.n.n1] at hp'
      by_cases z : p' = p
      · rw [z, va_up_self]
        rcases Bool.or_eq_true _ _ ▸ hb.2 with w | w
        · exact Or.inl (of_decide_eq_true w)
        · obtain ⟨m, hm, e⟩ := q_is_t w (by omega)
          exact Or.inr ⟨m, by omega, e⟩
      · rw [va_up_ne _ _ (by omega)]
        exact xx.2.2.2.2.1 p' hp'
    · rw [va_up_ne _ _ (by omega)]
      exact xx.2.2.2.2.2.1
