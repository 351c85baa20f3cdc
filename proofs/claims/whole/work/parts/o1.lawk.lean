/-! THE LAW: what its walk stands on -/
/-- the script is known at every state -/
def gScr (G : qx_G) (L : Nat) (xs : Nat → Int32) : Prop := ∀ s H, qx_E G s H → va_X (qx_ad G 0) L xs s H
def zS (L : Nat) (xs : Nat → Int32) (σ : qx_S) : Prop := (qx_sh qc_T σ 0).2 = L ∧ ∀ j, j < L → qx_mi σ 0 j = xs j
/-- what the states know may be used in a block -/
theorem qx_K_pure {G : qx_G} {d : Nat} {own : String} {Y : qx_Y} {pc : Nat} {ls st : List Value} {σ : qx_S} {Φ : qx_F} {L : Nat} {xs : Nat → Int32} (hS : gScr G L xs) (hf : ∃ r s, Φ r s ∧ σ.1 ≤ s.1 ∧ σ.2.1 ≤ s.2.1) (h : zS L xs σ → qx_K G qc_T d own Y pc ls st σ Φ) : qx_K G qc_T d own Y pc ls st σ Φ := by
  by_cases hx : ∃ s H, qx_R G qc_T s σ H
  · obtain ⟨s, H, hR⟩ := hx
    refine h ?_
    obtain ⟨scr, a1, a2, a3, a4, a5⟩ := hR.2.2.1
    obtain ⟨scr', b1, b2, b3, b4, b5⟩ := hS s H hR.2.2.2.2.1.1
    rw [a1] at b1
    cases b1
    have e : (qx_sh qc_T σ 0).2 = L := a4.symm.trans b4
    refine ⟨e, fun j hj => ?_⟩
    have u := a5 j (by rw [e]; exact hj)
    rw [b5 j hj] at u
    exact (Value.int.inj (Option.some.inj u)).symm
  · obtain ⟨r, s, h1, h2, h3⟩ := hf
    exact ⟨r, s, h1, h2, h3, fun _ _ _ s' _ _ _ _ _ H' _ _ _ _ _ _ _ _ _ hR _ _ _ => absurd ⟨s', H', hR⟩ hx⟩
/-- the law's end -/
def zF : qx_F := fun r s => r = some (.int 1) ∧ s.1 ≤ 600003 ∧ s.2.1 ≤ 7302250
theorem zZ.f {n : Nat} {σ : qx_S} (h : zZ n σ) (hn : n ≤ 900) : zF (some (.int 1)) σ := by
  obtain ⟨S, nr, Rs, T, J, e, ow, c1, c2, c3, c4, c5, c6, c7⟩ := h
  unfold po at c6
  unfold pcl at c7
  exact ⟨rfl, by omega, by omega⟩
theorem zZ.up {n : Nat} {σ : qx_S} (h : zZ n σ) : zZ (n + 1) σ := by
  obtain ⟨S, nr, Rs, T, J, e, ow, c1, c2, c3, c4, c5, c6, c7⟩ := h
  exact ⟨S, nr, Rs, T, J, e, ow, c1, c2, c3, c4, by omega, by omega, by omega⟩
theorem zF_of {G : qx_G} {T : qx_T} {d n : Nat} {Y : qx_Y} {as : List Value} {v : Int32} {s : qx_S} (h : qx_call G T d Y as s (fun r s => r = some (.int v) ∧ zZ n s)) (hn : n ≤ 900) : ∃ r s', zF r s' ∧ s.1 ≤ s'.1 ∧ s.2.1 ≤ s'.2.1 := by
  obtain ⟨d', -, r, s', ⟨-, hz⟩, h1, h2, -⟩ := h
  exact ⟨_, s', hz.f hn, h1, h2⟩
theorem zS_at {L j : Nat} {xs : Nat → Int32} {σ : qx_S} (hz : zS L xs σ) (hj : j < L) (hL : L < 2147483648) : qx_mi σ 0 (nI j).toNatClampNeg = xs j := by
  rw [nI_clamp (by omega)]
  exact hz.2 j hj
theorem zS_in {L j : Nat} {xs : Nat → Int32} {σ : qx_S} (hz : zS L xs σ) (hj : j < L) (hL : L ≤ 3072) : vp_in (nI j) (qx_sh qc_T σ 0).2 := by
  rw [hz.1]
  exact vp_in_nI hj (by omega)
/-- the loop's head -/
def zHd (G : qx_G) (nm : String) (n : Nat) (σ : qx_S) : Prop := qx_K G qc_T 40 RL (YL_law nm) 18 [.ref 0, .ref 3, .ref 197, .int (nI (6 * n))] [] σ zF
/-- is there a call more -/
theorem zSix {L n : Nat} (hL : L ≤ 3072) (hn : n ≤ 900) (h : ¬ nI L - nI 6 < nI (6 * n)) : 6 * n + 6 ≤ L := by
  rcases Nat.lt_or_ge L 6 with z | z
  · exfalso
    refine h (Int32.lt_iff_toInt_lt.mpr ?_)
    rw [nI_toInt (by omega)]
    have e : (nI L - nI 6).toInt < 0 := by
      rcases (show L = 0 ∨ L = 1 ∨ L = 2 ∨ L = 3 ∨ L = 4 ∨ L = 5 by omega) with z | z | z | z | z | z <;> (rw [z]; decide)
    omega
  · rw [nI_sub z] at h
    have := nI_ltF (by omega) (by omega) h
    omega
/-- no call: a step on -/
theorem z_inc {G : qx_G} {nm : String} {L n : Nat} {σ : qx_S} (h : zZ (n + 6) σ) (hn : 6 * n + 6 ≤ L) (key : ∀ s, zZ (n + 7) s → zHd G nm (n + 1) s) : qx_K G qc_T 40 RL (YL_law nm) 1332 [.ref 0, .ref 3, .ref 197, .int (nI (6 * n))] [] σ zF := by
  refine qy_wp_ok (c := CL_0inc nm) (cuts := [18]) (vL_0inc nm) (wL_0inc nm) 60 1332 _ _ _ ?_
  refine Exists.intro (nI (6 * (n + 1))) (And.intro (nI_add _ _) ?_)
  exact key σ h.up
