/-! THE CLASS: a ring's LAWS; two who can change -/
/-- a ring at y -/
def rgC (σ : qx_S) (y : Nat) (rg : Nat → Nat) (n : Nat) : Prop := shG σ y ∧ qx_mi σ y 1 = nI n ∧ ∀ j, j < n → qx_mi σ (y + 1) j = nI (rg j)
theorem rgC.fr {σ s : qx_S} {y n : Nat} {rg : Nat → Nat} {l : List (Nat × Option Nat)} (h : rgC σ y rg n) (f : ql l σ s) (h1 : pL l y 1 = false) (h2 : ∀ j, pL l (y + 1) j = false) : rgC s y rg n := ⟨⟨(f.s _).trans h.1.1, (f.s _).trans h.1.2⟩, (f.i _ _ h1).trans h.2.1, fun j hj => (f.i _ _ (h2 j)).trans (h.2.2 j hj)⟩
theorem c_after {G : qx_G} {σ : qx_S} {y n k : Nat} {rg : Nat → Nat} (h : rgC σ y rg n) (hn : n ≤ 6) (hk : k < n) : qx_M G qc_T 0 YX4_after [.ref y, .int (nI k)] σ (qr (nI (rg ((k + 1) % n))) σ) := by
  obtain ⟨⟨s1, s2⟩, h1, h2⟩ := h
  by_cases z : k + 1 < n
  · rw [Nat.mod_eq_of_lt z]
    refine qx_M_in rfl (Nat.le_of_ble_eq_true rfl) ?_
    refine qy_wp_ok (c := CX4_after) (cuts := []) vX4_after wX4_after 2000 0 _ _ _ ?_
    refine Exists.intro (nI 1) (And.intro rfl ?_)
    refine Exists.intro (nI (k + 1)) (And.intro (nI_add _ _) ?_)
    refine And.intro (by rw [show qx_sh qc_T _ y = _ from s1]; rfl) (Exists.intro 1 (Exists.intro (nI n) (And.intro rfl (And.intro h1 ?_))))
    refine And.intro (fun h7 => ?_) (fun h7 => ?_)
    · skip
      have h7 := nI_leT (a := n) (b := k + 1) (by omega) (by omega) h7
      exact absurd h7 (by omega)
    · skip
      have h7 := nI_leF (a := n) (b := k + 1) (by omega) (by omega) h7
      refine And.intro (by rw [show qx_sh qc_T _ y = _ from s1]; rfl) (Exists.intro (y + 1) (And.intro rfl ?_))
      refine Exists.intro (nI 1) (And.intro rfl ?_)
      refine Exists.intro (nI (k + 1)) (And.intro (nI_add _ _) ?_)
      refine Exists.intro (k + 1) (Exists.intro (nI (rg (k + 1))) (And.intro rfl (And.intro ⟨6, s2, by omega, by decide⟩ (And.intro (h2 _ z) ?_))))
      exact ⟨rfl, rfl⟩
  · rw [show (k + 1) % n = 0 by rw [show k + 1 = n by omega]; exact Nat.mod_self n]
    refine qx_M_in rfl (Nat.le_of_ble_eq_true rfl) ?_
    refine qy_wp_ok (c := CX4_after) (cuts := []) vX4_after wX4_after 2000 0 _ _ _ ?_
    refine Exists.intro (nI 1) (And.intro rfl ?_)
    refine Exists.intro (nI (k + 1)) (And.intro (nI_add _ _) ?_)
    refine And.intro (by rw [show qx_sh qc_T _ y = _ from s1]; rfl) (Exists.intro 1 (Exists.intro (nI n) (And.intro rfl (And.intro h1 ?_))))
    refine And.intro (fun h7 => ?_) (fun h7 => ?_)
    · skip
      have h7 := nI_leT (a := n) (b := k + 1) (by omega) (by omega) h7
      refine And.intro (by rw [show qx_sh qc_T _ y = _ from s1]; rfl) (Exists.intro (y + 1) (And.intro rfl ?_))
      refine Exists.intro (nI 0) (And.intro rfl ?_)
      refine Exists.intro (0) (Exists.intro (nI (rg 0)) (And.intro rfl (And.intro ⟨6, s2, by decide, by decide⟩ (And.intro (h2 _ (by omega)) ?_))))
      exact ⟨rfl, rfl⟩
    · skip
      have h7 := nI_leF (a := n) (b := k + 1) (by omega) (by omega) h7
      exact absurd h7 (by omega)
/-- the law that a ring breaks, all being where at says, from the k-th on -/
def q_lbg (S : qS) (rf : Option qR) (at' : Nat → Nat) (rg : Nat → Nat) (n : Nat) : Nat → Nat → Nat
  | 0, _ => 0
  | m + 1, k => if 0 < q_bk S rf none (rg k) (at' (rg k)) (at' (rg ((k + 1) % n))) (rg ((k + 1) % n)) n then q_bk S rf none (rg k) (at' (rg k)) (at' (rg ((k + 1) % n))) (rg ((k + 1) % n)) n else q_lbg S rf at' rg n m (k + 1)
theorem q_lbg_at (S : qS) (rf : Option qR) (rg : Nat → Nat) (n : Nat) : ∀ m k, q_lbg S rf (s_at S) rg n m k = q_lbc S rf none rg n m k
  | 0, _ => rfl
  | m + 1, k => by
    unfold q_lbg q_lbc
    rw [q_lbg_at S rf rg n m (k + 1)]
/-- a row of places -/
def atC (σ : qx_S) (z : Nat) (at' : Nat → Nat) (pe : Nat) : Prop := qx_sh qc_T σ z = (0, 10) ∧ ∀ p, p < pe → qx_mi σ z p = nI (at' p) ∧ at' p < 8
theorem atC.fr {σ s : qx_S} {z pe : Nat} {at' : Nat → Nat} {l : List (Nat × Option Nat)} (h : atC σ z at' pe) (f : ql l σ s) (h1 : ∀ j, pL l z j = false) : atC s z at' pe := ⟨(f.s _).trans h.1, fun p hp => ⟨(f.i _ _ (h1 p)).trans (h.2 p hp).1, (h.2 p hp).2⟩⟩
def nLw (y : Nat) : Prop := y < 157 ∨ 159 < y
theorem nLw.ne {y j : Nat} (h : nLw y) : pL kLw y j = false := pL_ne (by unfold nLw at h; simp; omega)
theorem l_brR {G : qx_G} {σ0 : qx_S} {S : qS} {rf : Option qR} {e st : Nat} {kp : Bool} {lk : Nat → Nat → Nat → Int32} {y z n : Nat} {rg at' : Nat → Nat} (hk : cH S rf kp lk) (hn : n ≤ 6) (hrg : ∀ k, k < n → rg k < s_n S 1) (hy : nLw y) (hy1 : nLw (y + 1)) (hz : nLw z) : ∀ (m k : Nat) (σ : qx_S), m + k = n → cW σ S rf st → cK σ e kp (s_n S 1) lk → rgC σ y rg n → atC σ z at' (s_n S 1) → ql kLw σ0 σ → qx_K G qc_T 4 RX2 YX2_brokenByRing 2 [.ref 156, .ref y, .ref z, .int (nI k), .retAddr 0, .retAddr 0, .retAddr 0] [] σ (fun r s => r = some (.int (nI (q_lbg S rf at' rg n m k))) ∧ ql kLw σ0 s ∧ cK s e kp (s_n S 1) lk) := by
  intro m
  induction m with
  | zero =>
    intro k σ hm hW hK hR hA hf
    obtain rfl : k = n := by omega
    refine qy_wp_ok (c := CX2_brokenByRing) (cuts := [2]) vX2_brokenByRing wX2_brokenByRing 2000 2 _ _ _ ?_
    refine And.intro (by rw [show qx_sh qc_T _ y = _ from hR.1.1]; rfl) (Exists.intro 1 (Exists.intro (nI k) (And.intro rfl (And.intro hR.2.1 ?_))))
    refine And.intro (fun h7 => ?_) (fun h7 => ?_)
    · skip
      have h7 := nI_leT (a := k) (b := k) (by omega) (by omega) h7
      refine Exists.intro (nI 0) (And.intro rfl ?_)
      exact ⟨rfl, hf, hK⟩
    · skip
      have h7 := nI_leF (a := k) (b := k) (by omega) (by omega) h7
      exact absurd h7 (by omega)
  | succ m ih =>
    intro k σ hm hW hK hR hA hf
    have hpe := hW.1.1.2.1.2
    have hk1 : k < n := by omega
    have hm1 : (k + 1) % n < n := Nat.mod_lt _ (by omega)
    have hr1 := hrg k hk1
    have hr2 := hrg _ hm1
    have a1 := (hA.2 _ hr1).2
    have a2 := (hA.2 _ hr2).2
    have hb3 := q_bk_le S rf none (rg k) (at' (rg k)) (at' (rg ((k + 1) % n))) (rg ((k + 1) % n)) n
    refine qy_wp_ok (c := CX2_brokenByRing) (cuts := [2]) vX2_brokenByRing wX2_brokenByRing 2000 2 _ _ _ ?_
    refine And.intro (by rw [show qx_sh qc_T _ y = _ from hR.1.1]; rfl) (Exists.intro 1 (Exists.intro (nI n) (And.intro rfl (And.intro hR.2.1 ?_))))
    refine And.intro (fun h7 => ?_) (fun h7 => ?_)
    · skip
      have h7 := nI_leT (a := n) (b := k) (by omega) (by omega) h7
      exact absurd h7 (by omega)
    · skip
      have h7 := nI_leF (a := n) (b := k) (by omega) (by omega) h7
      refine And.intro (by rw [show qx_sh qc_T _ y = _ from hR.1.1]; rfl) (Exists.intro (y + 1) (And.intro rfl ?_))
      refine Exists.intro (k) (Exists.intro (nI (rg k)) (And.intro rfl (And.intro ⟨6, hR.1.2, by omega, by decide⟩ (And.intro (hR.2.2 k hk1) ?_))))
      refine And.intro ((congrArg Prod.fst (hR.1.1)).trans rfl) (Exists.intro _ (And.intro (by decide) (qx_M_mono (c_after hR hn hk1) ?_)))
      rintro _ _ ⟨rfl, rfl⟩
      refine Exists.intro (rg k) (Exists.intro (nI (at' (rg k))) (And.intro rfl (And.intro ⟨10, hA.1, by omega, by decide⟩ (And.intro ((hA.2 _ hr1).1) ?_))))
      refine Exists.intro (rg ((k + 1) % n)) (Exists.intro (nI (at' (rg ((k + 1) % n)))) (And.intro rfl (And.intro ⟨10, hA.1, by omega, by decide⟩ (And.intro ((hA.2 _ hr2).1) ?_))))
      refine And.intro (by rw [show qx_sh qc_T _ y = _ from hR.1.1]; rfl) (Exists.intro 1 (Exists.intro (nI n) (And.intro rfl (And.intro hR.2.1 ?_))))
      refine And.intro rfl (Exists.intro _ (And.intro (by decide) (qx_M_mono (c_brokenBy hW hK hk hr1 a1 a2 hr2) ?_)))
      rintro _ σ1 ⟨rfl, fσ1, kσ1⟩
      have hW_σ1 : cW σ1 S rf st := hW.fr fσ1 rfl rfl
      have hR_σ1 : rgC σ1 y rg n := hR.fr fσ1 hy.ne (fun _ => hy1.ne)
      have hA_σ1 : atC σ1 z at' (s_n S 1) := hA.fr fσ1 (fun _ => hz.ne)
      have hf_σ1 : ql kLw σ0 σ1 := hf.tr fσ1
      have hK_σ1 : cK σ1 e kp (s_n S 1) lk := kσ1
      refine And.intro (fun h49 => ?_) (fun h49 => ?_)
      · skip
        have h49 := nI_eqT (a := q_bk S rf none (rg k) (at' (rg k)) (at' (rg ((k + 1) % n))) (rg ((k + 1) % n)) n) (b := 0) (by omega) (by decide) h49
        refine Exists.intro (nI (k + 1)) (And.intro (nI_add _ _) ?_)
        refine qx_K_le (ls := [.ref 156, .ref y, .ref z, .int (nI (k + 1)), .retAddr 0, .retAddr 0, .retAddr 0]) ⟨Or.inr rfl, Or.inr rfl, Or.inr rfl, Or.inr rfl, Or.inl rfl, Or.inl rfl, Or.inl rfl, trivial⟩ ?_
        have w := ih (k + 1) _ (by omega) hW_σ1 hK_σ1 hR_σ1 hA_σ1 hf_σ1
        refine qx_K_mono w (fun r s h => ⟨h.1.trans ?_, h.2⟩)
        show _ = some (Value.int (nI (if _ then _ else _)))
        rw [if_neg (by omega)]
      · skip
        have h49 := nI_neT (a := q_bk S rf none (rg k) (at' (rg k)) (at' (rg ((k + 1) % n))) (rg ((k + 1) % n)) n) (b := 0) (by omega) (by decide) h49
        refine ⟨?_, hf_σ1, hK_σ1⟩
        show _ = some (Value.int (nI (if _ then _ else _)))
        rw [if_pos (by omega)]
theorem c_brokenByRing {G : qx_G} {σ : qx_S} {S : qS} {rf : Option qR} {e st : Nat} {kp : Bool} {lk : Nat → Nat → Nat → Int32} {y z n : Nat} {rg at' : Nat → Nat} (hW : cW σ S rf st) (hK : cK σ e kp (s_n S 1) lk) (hk : cH S rf kp lk) (hn : n ≤ 6) (hrg : ∀ k, k < n → rg k < s_n S 1) (hy : nLw y) (hy1 : nLw (y + 1)) (hz : nLw z) (hR : rgC σ y rg n) (hA : atC σ z at' (s_n S 1)) : qx_M G qc_T 4 YX2_brokenByRing [.ref 156, .ref y, .ref z] σ (fun r s => r = some (.int (nI (q_lbg S rf at' rg n n 0))) ∧ ql kLw σ s ∧ cK s e kp (s_n S 1) lk) := by
  refine qx_M_in rfl (Nat.le_of_ble_eq_true rfl) ?_
  refine qy_wp_ok (c := CX2_brokenByRing) (cuts := [2]) vX2_brokenByRing wX2_brokenByRing 2000 0 _ _ _ ?_
  refine Exists.intro (nI 0) (And.intro rfl ?_)
  exact qx_K_mono (l_brR hk hn hrg hy hy1 hz n 0 σ (by omega) hW hK hR hA qf.rf) (fun r s h => h)

