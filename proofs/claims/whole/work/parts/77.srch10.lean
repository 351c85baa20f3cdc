/-! THE REFERENCE: reached -/
def q_rb (B : q_B) (p : Nat) : Nat → Nat
  | 0 => 0
  | i + 1 => q_rb B p i ||| 2 ^ q_dg (q_co B i) p
theorem q_rb_lt (B : q_B) (p : Nat) : ∀ i, q_rb B p i < 2 ^ 8
  | 0 => show 0 < 2 ^ 8 by decide
  | i + 1 => Nat.or_lt_two_pow (q_rb_lt B p i) (Nat.pow_lt_pow_right (by decide) (q_dg_lt _ _))
theorem q_dg_and (n p : Nat) : n / 2 ^ (3 * p) &&& 7 = q_dg n p := by
  rw [Nat.pow_mul]
  exact Nat.and_two_pow_sub_one_eq_mod _ 3
theorem l_reached {G : qx_G} {σ : qx_S} {B : q_B} {p : Nat} (hp : p < 10) (hB : mS σ B) : ∀ (m i : Nat), m = B.1 - i → i ≤ B.1 →
    qx_K G qc_T 9 RX12 YX12_reached 54 [.ref 197, .int (nI p), .retAddr 0, .int (nI (q_rb B p i)), .int (nI i)] [] σ (qr (nI (q_rb B p B.1)) σ) := by
  intro m
  induction m using Nat.strongRecOn with
  | _ m ih =>
    intro i hm hi
    have hle := hB.1
    have hr := q_rb_lt B p i
    have hr2 : q_rb B p i < 256 := hr
    have ez := hB.2.1
    have hd := q_dg_lt (q_co B i) p
    rcases Nat.lt_or_ge i B.1 with hlt | hge
    · have c := hB.2.2.1 i hlt
      have c2 := c.2.1
      refine qy_wp_ok (c := CX12_reached) (cuts := [54]) vX12_reached wX12_reached 2000 54 _ _ _ ?_
      refine And.intro rfl (Exists.intro 45 (Exists.intro (nI B.1) (And.intro rfl (And.intro ez ?_))))
      refine And.intro (fun h60 => ?_) (fun h60 => ?_)
      · skip
        have h60 := nI_leT (a := B.1) (b := i) (by omega) (by omega) h60
        exact absurd h60 (by omega)
      · skip
        have h60 := nI_leF (a := B.1) (b := i) (by omega) (by omega) h60
        refine Exists.intro (nI 1) (And.intro rfl ?_)
        refine And.intro rfl (Exists.intro 219 (And.intro rfl ?_))
        refine Exists.intro (i) (Exists.intro (nI (q_co B i)) (And.intro rfl (And.intro ⟨2001, rfl, by omega, by decide⟩ (And.intro c.1 ?_))))
        refine Exists.intro (nI 3) (And.intro rfl ?_)
        refine Exists.intro (nI (3 * p)) (And.intro (pk_mul _ _) ?_)
        refine Exists.intro (nI (q_co B i / 2 ^ (3 * p))) (And.intro (nI_shr (by omega) (by omega)) ?_)
        refine Exists.intro (nI 7) (And.intro rfl ?_)
        refine Exists.intro (nI (q_dg (q_co B i) p)) (And.intro ((nI_and _ _).trans (congrArg nI (q_dg_and _ _))) ?_)
        refine Exists.intro (nI (2 ^ q_dg (q_co B i) p)) (And.intro (nI_sh1 (by omega)) ?_)
        refine Exists.intro (nI (q_rb B p (i + 1))) (And.intro (nI_or _ _) ?_)
        refine Exists.intro (nI (i + 1)) (And.intro (nI_add _ _) ?_)
        exact ih _ (by omega) (i + 1) rfl (by omega)
    · obtain rfl : i = B.1 := by omega
      refine qy_wp_ok (c := CX12_reached) (cuts := [54]) vX12_reached wX12_reached 2000 54 _ _ _ ?_
      refine And.intro rfl (Exists.intro 45 (Exists.intro (nI B.1) (And.intro rfl (And.intro ez ?_))))
      refine And.intro (fun h60 => ?_) (fun h60 => ?_)
      · skip
        have h60 := nI_leT (a := B.1) (b := B.1) (by omega) (by omega) h60
        exact ⟨rfl, rfl⟩
      · skip
        have h60 := nI_leF (a := B.1) (b := B.1) (by omega) (by omega) h60
        exact absurd h60 (by omega)
theorem m_reached_no {G : qx_G} {σ : qx_S} {S : qS} (hS : qx_mi σ 207 = S) {pl pe : Nat} (e0 : S 0 = nI pl) (h8 : pl ≤ 8) (e1 : S 1 = nI pe) {p : Int32} (hb : (decide (0 < pl) && (decide (p = -1) || q_is p pe)) = false) : qx_M G qc_T 9 YX12_reached [.ref 197, .int p] σ (qr (-2) σ) := by
  refine qx_M_in rfl (Nat.le_of_ble_eq_true rfl) ?_
  refine qy_wp_ok (c := CX12_reached) (cuts := [23]) vX12_reached wX12_reached 2000 0 _ _ _ ?_
  refine And.intro rfl (Exists.intro _ (And.intro (by decide) (qx_M_mono (m_isCountry hS e0 h8) ?_)))
  rintro _ _ ⟨rfl, rfl⟩
  refine And.intro (fun h4 => ?_) (fun h4 => ?_)
  · skip
    have h4 := bI_f h4
    refine Exists.intro ((-2)) (And.intro (by decide) ?_)
    exact ⟨rfl, rfl⟩
  · skip
    have h4 := bI_t h4
    refine Exists.intro ((-1)) (And.intro (by decide) ?_)
    refine And.intro (fun h9 => ?_) (fun h9 => ?_)
    · skip
      exfalso
      first | (rw [h4, h17, Bool.or_true] at hb; exact Bool.false_ne_true hb.symm) | (rw [h4, decide_eq_true h9, Bool.true_or] at hb; exact Bool.false_ne_true hb.symm)
    · skip
      refine And.intro rfl (Exists.intro _ (And.intro (by decide) (qx_M_mono (m_isPerson hS e1 p) ?_)))
      rintro _ _ ⟨rfl, rfl⟩
      refine And.intro (fun h17 => ?_) (fun h17 => ?_)
      · skip
        have h17 := bI_t h17
        exfalso
        first | (rw [h4, h17, Bool.or_true] at hb; exact Bool.false_ne_true hb.symm) | (rw [h4, decide_eq_true h9, Bool.true_or] at hb; exact Bool.false_ne_true hb.symm)
      · skip
        have h17 := bI_f h17
        refine Exists.intro ((-2)) (And.intro (by decide) ?_)
        exact ⟨rfl, rfl⟩
def q_rc (x : q_B × Int32) (v : Nat) : Int32 := if x.2 = -3 then -3 else nI v
theorem m_reached_all {G : qx_G} {σ : qx_S} {S : qS} {rf : Option qR} (hX : mX σ S rf none) (g : gS S) (h0 : 0 < s_n S 0) : qx_M G qc_T 9 YX12_reached [.ref 197, .int (-1)] σ (fun r s => r = some (.int (q_rc (q_se S rf none) (q_se S rf none).1.1)) ∧ ql lV σ s ∧ mX s S rf none) := by
  have hS := hX.1
  have hg : gR S none (-1) (nI 0) := show (-1 : Int32) < 0 by decide
  have hle := q_se_le S rf none
  refine qx_M_in rfl (Nat.le_of_ble_eq_true rfl) ?_
  refine qy_wp_ok (c := CX12_reached) (cuts := [12, 49]) vX12_reached wX12_reached 2000 0 _ _ _ ?_
  refine And.intro rfl (Exists.intro _ (And.intro (by decide) (qx_M_mono (m_isCountry hS g.1.1 g.1.2) ?_)))
  rintro _ _ ⟨rfl, rfl⟩
  refine And.intro (fun h4 => ?_) (fun h4 => ?_)
  · skip
    have h4 := bI_f h4
    exact absurd (h4.symm.trans (decide_eq_true h0)) (by decide)
  · skip
    have h4 := bI_t h4
    refine Exists.intro ((-1)) (And.intro (by decide) ?_)
    refine And.intro (fun h9 => ?_) (fun h9 => ?_)
    · skip
      refine Exists.intro ((-1)) (And.intro (by decide) ?_)
      refine Exists.intro (nI 0) (And.intro rfl ?_)
      refine And.intro rfl (Exists.intro _ (And.intro (by decide) (qx_M_mono (m_searched hX g hg) ?_)))
      rintro _ σ1 ⟨rfl, fσ1, xσ1, mσ1, zσ1, vσ1⟩
      refine Exists.intro ((-3)) (And.intro (by decide) ?_)
      refine And.intro (fun h33 => ?_) (fun h33 => ?_)
      · skip
        refine Exists.intro ((-1)) (And.intro (by decide) ?_)
        refine And.intro (fun h41 => ?_) (fun h41 => ?_)
        · skip
          exact absurd (by decide) h41
        · skip
          refine And.intro rfl (Exists.intro 45 (Exists.intro (nI ((q_se S rf none).1.1)) (And.intro rfl (And.intro mσ1.2.1 ?_))))
          exact ⟨congrArg (fun z => some (Value.int z)) (if_neg h33).symm, fσ1, xσ1⟩
      · skip
        refine Exists.intro ((-3)) (And.intro (by decide) ?_)
        exact ⟨congrArg (fun z => some (Value.int z)) (if_pos h33).symm, fσ1, xσ1⟩
    · skip
      exact absurd (by decide) h9
theorem m_reached_ok {G : qx_G} {σ : qx_S} {S : qS} {rf : Option qR} (hX : mX σ S rf none) (g : gS S) (h0 : 0 < s_n S 0) {p : Nat} (hp : p < s_n S 1) : qx_M G qc_T 9 YX12_reached [.ref 197, .int (nI p)] σ (fun r s => r = some (.int (q_rc (q_se S rf none) (q_rb (q_se S rf none).1 p (q_se S rf none).1.1))) ∧ ql lV σ s ∧ mX s S rf none) := by
  have hS := hX.1
  have h10 := g.2.1.2
  have hg : gR S none (-1) (nI 0) := show (-1 : Int32) < 0 by decide
  have hne : ¬ nI p = (-1 : Int32) := fun z => by
    have y : nI p < 0 := z ▸ (by decide)
    exact absurd ((nI_ltI (b := 0) (by omega) (by decide)).mp y) (by omega)
  refine qx_M_in rfl (Nat.le_of_ble_eq_true rfl) ?_
  refine qy_wp_ok (c := CX12_reached) (cuts := [54]) vX12_reached wX12_reached 2000 0 _ _ _ ?_
  refine And.intro rfl (Exists.intro _ (And.intro (by decide) (qx_M_mono (m_isCountry hS g.1.1 g.1.2) ?_)))
  rintro _ _ ⟨rfl, rfl⟩
  refine And.intro (fun h4 => ?_) (fun h4 => ?_)
  · skip
    have h4 := bI_f h4
    exact absurd (h4.symm.trans (decide_eq_true h0)) (by decide)
  · skip
    have h4 := bI_t h4
    refine Exists.intro ((-1)) (And.intro (by decide) ?_)
    refine And.intro (fun h9 => ?_) (fun h9 => ?_)
    · skip
      exact absurd h9 hne
    · skip
      refine And.intro rfl (Exists.intro _ (And.intro (by decide) (qx_M_mono (m_isPerson hS g.2.1.1 (nI p)) ?_)))
      rintro _ _ ⟨rfl, rfl⟩
      refine And.intro (fun h17 => ?_) (fun h17 => ?_)
      · skip
        have h17 := bI_t h17
        refine Exists.intro ((-1)) (And.intro (by decide) ?_)
        refine Exists.intro (nI 0) (And.intro rfl ?_)
        refine And.intro rfl (Exists.intro _ (And.intro (by decide) (qx_M_mono (m_searched hX g hg) ?_)))
        rintro _ σ1 ⟨rfl, fσ1, xσ1, mσ1, zσ1, vσ1⟩
        refine Exists.intro ((-3)) (And.intro (by decide) ?_)
        refine And.intro (fun h33 => ?_) (fun h33 => ?_)
        · skip
          refine Exists.intro ((-1)) (And.intro (by decide) ?_)
          refine And.intro (fun h41 => ?_) (fun h41 => ?_)
          · skip
            refine Exists.intro (nI 0) (And.intro rfl ?_)
            refine Exists.intro (nI 0) (And.intro rfl ?_)
            refine qx_K_le (ls := [.ref 197, .int (nI p), .retAddr 0, .int (nI 0), .int (nI 0)]) ⟨Or.inr rfl, Or.inr rfl, Or.inl rfl, Or.inr rfl, Or.inr rfl, trivial⟩ ?_
            refine qx_K_mono (l_reached (by omega) mσ1 _ 0 rfl (by omega)) ?_
            rintro _ _ ⟨rfl, rfl⟩
            exact ⟨congrArg (fun z => some (Value.int z)) (if_neg h33).symm, fσ1, xσ1⟩
          · skip
            exact absurd h41 hne
        · skip
          refine Exists.intro ((-3)) (And.intro (by decide) ?_)
          exact ⟨congrArg (fun z => some (Value.int z)) (if_pos h33).symm, fσ1, xσ1⟩
      · skip
        have h17 := bI_f h17
        exact absurd (h17.symm.trans (q_is_ok hp (by omega))) (by decide)

