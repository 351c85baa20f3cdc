/-! THE CLASS: MOST, the best of all sets -/
theorem qx_M_ex {G : qx_G} {T : qx_T} {d : Nat} {Y : qx_Y} {as : List Value} {σ : qx_S} {P : Int32 → Prop} (h : qx_M G T d Y as σ (fun r s => ∃ v, r = some (.int v) ∧ σ = s ∧ P v)) : ∃ v, P v ∧ qx_M G T d Y as σ (qr v σ) := by
  obtain ⟨r, s, ⟨v, h1, h2, h3⟩, hB⟩ := h
  exact ⟨v, h3, r, s, ⟨h1, h2⟩, hB⟩
/-- subsets are gone through downwards -/
theorem q_sub_and : ∀ (o R t : Nat), (∀ i, o.testBit i = true → R.testBit i = true) → (∀ i, t.testBit i = true → R.testBit i = true) → t < o → t ≤ (o - 1) &&& R := by
  intro o
  induction o using Nat.strongRecOn with
  | _ o ih =>
    intro R t ho ht hlt
    have hd : ((o - 1) &&& R) / 2 = (o - 1) / 2 &&& R / 2 := Nat.and_div_two
    have hm : ((o - 1) &&& R) % 2 = 1 ↔ (o - 1) % 2 = 1 ∧ R % 2 = 1 := Nat.and_mod_two_eq_one
    have ho2 : ∀ i, (o / 2).testBit i = true → (R / 2).testBit i = true := fun i h => by
      rw [Nat.testBit_div_two] at h ⊢
      exact ho _ h
    have ht2 : ∀ i, (t / 2).testBit i = true → (R / 2).testBit i = true := fun i h => by
      rw [Nat.testBit_div_two] at h ⊢
      exact ht _ h
    have t0 : t % 2 = 1 → R % 2 = 1 := fun h => Nat.mod_two_eq_one_iff_testBit_zero.mpr (ht 0 (Nat.mod_two_eq_one_iff_testBit_zero.mp h))
    rcases Nat.mod_two_eq_zero_or_one o with z | z
    · have k := ih (o / 2) (by omega) (R / 2) (t / 2) ho2 ht2 (by omega)
      rw [show (o - 1) / 2 = o / 2 - 1 by omega] at hd
      rw [← hd] at k
      have h1 : (o - 1) % 2 = 1 := by omega
      by_cases y : t % 2 = 1
      · have := hm.mpr ⟨h1, t0 y⟩
        omega
      · omega
    · have e : (o - 1) / 2 &&& R / 2 = o / 2 := by
        rw [show (o - 1) / 2 = o / 2 by omega]
        apply Nat.eq_of_testBit_eq
        intro i
        rw [Nat.testBit_and]
        cases h : (o / 2).testBit i with
        | false => rfl
        | true => rw [ho2 i h]; rfl
      omega
theorem q_lo_min {s m : Nat} (hs : s < 1024) (h : s.testBit m = true) : q_lo s ≤ m ∧ 0 < s := by
  have h0 : 0 < s := by
    rcases Nat.eq_zero_or_pos s with z | z
    · rw [z, Nat.zero_testBit] at h; cases h
    · exact z
  refine ⟨?_, h0⟩
  rcases Nat.lt_or_ge m (q_lo s) with z | z
  · have := (q_lo_ok h0 hs).2.2 m z
    rw [h] at this
    cases this
  · exact z
def q_KB (σ : qx_S) (S : qS) (rf : Option qR) (ly : Option (Nat × Nat)) (k act j : Nat) : Prop := ∀ t, (∀ i, t.testBit i = true → act.testBit i = true ∧ j ≤ i) → (t = 0 ∨ q_lo t ≠ q_lo act ∨ t = act) → (qx_mi σ 172 t).toInt = q_F (q_cn S rf ly) (q_gn S rf ly) (s_n S 1) k t
theorem q_lt_bits {t n : Nat} (h : ∀ i, t.testBit i = true → i < n) : t < 2 ^ n := Nat.lt_pow_two_of_testBit t (fun i hi => Bool.eq_false_iff.mpr (fun w => absurd (h i w) (by omega)))
theorem bX.act {σ : qx_S} {S : qS} {rf : Option qR} {ly : Option (Nat × Nat)} {e k : Nat} {rg : Nat → Nat} {M : q_Mt} (h : bX σ S rf ly e k rg M) : ∀ i, M.2.2.2.testBit i = true → i < s_n S 1 := fun i hi => by
  obtain ⟨f1, f2, f3, f4, f5⟩ := q_Mfin h.2.2.2.2.2.1 h.2.2.2.2.2.2 h.gB h.2.1
  obtain ⟨p, s, g, n, num, h1, h2, h3⟩ := (f5 i).mp hi
  exact ((q_RG_p h2).2.2.2.2 i h3).2
/-- one set more -/
theorem q_fb1 {G : qx_G} {σ : qx_S} {S : qS} {rf : Option qR} {ly : Option (Nat × Nat)} {e k m o : Nat} {rg : Nat → Nat} {M : q_Mt} (hX : bX σ S rf ly e k rg M) (hb : M.2.2.2.testBit m = true) (ho : ∀ i, o.testBit i = true → M.2.2.2.testBit i = true ∧ m < i) (hK : q_KB σ S rf ly k M.2.2.2 (m + 1)) : (o ||| 2 ^ m) < 1024 ∧ ∃ v, v.toInt = q_F (q_cn S rf ly) (q_gn S rf ly) (s_n S 1) k (o ||| 2 ^ m) ∧ qx_M G qc_T 0 YX3_bestOf [.ref 160, .int (nI (o ||| 2 ^ m)), .int (nI m)] σ (qr v σ) := by
  have hpe := hX.1.1.1.pe
  have h1024 : 2 ^ s_n S 1 ≤ 1024 := Nat.pow_le_pow_right (by decide) hpe
  have act := hX.act
  have alt : M.2.2.2 < 2 ^ s_n S 1 := q_lt_bits act
  have ob : ∀ i, (o ||| 2 ^ m).testBit i = true ↔ o.testBit i = true ∨ m = i := fun i => by
    rw [Nat.testBit_or, q_bit1, Bool.or_eq_true, decide_eq_true_iff]
  have slt : (o ||| 2 ^ m) < 2 ^ s_n S 1 := q_lt_bits (fun i hi => ((ob i).mp hi).elim (fun z => act i (ho i z).1) (fun z => by rw [← z]; exact act m hb))
  have sm : (o ||| 2 ^ m).testBit m = true := (ob m).mpr (Or.inr rfl)
  obtain ⟨lm, l0⟩ := q_lo_min (by omega) sm
  obtain ⟨q1, q2, q3⟩ := q_lo_ok (s := o ||| 2 ^ m) l0 (by omega)
  have ep : m = q_lo (o ||| 2 ^ m) := by
    rcases (ob _).mp q1 with z | z
    · have := (ho _ z).2
      omega
    · exact z
  have lact := q_lo_min (s := M.2.2.2) (by omega) hb
  have kn : ∀ t, (∀ i, t.testBit i = true → M.2.2.2.testBit i = true ∧ m < i) → (qx_mi σ 172 t).toInt = q_F (q_cn S rf ly) (q_gn S rf ly) (s_n S 1) k t := fun t ht => hK t (fun i hi => ⟨(ht i hi).1, (ht i hi).2⟩) (by
    rcases Nat.eq_zero_or_pos t with z | z
    · exact Or.inl z
    · right
      left
      have tl : t < 2 ^ s_n S 1 := q_lt_bits (fun i hi => act i (ht i hi).1)
      have := (ht _ (q_lo_ok z (by omega)).1).2
      have := lact.1
      omega)
  have rs : ∀ r, r.testBit m = true → ∀ i, (q_wo (o ||| 2 ^ m) r).testBit i = true → M.2.2.2.testBit i = true ∧ m < i := fun r hr i hi => by
    rw [q_wo_bit, Bool.and_eq_true, Bool.not_eq_true'] at hi
    rcases (ob i).mp hi.1 with z | z
    · exact ho i z
    · rw [← z, hr] at hi
      cases hi.2
  have c := c_bestOf (G := G) hX l0 slt ep (by rw [q_wo_xor (q_wo_0.mpr (fun i hi => by rw [q_bit1] at hi; exact (ob i).mpr (Or.inr (of_decide_eq_true hi))))]; exact kn _ (rs _ (by rw [q_bit1]; exact decide_eq_true rfl))) (fun s g n num r1 r2 => by rw [q_wo_xor r2]; exact kn _ (rs _ (q_RG_p r1).1))
  obtain ⟨v, v1, v2⟩ := qx_M_ex c
  exact ⟨by omega, v, v1, v2⟩
def q_d1x (m : Nat) : Int32 := if m = 0 then -1 else nI (m - 1)
theorem q_d1x_s {m : Nat} (h : m < 2147483648) : nI m + (-1) = q_d1x m := by
  unfold q_d1x
  split
  · next z => rw [z]; decide
  · next z => exact nI_dec 1 (by omega)
theorem q_rest (act m i : Nat) : (act / 2 ^ (m + 1) * 2 ^ (m + 1)).testBit i = (decide (m < i) && act.testBit i) := by
  rw [Nat.testBit_mul_two_pow, Nat.testBit_div_two_pow]
  by_cases h : m < i
  · rw [decide_eq_true (show m + 1 ≤ i from h), decide_eq_true h, Nat.sub_add_cancel h]
  · rw [decide_eq_false (show ¬ m + 1 ≤ i from h), decide_eq_false h]
    rfl
theorem l_fb2 {G : qx_G} {σ0 : qx_S} {S : qS} {rf : Option qR} {ly : Option (Nat × Nat)} {e k m R : Nat} {rg : Nat → Nat} {M : q_Mt} (hb : M.2.2.2.testBit m = true) (hR : ∀ i, R.testBit i = true ↔ M.2.2.2.testBit i = true ∧ m < i) {Φ : qx_F} (key : ∀ s, bX s S rf ly e k rg M → q_KB s S rf ly k M.2.2.2 m → ql [(172, none)] σ0 s → qx_K G qc_T 1 RX3 YX3_findBest 130 [.ref 160, .int (nI m), .retAddr 0, .retAddr 0, .retAddr 0, .retAddr 0] [] s Φ) : ∀ (o met : Nat) (σ : qx_S), met + o < 1024 → (∀ i, o.testBit i = true → R.testBit i = true) → bX σ S rf ly e k rg M → q_KB σ S rf ly k M.2.2.2 (m + 1) → ql [(172, none)] σ0 σ → (∀ t, (∀ i, t.testBit i = true → R.testBit i = true) → o < t → (qx_mi σ 172 (t ||| 2 ^ m)).toInt = q_F (q_cn S rf ly) (q_gn S rf ly) (s_n S 1) k (t ||| 2 ^ m)) → qx_K G qc_T 1 RX3 YX3_findBest 74 [.ref 160, .int (nI m), .int (nI R), .int (nI 0), .int (nI o), .int (nI met)] [] σ Φ := by
  intro o
  induction o using Nat.strongRecOn with
  | _ o ih =>
    intro met σ hmt ho hX hK hf hd
    have hpe := hX.1.1.1.pe
    have hm10 := hX.act m hb
    have h1024 : 2 ^ s_n S 1 ≤ 1024 := Nat.pow_le_pow_right (by decide) hpe
    have ol : o < 2 ^ s_n S 1 := q_lt_bits (fun i hi => hX.act i ((hR i).mp (ho i hi)).1)
    obtain ⟨s1024, v, v1, v2⟩ := q_fb1 (G := G) hX hb (fun i hi => (hR i).mp (ho i hi)) hK
    have nm : ∀ t : Nat, (∀ i, t.testBit i = true → R.testBit i = true) → t.testBit m = false := fun t ht => Bool.eq_false_iff.mpr (fun w => absurd ((hR m).mp (ht m w)).2 (Nat.lt_irrefl m))
    have inj : ∀ t : Nat, (∀ i, t.testBit i = true → R.testBit i = true) → t ||| 2 ^ m = o ||| 2 ^ m → t = o := fun t ht he => by
      apply Nat.eq_of_testBit_eq
      intro i
      by_cases z : i = m
      · rw [z, nm t ht, nm o ho]
      · have k := congrArg (fun y => y.testBit i) he
        have k : (t ||| 2 ^ m).testBit i = (o ||| 2 ^ m).testBit i := k
        rw [Nat.testBit_or, Nat.testBit_or, q_bit1, decide_eq_false (fun w => z w.symm), Bool.or_false, Bool.or_false] at k
        exact k
    have aft : ∀ s, s = qx_wi σ 172 (o ||| 2 ^ m) v → bX s S rf ly e k rg M ∧ q_KB s S rf ly k M.2.2.2 (m + 1) ∧ ql [(172, none)] σ0 s ∧ (∀ t : Nat, (∀ i, t.testBit i = true → R.testBit i = true) → o ≤ t → (qx_mi s 172 (t ||| 2 ^ m)).toInt = q_F (q_cn S rf ly) (q_gn S rf ly) (s_n S 1) k (t ||| 2 ^ m)) := by
      intro s es
      have f := qn_wi es
      refine ⟨hX.fr f, fun t ht h2 => ?_, hf.tr f, fun t ht h2 => ?_⟩
      · rw [show qx_mi s 172 t = qx_mi σ 172 t from qn_ne es (Or.inr (fun z => by
          have w : t.testBit m = true := by rw [z, Nat.testBit_or, q_bit1, decide_eq_true rfl, Bool.or_true]
          have := (ht m w).2
          omega))]
        exact hK t ht h2
      · by_cases z : t = o
        · rw [z, show qx_mi s 172 (o ||| 2 ^ m) = v from qn_eq es]
          exact v1
        · rw [show qx_mi s 172 (t ||| 2 ^ m) = qx_mi σ 172 (t ||| 2 ^ m) from qn_ne es (Or.inr (fun y => z (inj t ht y)))]
          exact hd t ht (by omega)
    have end0 : ∀ s, s = qx_wi σ 172 (o ||| 2 ^ m) v → o = 0 → q_KB s S rf ly k M.2.2.2 m := by
      intro s es z t ht h2
      obtain ⟨a1, a2, a3, a4⟩ := aft s es
      by_cases w : t.testBit m = true
      · have et : q_wo t (2 ^ m) ||| 2 ^ m = t := by
          apply Nat.eq_of_testBit_eq
          intro i
          rw [Nat.testBit_or, q_wo_bit, q_bit1]
          by_cases y : m = i
          · rw [← y, w, decide_eq_true rfl]; rfl
          · rw [decide_eq_false y, Bool.not_false, Bool.and_true, Bool.or_false]
        have k := a4 (q_wo t (2 ^ m)) (fun i hi => by
          rw [q_wo_bit, q_bit1, Bool.and_eq_true, Bool.not_eq_true'] at hi
          have h3 := ht i hi.1
          have h4 := of_decide_eq_false hi.2
          exact (hR i).mpr ⟨h3.1, by omega⟩) (by omega)
        rw [et] at k
        exact k
      · exact a2 t (fun i hi => ⟨(ht i hi).1, by
          have := (ht i hi).2
          have : i ≠ m := fun y => w (by rw [← y]; exact hi)
          omega⟩) h2
    obtain ⟨st, est⟩ : ∃ st, st = o ||| 2 ^ m := ⟨_, rfl⟩
    rw [← est] at s1024 v2
    have ole : (o - 1) &&& R ≤ o - 1 := Nat.and_le_left
    refine qy_wp_ok (c := CX3_findBest) (cuts := [74, 130]) vX3_findBest wX3_findBest 2000 74 _ _ _ ?_
    refine Exists.intro (nI 1024) (And.intro rfl ?_)
    refine And.intro (fun h79 => ?_) (fun h79 => ?_)
    · skip
      have h79 := nI_leT (a := 1024) (b := met) (by decide) (by omega) h79
      exact absurd h79 (by omega)
    · skip
      have h79 := nI_leF (a := 1024) (b := met) (by decide) (by omega) h79
      refine And.intro rfl (Exists.intro 172 (And.intro rfl ?_))
      refine Exists.intro (nI 1) (And.intro rfl ?_)
      refine Exists.intro (nI (2 ^ m)) (And.intro (nI_sh1 (by omega)) ?_)
      refine Exists.intro (nI st) (And.intro ((nI_or _ _).trans (congrArg nI est.symm)) ?_)
      refine Exists.intro (nI 1) (And.intro rfl ?_)
      refine Exists.intro (nI (2 ^ m)) (And.intro (nI_sh1 (by omega)) ?_)
      refine Exists.intro (nI st) (And.intro ((nI_or _ _).trans (congrArg nI est.symm)) ?_)
      refine And.intro rfl (Exists.intro _ (And.intro (by decide) (qx_M_mono (v2) ?_)))
      rintro _ _ ⟨rfl, rfl⟩
      obtain ⟨σ1, eσ1⟩ : ∃ zs, zs = (qx_wi σ 172 st v) := ⟨_, rfl⟩
      have fσ1 := qn_wi eσ1
      refine Exists.intro (st) (Exists.intro σ1 (And.intro rfl (And.intro ⟨1024, rfl, by omega, by decide⟩ (And.intro eσ1.symm ?_))))
      rw [est] at eσ1
      refine And.intro (fun h105 => ?_) (fun h105 => ?_)
      · skip
        exact absurd (by decide) h105
      · skip
        refine And.intro (fun h110 => ?_) (fun h110 => ?_)
        · skip
          have h110 := nI_neT (a := o) (b := 0) (by omega) (by decide) h110
          refine Exists.intro (nI 1) (And.intro rfl ?_)
          refine Exists.intro (nI (o - 1)) (And.intro (nI_sub (by omega)) ?_)
          refine Exists.intro (nI ((o - 1) &&& R)) (And.intro (nI_and _ _) ?_)
          refine Exists.intro (nI (met + 1)) (And.intro (nI_add _ _) ?_)
          refine ih ((o - 1) &&& R) (by omega) (met + 1) _ (by omega) (fun i hi => ?_) (aft _ eσ1).1 (aft _ eσ1).2.1 (aft _ eσ1).2.2.1 (fun t ht h2 => (aft _ eσ1).2.2.2 t ht ?_)
          · rw [Nat.testBit_and, Bool.and_eq_true] at hi; exact hi.2
          · rcases Nat.lt_or_ge t o with z | z
            · exact absurd (q_sub_and o R t ho ht z) (by omega)
            · exact z
        · skip
          have h110 := nI_eqT (a := o) (b := 0) (by omega) (by decide) h110
          refine qx_K_le (ls := [.ref 160, .int (nI m), .retAddr 0, .retAddr 0, .retAddr 0, .retAddr 0]) ⟨Or.inr rfl, Or.inr rfl, Or.inl rfl, Or.inl rfl, Or.inl rfl, Or.inl rfl, trivial⟩ ?_
          exact key _ (aft _ eσ1).1 (end0 _ eσ1 h110) (aft _ eσ1).2.2.1
theorem l_fb1 {G : qx_G} {σ0 : qx_S} {S : qS} {rf : Option qR} {ly : Option (Nat × Nat)} {e k : Nat} {rg : Nat → Nat} {M : q_Mt} : ∀ (m : Nat) (σ : qx_S), m ≤ s_n S 1 → bX σ S rf ly e k rg M → q_KB σ S rf ly k M.2.2.2 m → ql [(172, none)] σ0 σ → qx_K G qc_T 1 RX3 YX3_findBest 20 [.ref 160, .int (q_d1x m), .retAddr 0, .retAddr 0, .retAddr 0, .retAddr 0] [] σ (fun r s => r = none ∧ ql [(172, none)] σ0 s ∧ bX s S rf ly e k rg M ∧ q_KB s S rf ly k M.2.2.2 0) := by
  intro m
  induction m with
  | zero =>
    intro σ hm hX hK hf
    show qx_K G qc_T 1 RX3 YX3_findBest 20 [.ref 160, .int (-1), .retAddr 0, .retAddr 0, .retAddr 0, .retAddr 0] [] σ _
    refine qy_wp_ok (c := CX3_findBest) (cuts := [74]) vX3_findBest wX3_findBest 2000 20 _ _ _ ?_
    refine And.intro (fun h21 => ?_) (fun h21 => ?_)
    · skip
      exact ⟨rfl, hf, hX, hK⟩
    · skip
      exact absurd (by decide) h21
  | succ m ih =>
    intro σ hm hX hK hf
    show qx_K G qc_T 1 RX3 YX3_findBest 20 [.ref 160, .int (nI m), .retAddr 0, .retAddr 0, .retAddr 0, .retAddr 0] [] σ _
    have hpe := hX.1.1.1.pe
    have h1024 : 2 ^ s_n S 1 ≤ 1024 := Nat.pow_le_pow_right (by decide) hpe
    have alt : M.2.2.2 < 2 ^ s_n S 1 := q_lt_bits hX.act
    obtain ⟨act, ea⟩ : ∃ act, act = M.2.2.2 := ⟨_, rfl⟩
    have e16 : qx_mi σ 160 16 = nI act := by rw [ea]; exact hX.2.2.1.2.2.2
    rw [← ea] at alt
    have hl1 : act / 2 ^ m &&& 1 ≤ 1 := Nat.and_le_right
    have hl2 : ¬ act / 2 ^ m &&& 1 = 0 → M.2.2.2.testBit m = true := fun h => by rw [← ea]; exact q_tb.mp (by omega)
    have hl3 : act / 2 ^ m &&& 1 = 0 → M.2.2.2.testBit m = false := fun h => by rw [← ea]; exact Bool.eq_false_iff.mpr (fun w => by have := q_tb.mpr w; omega)
    have k130 : ∀ s, bX s S rf ly e k rg M → q_KB s S rf ly k M.2.2.2 m → ql [(172, none)] σ0 s → qx_K G qc_T 1 RX3 YX3_findBest 130 [.ref 160, .int (nI m), .retAddr 0, .retAddr 0, .retAddr 0, .retAddr 0] [] s (fun r s => r = none ∧ ql [(172, none)] σ0 s ∧ bX s S rf ly e k rg M ∧ q_KB s S rf ly k M.2.2.2 0) := by
      intro s i1 i2 f1
      refine qy_wp_ok (c := CX3_findBest) (cuts := [20]) vX3_findBest wX3_findBest 2000 130 _ _ _ ?_
      refine Exists.intro (q_d1x m) (And.intro (q_d1x_s (by omega)) ?_)
      exact ih _ (by omega) i1 i2 f1
    obtain ⟨R, eR⟩ : ∃ R, R = act / 2 ^ (m + 1) * 2 ^ (m + 1) := ⟨_, rfl⟩
    have Rb : ∀ i, R.testBit i = true ↔ M.2.2.2.testBit i = true ∧ m < i := fun i => by
      rw [eR, q_rest, ea, Bool.and_eq_true, decide_eq_true_iff]
      exact ⟨fun h => ⟨h.2, h.1⟩, fun h => ⟨h.2, h.1⟩⟩
    have Rl : R ≤ act := by rw [eR]; exact Nat.div_mul_le_self _ _
    have go0 : M.2.2.2.testBit m = true → qx_K G qc_T 1 RX3 YX3_findBest 74 [.ref 160, .int (nI m), .int (nI R), .int (nI 0), .int (nI R), .int (nI 0)] [] σ (fun r s => r = none ∧ ql [(172, none)] σ0 s ∧ bX s S rf ly e k rg M ∧ q_KB s S rf ly k M.2.2.2 0) := fun hb => l_fb2 hb Rb k130 R 0 σ (by omega) (fun i hi => hi) hX hK hf (fun t ht h2 => absurd (Nat.le_of_testBit ht) (by omega))
    have go1 : M.2.2.2.testBit m = true → R = q_wo act (2 ^ m) → qx_K G qc_T 1 RX3 YX3_findBest 74 [.ref 160, .int (nI m), .int (nI R), .int (nI 1), .int (nI R), .int (nI 0)] [] σ (fun r s => r = none ∧ ql [(172, none)] σ0 s ∧ bX s S rf ly e k rg M ∧ q_KB s S rf ly k M.2.2.2 0) := by
      intro hb hw
      obtain ⟨s1024, v, v1, v2⟩ := q_fb1 (G := G) hX hb (fun i hi => (Rb i).mp hi) hK
      have eact : R ||| 2 ^ m = M.2.2.2 := by
        rw [hw, ea]
        apply Nat.eq_of_testBit_eq
        intro i
        rw [Nat.testBit_or, q_wo_bit, q_bit1]
        by_cases y : m = i
        · rw [← y, hb, decide_eq_true rfl]; rfl
        · rw [decide_eq_false y, Bool.not_false, Bool.and_true, Bool.or_false]
      have aft : ∀ s, s = qx_wi σ 172 (R ||| 2 ^ m) v → bX s S rf ly e k rg M ∧ q_KB s S rf ly k M.2.2.2 m ∧ ql [(172, none)] σ0 s := by
        intro s es
        have f := qn_wi es
        refine ⟨hX.fr f, fun t ht h2 => ?_, hf.tr f⟩
        by_cases w : t.testBit m = true
        · have tl : t < 2 ^ s_n S 1 := q_lt_bits (fun i hi => hX.act i (ht i hi).1)
          have a1 := q_lo_min (s := t) (by omega) w
          have a2 := q_lo_min (s := M.2.2.2) (by rw [← ea]; omega) hb
          have b1 := (ht _ (q_lo_ok a1.2 (by omega)).1).2
          have b2 := (q_lo_ok a2.2 (by rw [← ea]; omega)).1
          have b3 : m ≤ q_lo M.2.2.2 := by
            have k := (Rb (q_lo M.2.2.2))
            rw [hw, q_wo_bit, q_bit1, ea, b2, Bool.true_and] at k
            by_cases y : m = q_lo M.2.2.2
            · omega
            · have := (k.mp (by rw [decide_eq_false y]; rfl)).2
              omega
          have a11 := a1.1
          have a21 := a2.1
          have et : t = M.2.2.2 := by
            rcases h2 with y | y | y
            · rw [y] at w; rw [Nat.zero_testBit] at w; cases w
            · omega
            · exact y
          rw [et, ← eact, show qx_mi s 172 (R ||| 2 ^ m) = v from qn_eq es]
          exact v1
        · rw [show qx_mi s 172 t = qx_mi σ 172 t from qn_ne es (Or.inr (fun z => w (by rw [z, Nat.testBit_or, q_bit1, decide_eq_true rfl, Bool.or_true])))]
          exact hK t (fun i hi => ⟨(ht i hi).1, by
            have := (ht i hi).2
            have : i ≠ m := fun y => w (by rw [← y]; exact hi)
            omega⟩) h2
      obtain ⟨st, est⟩ : ∃ st, st = R ||| 2 ^ m := ⟨_, rfl⟩
      rw [← est] at s1024 v2
      refine qy_wp_ok (c := CX3_findBest) (cuts := [74, 130]) vX3_findBest wX3_findBest 2000 74 _ _ _ ?_
      refine Exists.intro (nI 1024) (And.intro rfl ?_)
      refine And.intro (fun h79 => ?_) (fun h79 => ?_)
      · skip
        exact absurd h79 (by decide)
      · skip
        refine And.intro rfl (Exists.intro 172 (And.intro rfl ?_))
        refine Exists.intro (nI 1) (And.intro rfl ?_)
        refine Exists.intro (nI (2 ^ m)) (And.intro (nI_sh1 (by omega)) ?_)
        refine Exists.intro (nI st) (And.intro ((nI_or _ _).trans (congrArg nI est.symm)) ?_)
        refine Exists.intro (nI 1) (And.intro rfl ?_)
        refine Exists.intro (nI (2 ^ m)) (And.intro (nI_sh1 (by omega)) ?_)
        refine Exists.intro (nI st) (And.intro ((nI_or _ _).trans (congrArg nI est.symm)) ?_)
        refine And.intro rfl (Exists.intro _ (And.intro (by decide) (qx_M_mono (v2) ?_)))
        rintro _ _ ⟨rfl, rfl⟩
        obtain ⟨σ1, eσ1⟩ : ∃ zs, zs = (qx_wi σ 172 st v) := ⟨_, rfl⟩
        have fσ1 := qn_wi eσ1
        refine Exists.intro (st) (Exists.intro σ1 (And.intro rfl (And.intro ⟨1024, rfl, by omega, by decide⟩ (And.intro eσ1.symm ?_))))
        rw [est] at eσ1
        refine And.intro (fun h105 => ?_) (fun h105 => ?_)
        · skip
          refine qx_K_le (ls := [.ref 160, .int (nI m), .retAddr 0, .retAddr 0, .retAddr 0, .retAddr 0]) ⟨Or.inr rfl, Or.inr rfl, Or.inl rfl, Or.inl rfl, Or.inl rfl, Or.inl rfl, trivial⟩ ?_
          exact k130 _ (aft _ eσ1).1 (aft _ eσ1).2.1 (aft _ eσ1).2.2
        · skip
          exact absurd h105 (by decide)
    refine qy_wp_ok (c := CX3_findBest) (cuts := [74, 130]) vX3_findBest wX3_findBest 2000 20 _ _ _ ?_
    refine And.intro (fun h21 => ?_) (fun h21 => ?_)
    · skip
      have h21 := nI_ltT (a := m) (b := 0) (by omega) (by decide) h21
      exact absurd h21 (by omega)
    · skip
      have h21 := nI_ltF (a := m) (b := 0) (by omega) (by decide) h21
      refine And.intro rfl (Exists.intro 16 (Exists.intro (nI act) (And.intro rfl (And.intro e16 ?_))))
      refine Exists.intro (nI (act / 2 ^ m)) (And.intro (nI_shr (by omega) (by omega)) ?_)
      refine Exists.intro (nI 1) (And.intro rfl ?_)
      refine Exists.intro (nI ((act / 2 ^ m) &&& 1)) (And.intro (nI_and _ _) ?_)
      refine And.intro (fun h32 => ?_) (fun h32 => ?_)
      · skip
        have h32 := nI_eqT (a := (act / 2 ^ m) &&& 1) (b := 0) (by omega) (by decide) h32
        exact k130 _ hX (fun t ht h2 => hK t (fun i hi => ⟨(ht i hi).1, Nat.lt_of_le_of_ne (ht i hi).2 (fun y => by have := (ht i hi).1; rw [← y, hl3 h32] at this; cases this)⟩) h2) hf
      · skip
        have h32 := nI_neT (a := (act / 2 ^ m) &&& 1) (b := 0) (by omega) (by decide) h32
        refine And.intro rfl (Exists.intro 16 (Exists.intro (nI act) (And.intro rfl (And.intro e16 ?_))))
        refine Exists.intro (nI 1) (And.intro rfl ?_)
        refine Exists.intro (nI (m + 1)) (And.intro (nI_add _ _) ?_)
        refine Exists.intro (nI (act / 2 ^ (m + 1))) (And.intro (nI_shr (by omega) (by omega)) ?_)
        refine Exists.intro (nI 1) (And.intro rfl ?_)
        refine Exists.intro (nI (m + 1)) (And.intro (nI_add _ _) ?_)
        refine Exists.intro (nI R) (And.intro ((nI_shl ⟨by rw [← eR]; omega, by omega⟩).trans (congrArg nI eR.symm)) ?_)
        refine And.intro rfl (Exists.intro 16 (Exists.intro (nI act) (And.intro rfl (And.intro e16 ?_))))
        refine Exists.intro (nI 1) (And.intro rfl ?_)
        refine Exists.intro (nI (2 ^ m)) (And.intro (nI_sh1 (by omega)) ?_)
        refine Exists.intro ((-1)) (And.intro (by decide) ?_)
        refine Exists.intro ((nI (2 ^ m)) ^^^ (-1)) (And.intro rfl ?_)
        refine Exists.intro (nI (q_wo act (2 ^ m))) (And.intro (nI_andn _ _ (by omega)) ?_)
        refine And.intro (fun h59 => ?_) (fun h59 => ?_)
        · skip
          have h59 := nI_neT (a := R) (b := q_wo act (2 ^ m)) (by omega) (by have := q_wo_le act (2 ^ m); omega) h59
          refine Exists.intro (nI 0) (And.intro rfl ?_)
          refine Exists.intro (nI 0) (And.intro rfl ?_)
          first | exact go0 (hl2 h32) | exact go1 (hl2 h32) h59
        · skip
          have h59 := nI_eqT (a := R) (b := q_wo act (2 ^ m)) (by omega) (by have := q_wo_le act (2 ^ m); omega) h59
          refine Exists.intro (nI 1) (And.intro rfl ?_)
          refine Exists.intro (nI 0) (And.intro rfl ?_)
          first | exact go1 (hl2 h32) h59 | exact go0 (hl2 h32)
theorem c_findBest {G : qx_G} {σ : qx_S} {S : qS} {rf : Option qR} {ly : Option (Nat × Nat)} {e k : Nat} {rg : Nat → Nat} {M : q_Mt} (hX : bX σ S rf ly e k rg M) : qx_M G qc_T 1 YX3_findBest [.ref 160] σ (fun r s => r = none ∧ ql [(172, none)] σ s ∧ bX s S rf ly e k rg M ∧ q_KB s S rf ly k M.2.2.2 0) := by
  have hpe := hX.1.1.1.pe
  have e5 := hX.1.1.2.1.1.2.1.trans hX.1.1.1.1.2.1.2.1.1
  have k0 : ∀ s, s = qx_wi σ 172 0 (nI 0) → q_KB s S rf ly k M.2.2.2 (s_n S 1) := by
    intro s es t ht _
    have : t = 0 := by
      apply Nat.eq_of_testBit_eq
      intro i
      rw [Nat.zero_testBit]
      refine Bool.eq_false_iff.mpr (fun w => ?_)
      have h1 := ht i w
      have := hX.act i h1.1
      omega
    rw [this, show qx_mi s 172 0 = nI 0 from qn_eq es]
    unfold q_F
    rw [q_Ds_0]
    decide
  have go : ∀ s, s = qx_wi σ 172 0 (nI 0) → qx_K G qc_T 1 RX3 YX3_findBest 20 [.ref 160, .int (nI (s_n S 1) - nI 1), .retAddr 0, .retAddr 0, .retAddr 0, .retAddr 0] [] s (fun r s => r = none ∧ ql [(172, none)] σ s ∧ bX s S rf ly e k rg M ∧ q_KB s S rf ly k M.2.2.2 0) := by
    intro s es
    have e1 : nI (s_n S 1) - nI 1 = q_d1x (s_n S 1) := by
      rw [← q_d1x_s (by omega), Int32.sub_eq_add_neg]
      rfl
    rw [e1]
    exact l_fb1 (s_n S 1) s (Nat.le_refl _) (hX.fr (qn_wi es)) (k0 s es) (qn_wi es)
  refine qx_M_in rfl (Nat.le_of_ble_eq_true rfl) ?_
  refine qy_wp_ok (c := CX3_findBest) (cuts := [20]) vX3_findBest wX3_findBest 2000 0 _ _ _ ?_
  refine And.intro rfl (Exists.intro 172 (And.intro rfl ?_))
  refine Exists.intro (nI 0) (And.intro rfl ?_)
  refine Exists.intro (nI 0) (And.intro rfl ?_)
  obtain ⟨σ1, eσ1⟩ : ∃ zs, zs = (qx_wi σ 172 0 (nI 0)) := ⟨_, rfl⟩
  have fσ1 := qn_wi eσ1
  refine Exists.intro (0) (Exists.intro σ1 (And.intro rfl (And.intro ⟨1024, rfl, by decide, by decide⟩ (And.intro eσ1.symm ?_))))
  refine And.intro rfl (Exists.intro 156 (And.intro rfl ?_))
  refine And.intro rfl (Exists.intro 16 (And.intro rfl ?_))
  refine And.intro rfl (Exists.intro 5 (Exists.intro (nI (s_n S 1)) (And.intro rfl (And.intro ((fσ1.i _ _ rfl).trans (e5)) ?_))))
  refine Exists.intro (nI 1) (And.intro rfl ?_)
  refine Exists.intro ((nI (s_n S 1)) - (nI 1)) (And.intro rfl ?_)
  exact go _ eσ1

