/-! THE REFERENCE: done, one two from a situation -/
def q_sy (e : q_E) (w : Nat) : q_E := (e.1, e.2.1, e.2.2.1, e.2.2.2.1, e.2.2.2.2.1, w)
/-- ways of s grow by those of k, if s is one level behind -/
def q_wu (B : q_B) (k s : Nat) : q_B := if q_lv B s = q_lv B k + 1 then (B.1, va_up B.2 s (q_sy (B.2 s) (if 2 < q_wy B s + q_wy B k then 2 else q_wy B s + q_wy B k))) else B
def q_ld (S : qS) (rf : Option qR) (k a b : Nat) (B : q_B) : q_B × Option Int32 :=
  if q_cs S rf (q_co B k) a b = false then (B, none)
  else match q_fi B (q_sw (s_n S 1) (q_co B k) a b) with
    | some s => (q_wu B k s, none)
    | none => if B.1 = 2000 then (B, some 0) else (q_wu (q_ap B (q_sw (s_n S 1) (q_co B k) a b, k, 0, 0, q_lv B k + 1, 0)) k B.1, none)
theorem q_ld_no {S : qS} {rf : Option qR} {k a b : Nat} {B : q_B} (h : q_cs S rf (q_co B k) a b = false) : q_ld S rf k a b B = (B, none) := if_pos h
theorem q_ld_old {S : qS} {rf : Option qR} {k a b s : Nat} {B : q_B} (h : q_cs S rf (q_co B k) a b = true) (hf : q_fi B (q_sw (s_n S 1) (q_co B k) a b) = some s) : q_ld S rf k a b B = (q_wu B k s, none) := by
  unfold q_ld
  rw [if_neg (by rw [h]; decide), hf]
theorem q_ld_full {S : qS} {rf : Option qR} {k a b : Nat} {B : q_B} (h : q_cs S rf (q_co B k) a b = true) (hf : q_fi B (q_sw (s_n S 1) (q_co B k) a b) = none) (hs : B.1 = 2000) : q_ld S rf k a b B = (B, some 0) := by
  unfold q_ld
  rw [if_neg (by rw [h]; decide), hf]
  exact if_pos hs
theorem q_ld_new {S : qS} {rf : Option qR} {k a b : Nat} {B : q_B} (h : q_cs S rf (q_co B k) a b = true) (hf : q_fi B (q_sw (s_n S 1) (q_co B k) a b) = none) (hs : B.1 ≠ 2000) : q_ld S rf k a b B = (q_wu (q_ap B (q_sw (s_n S 1) (q_co B k) a b, k, 0, 0, q_lv B k + 1, 0)) k B.1, none) := by
  unfold q_ld
  rw [if_neg (by rw [h]; decide), hf]
  exact if_neg hs
theorem q_sy_e {B : q_B} {s w i : Nat} : (va_up B.2 s (q_sy (B.2 s) w) i) = if i = s then q_sy (B.2 s) w else B.2 i := by
  by_cases h : i = s
  · rw [h, va_up_self, if_pos rfl]
  · rw [va_up_ne _ _ h, if_neg h]
theorem q_wu_1 (B : q_B) (k s : Nat) : (q_wu B k s).1 = B.1 := by
  unfold q_wu
  split <;> rfl
/-- all but ways stays -/
theorem q_wu_e (B : q_B) (k s i : Nat) : ((q_wu B k s).2 i).1 = (B.2 i).1 ∧ ((q_wu B k s).2 i).2.1 = (B.2 i).2.1 ∧ ((q_wu B k s).2 i).2.2.1 = (B.2 i).2.2.1 ∧ ((q_wu B k s).2 i).2.2.2.1 = (B.2 i).2.2.2.1 ∧ ((q_wu B k s).2 i).2.2.2.2.1 = (B.2 i).2.2.2.2.1 := by
  unfold q_wu
  split
  · show (va_up B.2 s _ i).1 = _ ∧ (va_up B.2 s _ i).2.1 = _ ∧ (va_up B.2 s _ i).2.2.1 = _ ∧ (va_up B.2 s _ i).2.2.2.1 = _ ∧ (va_up B.2 s _ i).2.2.2.2.1 = _
    rw [q_sy_e]
    split
    · next e => rw [e]; exact ⟨rfl, rfl, rfl, rfl, rfl⟩
    · exact ⟨rfl, rfl, rfl, rfl, rfl⟩
  · exact ⟨rfl, rfl, rfl, rfl, rfl⟩
theorem q_wu_co (B : q_B) (k s : Nat) : q_co (q_wu B k s) = q_co B := funext fun i => (q_wu_e B k s i).1
theorem q_wu_w2 {B : q_B} {k s : Nat} (h : ∀ i, i < B.1 → q_wy B i ≤ 2) : ∀ i, i < (q_wu B k s).1 → q_wy (q_wu B k s) i ≤ 2 := by
  intro i hi
  rw [q_wu_1] at hi
  have hh := h i hi
  unfold q_wu
  split
  · show (va_up B.2 s _ i).2.2.2.2.2 ≤ 2
    rw [q_sy_e]
    split
    · show (if 2 < q_wy B s + q_wy B k then 2 else q_wy B s + q_wy B k) ≤ 2
      split <;> omega
    · exact hh
  · exact hh
theorem mS.wy {σ s' : qx_S} {B : q_B} {s w : Nat} (h : mS σ B) (hs : s < B.1) (e : s' = qx_wi σ 223 s (nI w)) : mS s' (B.1, va_up B.2 s (q_sy (B.2 s) w)) := by
  obtain ⟨a, b, c, sl, d, f⟩ := h
  have fr := qn_wi e
  refine ⟨a, (fr.i 197 45 rfl).trans b, fun i hi => ?_, sl, ?_, fun j hj => (fr.i 224 j rfl).trans (f j hj)⟩
  · obtain ⟨c1, c2, c3, c4, c5, c6, c7⟩ := c i hi
    unfold q_co q_fr1 q_ba q_bb q_lv q_wy
    by_cases z : i = s
    · subst z
      rw [show (B.1, va_up B.2 i (q_sy (B.2 i) w)).2 i = q_sy (B.2 i) w from va_up_self _ _ _]
      exact ⟨(fr.i 219 i rfl).trans c1, c2, (fr.i 220 i rfl).trans c3, (fr.i 221 i rfl).trans c4, (fr.i 222 i rfl).trans c5, c6, qn_eq e⟩
    · rw [show (B.1, va_up B.2 s (q_sy (B.2 s) w)).2 i = B.2 i from va_up_ne _ _ z]
      exact ⟨(fr.i 219 i rfl).trans c1, c2, (fr.i 220 i rfl).trans c3, (fr.i 221 i rfl).trans c4, (fr.i 222 i rfl).trans c5, c6, (qn_ne e (Or.inr z)).trans c7⟩
  · have e2 : q_co (B.1, va_up B.2 s (q_sy (B.2 s) w)) = q_co B := funext fun i => by
      show (va_up B.2 s (q_sy (B.2 s) w) i).1 = (B.2 i).1
      rw [q_sy_e]
      split
      · next z => rw [z]; rfl
      · rfl
    rw [e2]
    exact d
theorem l_ldD {G : qx_G} {Φ : qx_F} {B : q_B} {σ : qx_S} {k a b s : Nat} (hB : mS σ B) (hw : ∀ i, i < B.1 → q_wy B i ≤ 2) (hk : k < B.1) (hs : s < B.1)
    (hc : ∀ s', ql [(223, none)] σ s' → mS s' (q_wu B k s) → qx_K G qc_T 7 RX12 YX12_leads 167 [.ref 197, .int (nI k), .int (nI a), .int (nI b), .retAddr 0, .retAddr 0] [] s' Φ) :
    qx_K G qc_T 7 RX12 YX12_leads 106 [.ref 197, .int (nI k), .int (nI a), .int (nI b), .retAddr 0, .int (nI s)] [] σ Φ := by
  obtain ⟨-, -, -, -, c5, c6, c7⟩ := hB.2.2.1 s hs
  obtain ⟨-, -, -, -, d5, d6, d7⟩ := hB.2.2.1 k hk
  have hle := hB.1
  have w1 := hw s hs
  have w2 := hw k hk
  refine qy_wp_ok (c := CX12_leads) (cuts := [106, 167]) vX12_leads wX12_leads 2000 106 _ _ _ ?_
  refine And.intro rfl (Exists.intro 222 (And.intro rfl ?_))
  refine Exists.intro (s) (Exists.intro (nI (q_lv B s)) (And.intro rfl (And.intro ⟨2001, rfl, by omega, by decide⟩ (And.intro c5 ?_))))
  refine And.intro rfl (Exists.intro 222 (And.intro rfl ?_))
  refine Exists.intro (k) (Exists.intro (nI (q_lv B k)) (And.intro rfl (And.intro ⟨2001, rfl, by omega, by decide⟩ (And.intro d5 ?_))))
  refine Exists.intro (nI 1) (And.intro rfl ?_)
  refine Exists.intro (nI (q_lv B k + 1)) (And.intro (nI_add _ _) ?_)
  refine And.intro (fun h121 => ?_) (fun h121 => ?_)
  · skip
    have h121 := nI_neT (a := q_lv B s) (b := q_lv B k + 1) (by omega) (by omega) h121
    refine qx_K_le (ls := [.ref 197, .int (nI k), .int (nI a), .int (nI b), .retAddr 0, .retAddr 0]) ⟨Or.inr rfl, Or.inr rfl, Or.inr rfl, Or.inr rfl, Or.inr rfl, Or.inl rfl, trivial⟩ ?_
    have e : q_wu B k s = B := if_neg h121
    rw [← e] at hB
    exact hc _ qf.rf hB
  · skip
    have h121 := nI_eqT (a := q_lv B s) (b := q_lv B k + 1) (by omega) (by omega) h121
    refine And.intro rfl (Exists.intro 223 (And.intro rfl ?_))
    refine And.intro rfl (Exists.intro 223 (And.intro rfl ?_))
    refine Exists.intro (s) (Exists.intro (nI (q_wy B s)) (And.intro rfl (And.intro ⟨2001, rfl, by omega, by decide⟩ (And.intro c7 ?_))))
    refine And.intro rfl (Exists.intro 223 (And.intro rfl ?_))
    refine Exists.intro (k) (Exists.intro (nI (q_wy B k)) (And.intro rfl (And.intro ⟨2001, rfl, by omega, by decide⟩ (And.intro d7 ?_))))
    refine Exists.intro (nI (q_wy B s + (q_wy B k))) (And.intro (nI_add _ _) ?_)
    refine Exists.intro (nI 2) (And.intro rfl ?_)
    refine And.intro (fun h145 => ?_) (fun h145 => ?_)
    · skip
      have h145 := nI_leT (a := q_wy B s + (q_wy B k)) (b := 2) (by omega) (by decide) h145
      refine And.intro rfl (Exists.intro 223 (And.intro rfl ?_))
      refine Exists.intro (s) (Exists.intro (nI (q_wy B s)) (And.intro rfl (And.intro ⟨2001, rfl, by omega, by decide⟩ (And.intro c7 ?_))))
      refine And.intro rfl (Exists.intro 223 (And.intro rfl ?_))
      refine Exists.intro (k) (Exists.intro (nI (q_wy B k)) (And.intro rfl (And.intro ⟨2001, rfl, by omega, by decide⟩ (And.intro d7 ?_))))
      refine Exists.intro (nI (q_wy B s + (q_wy B k))) (And.intro (nI_add _ _) ?_)
      obtain ⟨σ1, eσ1⟩ : ∃ zs, zs = (qx_wi σ 223 s (nI (q_wy B s + (q_wy B k)))) := ⟨_, rfl⟩
      have fσ1 := qn_wi eσ1
      refine Exists.intro (s) (Exists.intro σ1 (And.intro rfl (And.intro ⟨2001, rfl, by omega, by decide⟩ (And.intro eσ1.symm ?_))))
      refine qx_K_le (ls := [.ref 197, .int (nI k), .int (nI a), .int (nI b), .retAddr 0, .retAddr 0]) ⟨Or.inr rfl, Or.inr rfl, Or.inr rfl, Or.inr rfl, Or.inr rfl, Or.inl rfl, trivial⟩ ?_
      have e : q_wu B k s = (B.1, va_up B.2 s (q_sy (B.2 s) (q_wy B s + q_wy B k))) := by
        unfold q_wu
        rw [if_pos h121, if_neg (by omega)]
      have y := hB.wy hs eσ1
      rw [← e] at y
      exact hc _ fσ1 y
    · skip
      have h145 := nI_leF (a := q_wy B s + (q_wy B k)) (b := 2) (by omega) (by decide) h145
      refine Exists.intro (nI 2) (And.intro rfl ?_)
      obtain ⟨σ1, eσ1⟩ : ∃ zs, zs = (qx_wi σ 223 s (nI 2)) := ⟨_, rfl⟩
      have fσ1 := qn_wi eσ1
      refine Exists.intro (s) (Exists.intro σ1 (And.intro rfl (And.intro ⟨2001, rfl, by omega, by decide⟩ (And.intro eσ1.symm ?_))))
      refine qx_K_le (ls := [.ref 197, .int (nI k), .int (nI a), .int (nI b), .retAddr 0, .retAddr 0]) ⟨Or.inr rfl, Or.inr rfl, Or.inr rfl, Or.inr rfl, Or.inr rfl, Or.inl rfl, trivial⟩ ?_
      have e : q_wu B k s = (B.1, va_up B.2 s (q_sy (B.2 s) 2)) := by
        unfold q_wu
        rw [if_pos h121, if_pos (by omega)]
      have y := hB.wy hs eσ1
      rw [← e] at y
      exact hc _ fσ1 y

