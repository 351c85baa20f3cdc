/-! THE CLASS: likingOf -/
theorem q_hold_mm (L : Int64) : (if (if L < lN 999 then L else lN 999) < (-999) then (-999 : Int64) else (if L < lN 999 then L else lN 999)).toInt32 = q_hold L := by
  unfold q_hold
  have e9 : (lN 999).toInt = 999 := by decide
  have m9 : (-999 : Int64).toInt = -999 := by decide
  by_cases h1 : L < -999
  · have k1 := Int64.lt_iff_toInt_lt.mp h1
    have h2 : L < lN 999 := Int64.lt_iff_toInt_lt.mpr (by omega)
    rw [if_pos h2, if_pos h1, if_pos h1]
    decide
  · have k1 : ¬ L.toInt < (-999 : Int64).toInt := fun z => h1 (Int64.lt_iff_toInt_lt.mpr z)
    rw [if_neg h1]
    by_cases h3 : lN 999 < L
    · have k3 := Int64.lt_iff_toInt_lt.mp h3
      have h2 : ¬ L < lN 999 := fun z => by have := Int64.lt_iff_toInt_lt.mp z; omega
      rw [if_neg h2, if_neg (by decide), if_pos h3]
      decide
    · rw [if_neg h3]
      by_cases h2 : L < lN 999
      · rw [if_pos h2, if_neg h1]
      · have k2 : ¬ L.toInt < (lN 999).toInt := fun z => h2 (Int64.lt_iff_toInt_lt.mpr z)
        have k3 : ¬ (lN 999).toInt < L.toInt := fun z => h3 (Int64.lt_iff_toInt_lt.mpr z)
        have : L = lN 999 := Int64.toInt_inj.mp (by omega)
        rw [if_neg h2, if_neg (by decide), this]
theorem nI_sub9 {u : Nat} (hu : u ≤ 1998) : (nI u - nI 999).toInt = (u : Int) - 999 := by
  rw [Int32.toInt_sub, nI_toInt (by omega), nI_toInt (by decide)]
  exact Int.bmod_eq_of_le (by omega) (by omega)
theorem q_hold_u (x : Int64) : ∃ u, u ≤ 1998 ∧ q_hold x = nI u - nI 999 := by
  unfold q_hold
  have e9 : (lN 999).toInt = 999 := by decide
  have m9 : (-999 : Int64).toInt = -999 := by decide
  by_cases h1 : x < -999
  · rw [if_pos h1]
    exact ⟨0, by omega, by decide⟩
  · have k1 : ¬ x.toInt < (-999 : Int64).toInt := fun z => h1 (Int64.lt_iff_toInt_lt.mpr z)
    rw [if_neg h1]
    by_cases h3 : lN 999 < x
    · rw [if_pos h3]
      exact ⟨1998, by omega, by decide⟩
    · have k3 : ¬ (lN 999).toInt < x.toInt := fun z => h3 (Int64.lt_iff_toInt_lt.mpr z)
      rw [if_neg h3]
      obtain ⟨u, hu⟩ : ∃ u : Nat, (u : Int) = x.toInt + 999 := ⟨(x.toInt + 999).toNat, by omega⟩
      refine ⟨u, by omega, Int32.toInt_inj.mp ?_⟩
      rw [nI_sub9 (by omega), Int64.toInt_toInt32, Int.bmod_eq_of_le (by omega) (by omega)]
      omega
theorem q_hold_99 {v : Nat} (hv : v ≤ 99) : q_hold (nI v).toInt64 = nI v := by
  unfold q_hold
  have e : (nI v).toInt64.toInt = v := by rw [Int32.toInt_toInt64, nI_toInt (by omega)]
  have e9 : (lN 999).toInt = 999 := by decide
  have m9 : (-999 : Int64).toInt = -999 := by decide
  rw [if_neg (fun z => by have := Int64.lt_iff_toInt_lt.mp z; omega), if_neg (fun z => by have := Int64.lt_iff_toInt_lt.mp z; omega)]
  exact Int32.toInt32_toInt64 _
theorem nI_u99 {v : Nat} (_ : v ≤ 99) : nI v = nI (v + 999) - nI 999 := by rw [nI_sub (by omega), Nat.add_sub_cancel]
theorem q_lkc_u (R : qR) (w : Nat → Int64) {z : Int32} (hz : ∃ u, u ≤ 1998 ∧ z = nI u - nI 999) : ∀ n c, ∃ u, u ≤ 1998 ∧ q_lkc R w z n c = nI u - nI 999
  | 0, _ => hz
  | n + 1, c => by
    unfold q_lkc
    split
    · exact q_hold_u _
    · exact q_lkc_u R w hz n (c + 1)
theorem q_lk_u {S : qS} (g : gL S) (rf : Option qR) {p q : Nat} (a : Nat) (hp : p < s_n S 1) (hq : q < 8) : ∃ u, u ≤ 1998 ∧ q_lk S rf p a q = nI u - nI 999 := by
  obtain ⟨v, hv, e⟩ := (g.2.2 p hp).1 q hq
  have hz : ∃ u, u ≤ 1998 ∧ S (60 + 8 * p + q) = nI u - nI 999 := ⟨v + 999, by omega, e.trans (nI_u99 hv)⟩
  cases rf with
  | none => exact hz
  | some R => exact q_lkc_u R _ hz _ _
/-- what is kept of likings -/
def kC (σ : qx_S) (e pe : Nat) (lk : Nat → Nat → Nat → Int32) : Prop := ∀ p a q, p < 10 → a < 8 → q < 8 → ∃ v, qx_mi σ 157 ((p * 8 + a) * 8 + q) = nI v ∧ v / 2048 ≤ e ∧ (p < pe → v / 2048 = e → nI (v % 2048) - nI 999 = lk p a q)
def cK (σ : qx_S) (e : Nat) (kp : Bool) (pe : Nat) (lk : Nat → Nat → Nat → Int32) : Prop := qx_mi σ 156 8 = nI e ∧ (1 ≤ e ∧ e ≤ 1000) ∧ qx_mi σ 156 9 = bI kp ∧ kC σ e pe lk
theorem kC.fr {σ s : qx_S} {e pe : Nat} {lk : Nat → Nat → Nat → Int32} {l : List (Nat × Option Nat)} (h : kC σ e pe lk) (f : ql l σ s) (h7 : ∀ j, pL l 157 j = false) : kC s e pe lk := by
  intro p a q hp ha hq
  obtain ⟨v, h1, h2⟩ := h p a q hp ha hq
  exact ⟨v, (f.i _ _ (h7 _)).trans h1, h2⟩
theorem cK.fr {σ s : qx_S} {e pe : Nat} {kp : Bool} {lk : Nat → Nat → Nat → Int32} {l : List (Nat × Option Nat)} (h : cK σ e kp pe lk) (f : ql l σ s) (h7 : ∀ j, pL l 157 j = false) (h8 : pL l 156 8 = false) (h9 : pL l 156 9 = false) : cK s e kp pe lk :=
  ⟨(f.i _ _ h8).trans h.1, h.2.1, (f.i _ _ h9).trans h.2.2.1, h.2.2.2.fr f h7⟩
abbrev kLw : List (Nat × Option Nat) := [(157, none), (158, none), (159, none)]
abbrev kL2 : List (Nat × Option Nat) := [(158, none), (159, none)]
/-- the liking is held, and kept -/
theorem l_likT {G : qx_G} {σ0 σ : qx_S} {S : qS} {rf : Option qR} {e : Nat} {kp : Bool} {lk : Nat → Nat → Nat → Int32} {p a q : Nat} (g : gL S) (hp : p < s_n S 1) (ha : a < 8) (hq : q < 8) (hf : ql kL2 σ0 σ) (hK : cK σ0 e kp (s_n S 1) lk) (hk : kp = true → ∀ p a q, p < s_n S 1 → a < 8 → q < 8 → lk p a q = q_lk S rf p a q) {L : Int64} (hL : q_hold L = q_lk S rf p a q) : qx_K G qc_T 2 RX2 YX2_likingOf 193 [.ref 156, .retAddr 0, .retAddr 0, .retAddr 0, .int (nI ((p * 8 + a) * 8 + q)), .long L, .retAddr 0, .retAddr 0, .retAddr 0, .retAddr 0] [] σ (fun r s => r = some (.int (q_lk S rf p a q)) ∧ ql kLw σ0 s ∧ cK s e kp (s_n S 1) lk) := by
  have hpe := g.1.2.1.2
  obtain ⟨u, hu, eu⟩ := q_lk_u g rf a hp hq
  have hK1 := hK.fr hf (fun _ => rfl) rfl rfl
  have he := hK.2.1
  have hv : nI (e * 2 ^ 11) + q_lk S rf p a q + nI 999 = nI (e * 2048 + u) := by
    rw [eu, Int32.add_assoc, Int32.sub_add_cancel, nI_add]
  refine qy_wp_ok (c := CX2_likingOf) (cuts := []) vX2_likingOf wX2_likingOf 2000 193 _ _ _ ?_
  refine Exists.intro ((-999)) (And.intro (by decide) ?_)
  refine Exists.intro (lN 999) (And.intro (by decide) ?_)
  refine Exists.intro (q_lk S rf p a q) (And.intro ((q_hold_mm L).trans hL) ?_)
  refine And.intro rfl (Exists.intro 9 (Exists.intro (bI kp) (And.intro rfl (And.intro hK1.2.2.1 ?_))))
  refine And.intro (fun h214 => ?_) (fun h214 => ?_)
  · skip
    have h214 := bI_f h214
    first
      | exact ⟨rfl, hf.mn (by decide), hK1⟩
      | refine ⟨rfl, (hf.mn (by decide)).tr (fσ1.mn (by decide)), (qn_ne eσ1 (Or.inl (by decide))).trans hK1.1, he, (qn_ne eσ1 (Or.inl (by decide))).trans hK1.2.2.1, fun p' a' q' hp' ha' hq' => ?_⟩
        by_cases z : p' = p ∧ a' = a ∧ q' = q
        · obtain ⟨rfl, rfl, rfl⟩ := z
          refine ⟨e * 2048 + u, qn_eq eσ1, by omega, fun hp2 _ => ?_⟩
          rw [show (e * 2048 + u) % 2048 = u by omega, ← eu]
          exact (hk h214 p' a' q' hp2 ha' hq').symm
        · obtain ⟨v, w1, w2⟩ := hK1.2.2.2 p' a' q' hp' ha' hq'
          exact ⟨v, (qn_ne eσ1 (Or.inr (by omega))).trans w1, w2⟩
  · skip
    have h214 := bI_t h214
    refine And.intro rfl (Exists.intro 157 (And.intro rfl ?_))
    refine And.intro rfl (Exists.intro 8 (Exists.intro (nI e) (And.intro rfl (And.intro hK1.1 ?_))))
    refine Exists.intro (nI 11) (And.intro rfl ?_)
    refine Exists.intro (nI (e * 2 ^ 11)) (And.intro (nI_shl (by omega)) ?_)
    refine Exists.intro ((nI (e * 2 ^ 11)) + (q_lk S rf p a q)) (And.intro rfl ?_)
    refine Exists.intro (nI 999) (And.intro rfl ?_)
    refine Exists.intro (nI (e * 2048 + u)) (And.intro hv ?_)
    obtain ⟨σ1, eσ1⟩ : ∃ zs, zs = (qx_wi σ 157 ((p * 8 + a) * 8 + q) (nI (e * 2048 + u))) := ⟨_, rfl⟩
    have fσ1 := qn_wi eσ1
    refine Exists.intro ((p * 8 + a) * 8 + q) (Exists.intro σ1 (And.intro rfl (And.intro ⟨640, rfl, by omega, by decide⟩ (And.intro eσ1.symm ?_))))
    skip
    first
      | exact ⟨rfl, hf.mn (by decide), hK1⟩
      | refine ⟨rfl, (hf.mn (by decide)).tr (fσ1.mn (by decide)), (qn_ne eσ1 (Or.inl (by decide))).trans hK1.1, he, (qn_ne eσ1 (Or.inl (by decide))).trans hK1.2.2.1, fun p' a' q' hp' ha' hq' => ?_⟩
        by_cases z : p' = p ∧ a' = a ∧ q' = q
        · obtain ⟨rfl, rfl, rfl⟩ := z
          refine ⟨e * 2048 + u, qn_eq eσ1, by omega, fun hp2 _ => ?_⟩
          rw [show (e * 2048 + u) % 2048 = u by omega, ← eu]
          exact (hk h214 p' a' q' hp2 ha' hq').symm
        · obtain ⟨v, w1, w2⟩ := hK1.2.2.2 p' a' q' hp' ha' hq'
          exact ⟨v, (qn_ne eσ1 (Or.inr (by omega))).trans w1, w2⟩
theorem l_likL {G : qx_G} {σ0 : qx_S} {S : qS} {R : qR} {e : Nat} {kp : Bool} {lk : Nat → Nat → Nat → Int32} {p a q x : Nat} (g : gL S) (hR : q_wf R) (hp : p < s_n S 1) (ha : a < 8) (hq : q < 8) (hK : cK σ0 e kp (s_n S 1) lk) (hk : kp = true → ∀ p a q, p < s_n S 1 → a < 8 → q < 8 → lk p a q = q_lk S (some R) p a q) (hx : qx_mr σ0 156 7 = some x) (hx2 : 191 ≤ x) (hs : shR σ0 x) (hu : uR σ0 x R) : ∀ (m c : Nat) (σ : qx_S), m + c = q_nc R → ql kL2 σ0 σ → (∀ v, v < 12 → qx_mi σ 158 v = q_wd S p a q none 0 v) → q_lk S (some R) p a q = q_lkc R (q_w S p a q none 0) (S (60 + 8 * p + q)) m c →
   qx_K G qc_T 2 RX2 YX2_likingOf 90 [.ref 156, .retAddr 0, .retAddr 0, .retAddr 0, .int (nI ((p * 8 + a) * 8 + q)), .long (S (60 + 8 * p + q)).toInt64, .retAddr 0, .int (nI c), .retAddr 0, .retAddr 0] [] σ (fun r s => r = some (.int (q_lk S (some R) p a q)) ∧ ql kLw σ0 s ∧ cK s e kp (s_n S 1) lk) := by
  intro m
  have hw0 : ∀ σ, (∀ v, v < 12 → qx_mi σ 158 v = q_wd S p a q none 0 v) → ∀ v, v < 12 → (qx_mi σ 158 v).toInt64 = q_w S p a q none 0 v := fun σ h v hv => congrArg Int32.toInt64 (h v hv)
  have hnc := hR.1
  induction m with
  | zero =>
    intro c σ hc hf hw hv
    obtain rfl : c = q_nc R := by omega
    have u6 := (hf.i _ _ (kLow_ne rfl hx2)).trans hu.1
    have hL : q_hold (S (60 + 8 * p + q)).toInt64 = q_lk S (some R) p a q := by
      obtain ⟨v, hv9, ev⟩ := (g.2.2 p hp).1 q hq
      rw [hv, ev, q_hold_99 hv9]
      rfl
    refine qy_wp_ok (c := CX2_likingOf) (cuts := [90, 193]) vX2_likingOf wX2_likingOf 2000 90 _ _ _ ?_
    refine And.intro rfl (Exists.intro 7 (Exists.intro (some x) (And.intro rfl (And.intro ((hf.r _ _).trans hx) ?_))))
    refine And.intro rfl (Exists.intro 7 (Exists.intro (some x) (And.intro rfl (And.intro ((hf.r _ _).trans hx) ?_))))
    refine And.intro (by rw [show qx_sh qc_T _ x = _ from ((hf.s _).trans hs.2.1)]; rfl) (Exists.intro 6 (Exists.intro (nI (q_nc R)) (And.intro rfl (And.intro u6 ?_))))
    refine And.intro (fun h106 => ?_) (fun h106 => ?_)
    · skip
      have h106 := nI_leT (a := q_nc R) (b := q_nc R) (by omega) (by omega) h106
      refine qx_K_le (ls := [.ref 156, .retAddr 0, .retAddr 0, .retAddr 0, .int (nI ((p * 8 + a) * 8 + q)), .long ((S (60 + 8 * p + q)).toInt64), .retAddr 0, .retAddr 0, .retAddr 0, .retAddr 0]) ⟨Or.inr rfl, Or.inr rfl, Or.inr rfl, Or.inr rfl, Or.inr rfl, Or.inr rfl, Or.inr rfl, Or.inl rfl, Or.inr rfl, Or.inr rfl, trivial⟩ ?_
      exact l_likT g hp ha hq hf hK hk hL
    · skip
      have h106 := nI_leF (a := q_nc R) (b := q_nc R) (by omega) (by omega) h106
      exact absurd h106 (by omega)
  | succ m ih =>
    intro c σ hc hf hw hv
    have hlt : c < q_nc R := by omega
    have u6 := (hf.i _ _ (kLow_ne rfl hx2)).trans hu.1
    obtain ⟨k1, k2, k3, k4⟩ := hu.2.2.2.2 c hlt
    obtain ⟨g1, g2, g3, g4, g5, g6⟩ := hR.2.2.2 c hlt
    have v2 : qx_mi σ (x + 2) c = bI (q_bar R c) := (hf.i _ _ (kLow_ne rfl (by omega))).trans k1
    have w3 : qx_mi σ (x + 3) c = nI (q_fr R c) := (hf.i _ _ (kLow_ne rfl (by omega))).trans k2
    have v4 : qx_mi σ (x + 4) c = nI (q_tf R c) := (hf.i _ _ (kLow_ne rfl (by omega))).trans k3
    have v5 : qx_mi σ (x + 5) c = nI (q_to R c) := (hf.i _ _ (kLow_ne rfl (by omega))).trans k4
    have hl := hR.2.1
    have uS0 : ∀ τ, ql kL2 σ0 τ → uS τ x R := fun τ f => ⟨hs.fr f, hx2, (f.r _ _).trans hx, fun i hi => (f.i _ _ (kLow_ne rfl (by omega))).trans (hu.2.2.1 i hi)⟩
    have hno : (q_bar R c = false → q_tst R (q_w S p a q none 0) c = false) → q_lk S (some R) p a q = q_lkc R (q_w S p a q none 0) (S (60 + 8 * p + q)) m (c + 1) := by
      intro h1
      rw [hv]
      show (if _ then _ else _) = _
      rw [if_neg]
      rintro ⟨y1, y2⟩
      rw [h1 y1] at y2
      cases y2
    have hyes : q_bar R c = false → q_tst R (q_w S p a q none 0) c = true → q_hold (ev (q_cd R) (q_w S p a q none 0) (q_fr R c) (q_tf R c)) = q_lk S (some R) p a q := by
      intro h1 h2
      rw [hv]
      show _ = (if _ then _ else _)
      rw [if_pos ⟨h1, h2⟩]
    have t1 : q_tf R c = q_to R c → q_tst R (q_w S p a q none 0) c = true := fun h => by
      unfold q_tst
      rw [decide_eq_true h]
      rfl
    have t2 : ∀ h : q_tf R c ≠ q_to R c, ¬ ev (q_cd R) (q_w S p a q none 0) (q_tf R c) (q_to R c) = lN 0 → q_tst R (q_w S p a q none 0) c = true := fun h h0 => by
      have := (g6 (by omega)).b01 (w := q_w S p a q none 0)
      unfold q_tst
      rw [decide_eq_true (this.resolve_left h0)]
      exact Bool.or_true _
    have t3 : ∀ h : q_tf R c ≠ q_to R c, ev (q_cd R) (q_w S p a q none 0) (q_tf R c) (q_to R c) = lN 0 → q_tst R (q_w S p a q none 0) c = false := fun h h0 => by
      unfold q_tst
      rw [decide_eq_false h, h0]
      decide
    refine qy_wp_ok (c := CX2_likingOf) (cuts := [90, 193]) vX2_likingOf wX2_likingOf 2000 90 _ _ _ ?_
    refine And.intro rfl (Exists.intro 7 (Exists.intro (some x) (And.intro rfl (And.intro ((hf.r _ _).trans hx) ?_))))
    refine And.intro rfl (Exists.intro 7 (Exists.intro (some x) (And.intro rfl (And.intro ((hf.r _ _).trans hx) ?_))))
    refine And.intro (by rw [show qx_sh qc_T _ x = _ from ((hf.s _).trans hs.2.1)]; rfl) (Exists.intro 6 (Exists.intro (nI (q_nc R)) (And.intro rfl (And.intro u6 ?_))))
    refine And.intro (fun h106 => ?_) (fun h106 => ?_)
    · skip
      have h106 := nI_leT (a := q_nc R) (b := c) (by omega) (by omega) h106
      exact absurd h106 (by omega)
    · skip
      have h106 := nI_leF (a := q_nc R) (b := c) (by omega) (by omega) h106
      refine And.intro rfl (Exists.intro 7 (Exists.intro (some x) (And.intro rfl (And.intro ((hf.r _ _).trans hx) ?_))))
      refine And.intro (by rw [show qx_sh qc_T _ x = _ from ((hf.s _).trans hs.2.1)]; rfl) (Exists.intro (x + 4) (And.intro rfl ?_))
      refine Exists.intro (c) (Exists.intro (nI (q_tf R c)) (And.intro rfl (And.intro ⟨12, ((hf.s _).trans hs.2.2.2.2.2.1), by omega, by decide⟩ (And.intro v4 ?_))))
      refine And.intro rfl (Exists.intro 7 (Exists.intro (some x) (And.intro rfl (And.intro ((hf.r _ _).trans hx) ?_))))
      refine And.intro (by rw [show qx_sh qc_T _ x = _ from ((hf.s _).trans hs.2.1)]; rfl) (Exists.intro (x + 5) (And.intro rfl ?_))
      refine Exists.intro (c) (Exists.intro (nI (q_to R c)) (And.intro rfl (And.intro ⟨12, ((hf.s _).trans hs.2.2.2.2.2.2), by omega, by decide⟩ (And.intro v5 ?_))))
      refine And.intro rfl (Exists.intro 7 (Exists.intro (some x) (And.intro rfl (And.intro ((hf.r _ _).trans hx) ?_))))
      refine And.intro (by rw [show qx_sh qc_T _ x = _ from ((hf.s _).trans hs.2.1)]; rfl) (Exists.intro (x + 2) (And.intro rfl ?_))
      refine Exists.intro (c) (Exists.intro (bI (q_bar R c)) (And.intro rfl (And.intro (Or.inr ⟨12, ((hf.s _).trans hs.2.2.2.1), by omega, by decide⟩) (And.intro v2 ?_))))
      refine And.intro (fun h143 => ?_) (fun h143 => ?_)
      · skip
        have h143 := bI_t h143
        refine Exists.intro (nI (c + 1)) (And.intro (nI_add _ _) ?_)
        refine qx_K_le (ls := [.ref 156, .retAddr 0, .retAddr 0, .retAddr 0, .int (nI ((p * 8 + a) * 8 + q)), .long ((S (60 + 8 * p + q)).toInt64), .retAddr 0, .int (nI (c + 1)), .retAddr 0, .retAddr 0]) ⟨Or.inr rfl, Or.inr rfl, Or.inr rfl, Or.inr rfl, Or.inr rfl, Or.inr rfl, Or.inr rfl, Or.inr rfl, Or.inl rfl, Or.inl rfl, trivial⟩ ?_
        refine ih (c + 1) _ (by omega) hf hw (hno (fun y => ?_))
        first
          | exact absurd (y.symm.trans h143) (by decide)
          | exact t3 h150 h163
      · skip
        have h143 := bI_f h143
        refine And.intro (fun h150 => ?_) (fun h150 => ?_)
        · skip
          have h150 := nI_eqT (a := q_tf R c) (b := q_to R c) (by omega) (by omega) h150
          refine And.intro rfl (Exists.intro 7 (Exists.intro (some x) (And.intro rfl (And.intro ((hf.r _ _).trans hx) ?_))))
          refine And.intro (by rw [show qx_sh qc_T _ x = _ from ((hf.s _).trans hs.2.1)]; rfl) (Exists.intro (x + 3) (And.intro rfl ?_))
          refine Exists.intro (c) (Exists.intro (nI (q_fr R c)) (And.intro rfl (And.intro ⟨12, ((hf.s _).trans hs.2.2.2.2.1), by omega, by decide⟩ (And.intro (w3) ?_))))
          refine And.intro rfl (Exists.intro _ (And.intro (by decide) (qx_M_mono (c_workOut hR (uS0 _ hf) (hw0 _ hw) (g5 h143) (Nat.le_trans g2 g3)) ?_)))
          rintro _ σ1 ⟨rfl, fσ1⟩
          have w3_σ1 : qx_mi σ1 (x + 3) c = nI (q_fr R c) := (fσ1.i _ _ (kLow_ne rfl (by omega))).trans w3
          have hf_σ1 : ql kL2 σ0 σ1 := hf.tr (fσ1.mn (by decide))
          have hw_σ1 : ∀ v, v < 12 → qx_mi σ1 158 v = q_wd S p a q none 0 v := fun v hv => (fσ1.i 158 v rfl).trans (hw v hv)
          refine qx_K_le (ls := [.ref 156, .retAddr 0, .retAddr 0, .retAddr 0, .int (nI ((p * 8 + a) * 8 + q)), .long (ev (q_cd R) (q_w S p a q none 0) (q_fr R c) (q_tf R c)), .retAddr 0, .retAddr 0, .retAddr 0, .retAddr 0]) ⟨Or.inr rfl, Or.inr rfl, Or.inr rfl, Or.inr rfl, Or.inr rfl, Or.inr rfl, Or.inr rfl, Or.inl rfl, Or.inl rfl, Or.inl rfl, trivial⟩ ?_
          exact l_likT g hp ha hq hf_σ1 hK hk (hyes h143 (by first | exact t1 h150 | exact t2 h150 h163))
        · skip
          have h150 := nI_neT (a := q_tf R c) (b := q_to R c) (by omega) (by omega) h150
          refine And.intro rfl (Exists.intro _ (And.intro (by decide) (qx_M_mono (c_workOut hR (uS0 _ hf) (hw0 _ hw) (g6 (by omega)) g3) ?_)))
          rintro _ σ1 ⟨rfl, fσ1⟩
          have w3_σ1 : qx_mi σ1 (x + 3) c = nI (q_fr R c) := (fσ1.i _ _ (kLow_ne rfl (by omega))).trans w3
          have hf_σ1 : ql kL2 σ0 σ1 := hf.tr (fσ1.mn (by decide))
          have hw_σ1 : ∀ v, v < 12 → qx_mi σ1 158 v = q_wd S p a q none 0 v := fun v hv => (fσ1.i 158 v rfl).trans (hw v hv)
          refine Exists.intro (lN 0) (And.intro rfl ?_)
          refine Exists.intro (lg_cmp (ev (q_cd R) (q_w S p a q none 0) (q_tf R c) (q_to R c)) (lN 0)) (And.intro rfl ?_)
          refine And.intro (fun h163 => ?_) (fun h163 => ?_)
          · skip
            have h163 := (lg_cmp_eq _ _).mp h163
            refine Exists.intro (nI (c + 1)) (And.intro (nI_add _ _) ?_)
            refine qx_K_le (ls := [.ref 156, .retAddr 0, .retAddr 0, .retAddr 0, .int (nI ((p * 8 + a) * 8 + q)), .long ((S (60 + 8 * p + q)).toInt64), .retAddr 0, .int (nI (c + 1)), .retAddr 0, .retAddr 0]) ⟨Or.inr rfl, Or.inr rfl, Or.inr rfl, Or.inr rfl, Or.inr rfl, Or.inr rfl, Or.inr rfl, Or.inr rfl, Or.inl rfl, Or.inl rfl, trivial⟩ ?_
            refine ih (c + 1) _ (by omega) hf_σ1 hw_σ1 (hno (fun y => ?_))
            first
              | exact absurd (y.symm.trans h143) (by decide)
              | exact t3 h150 h163
          · skip
            have h163 := fun z => h163 ((lg_cmp_eq _ _).mpr z)
            refine And.intro rfl (Exists.intro 7 (Exists.intro (some x) (And.intro rfl (And.intro ((fσ1.r _ _).trans (((hf.r _ _).trans hx))) ?_))))
            refine And.intro (by rw [show qx_sh qc_T _ x = _ from (fσ1.s _).trans (((hf.s _).trans hs.2.1))]; rfl) (Exists.intro (x + 3) (And.intro rfl ?_))
            refine Exists.intro (c) (Exists.intro (nI (q_fr R c)) (And.intro rfl (And.intro ⟨12, (fσ1.s _).trans (((hf.s _).trans hs.2.2.2.2.1)), by omega, by decide⟩ (And.intro (w3_σ1) ?_))))
            refine And.intro rfl (Exists.intro _ (And.intro (by decide) (qx_M_mono (c_workOut hR (uS0 _ hf_σ1) (hw0 _ hw_σ1) (g5 h143) (Nat.le_trans g2 g3)) ?_)))
            rintro _ σ2 ⟨rfl, fσ2⟩
            have w3_σ2 : qx_mi σ2 (x + 3) c = nI (q_fr R c) := (fσ2.i _ _ (kLow_ne rfl (by omega))).trans w3_σ1
            have hf_σ2 : ql kL2 σ0 σ2 := hf_σ1.tr (fσ2.mn (by decide))
            have hw_σ2 : ∀ v, v < 12 → qx_mi σ2 158 v = q_wd S p a q none 0 v := fun v hv => (fσ2.i 158 v rfl).trans (hw_σ1 v hv)
            refine qx_K_le (ls := [.ref 156, .retAddr 0, .retAddr 0, .retAddr 0, .int (nI ((p * 8 + a) * 8 + q)), .long (ev (q_cd R) (q_w S p a q none 0) (q_fr R c) (q_tf R c)), .retAddr 0, .retAddr 0, .retAddr 0, .retAddr 0]) ⟨Or.inr rfl, Or.inr rfl, Or.inr rfl, Or.inr rfl, Or.inr rfl, Or.inr rfl, Or.inr rfl, Or.inl rfl, Or.inl rfl, Or.inl rfl, trivial⟩ ?_
            exact l_likT g hp ha hq hf_σ2 hK hk (hyes h143 (by first | exact t1 h150 | exact t2 h150 h163))
/-- what the laws look at -/
def cW (σ : qx_S) (S : qS) (rf : Option qR) (st : Nat) : Prop := gL S ∧ wL σ S st ∧ cRu σ rf
theorem cW.fr {σ s : qx_S} {S : qS} {rf : Option qR} {st : Nat} {l : List (Nat × Option Nat)} (h : cW σ S rf st) (f : ql l σ s) (h1 : kOut l = true) (h2 : kLow l = true) : cW s S rf st := ⟨h.1, h.2.1.fr h.1.1 f h1, h.2.2.fr f h2⟩
/-- what is kept is right -/
def cH (S : qS) (rf : Option qR) (kp : Bool) (lk : Nat → Nat → Nat → Int32) : Prop := kp = true → ∀ p a q, p < s_n S 1 → a < 8 → q < 8 → lk p a q = q_lk S rf p a q
theorem c_likingOf {G : qx_G} {σ : qx_S} {S : qS} {rf : Option qR} {e st : Nat} {kp : Bool} {lk : Nat → Nat → Nat → Int32} {p a q : Nat} (hW : cW σ S rf st) (hK : cK σ e kp (s_n S 1) lk) (hk : cH S rf kp lk) (hp : p < s_n S 1) (ha : a < 8) (hq : q < 8) : qx_M G qc_T 2 YX2_likingOf [.ref 156, .int (nI p), .int (nI a), .int (nI q)] σ (fun r s => r = some (.int (q_lk S rf p a q)) ∧ ql kLw σ s ∧ cK s e kp (s_n S 1) lk) := by
  obtain ⟨g, hL, hr⟩ := hW
  have hpe := g.1.2.1.2
  have he := hK.2.1
  obtain ⟨v, w1, w2, w3⟩ := hK.2.2.2 p a q (by omega) ha hq
  have hv : v < 2147483648 := by omega
  have hv2 : v &&& 2047 = v % 2048 := Nat.and_two_pow_sub_one_eq_mod _ 11
  have hw9 := (congrArg (qx_mi σ 19) (show p * 8 + q = 8 * p + q by omega)).trans (hL.2.2.1.2.2.2.2.1 p hp q hq)
  cases rf with
  | none =>
    have hn : q_hold (S (60 + 8 * p + q)).toInt64 = q_lk S none p a q := by
      obtain ⟨v, hv9, ev⟩ := (g.2.2 p hp).1 q hq
      show _ = S (60 + 8 * p + q)
      rw [ev, q_hold_99 hv9]
    refine qx_M_in rfl (Nat.le_of_ble_eq_true rfl) ?_
    refine qy_wp_ok (c := CX2_likingOf) (cuts := [90, 193]) vX2_likingOf wX2_likingOf 2000 0 _ _ _ ?_
    refine Exists.intro (nI 8) (And.intro rfl ?_)
    refine Exists.intro (nI (p * 8)) (And.intro (pk_mul _ _) ?_)
    refine Exists.intro (nI (p * 8 + a)) (And.intro (nI_add _ _) ?_)
    refine Exists.intro (nI 8) (And.intro rfl ?_)
    refine Exists.intro (nI ((p * 8 + a) * 8)) (And.intro (pk_mul _ _) ?_)
    refine Exists.intro (nI ((p * 8 + a) * 8 + q)) (And.intro (nI_add _ _) ?_)
    refine And.intro rfl (Exists.intro 9 (Exists.intro (bI kp) (And.intro rfl (And.intro hK.2.2.1 ?_))))
    refine And.intro (fun h17 => ?_) (fun h17 => ?_)
    · skip
      have h17 := bI_f h17
      refine And.intro rfl (Exists.intro 16 (And.intro rfl ?_))
      refine And.intro rfl (Exists.intro 19 (And.intro rfl ?_))
      refine Exists.intro (nI 8) (And.intro rfl ?_)
      refine Exists.intro (nI (p * 8)) (And.intro (pk_mul _ _) ?_)
      refine Exists.intro (nI (p * 8 + q)) (And.intro (nI_add _ _) ?_)
      refine Exists.intro (p * 8 + q) (Exists.intro (S (60 + 8 * p + q)) (And.intro rfl (And.intro ⟨80, rfl, by omega, by decide⟩ (And.intro hw9 ?_))))
      refine Exists.intro ((S (60 + 8 * p + q)).toInt64) (And.intro rfl ?_)
      refine And.intro rfl (Exists.intro 7 (Exists.intro none (And.intro rfl (And.intro hr ?_))))
      refine Exists.intro (nI 0) (And.intro rfl ?_)
      refine qx_K_le (ls := [.ref 156, .retAddr 0, .retAddr 0, .retAddr 0, .int (nI ((p * 8 + a) * 8 + q)), .long ((S (60 + 8 * p + q)).toInt64), .retAddr 0, .int (nI 0), .retAddr 0, .retAddr 0]) ⟨Or.inr rfl, Or.inl rfl, Or.inl rfl, Or.inl rfl, Or.inr rfl, Or.inr rfl, Or.inr rfl, Or.inr rfl, Or.inr rfl, Or.inr rfl, trivial⟩ ?_
      skip
      refine qy_wp_ok (c := CX2_likingOf) (cuts := [193]) vX2_likingOf wX2_likingOf 2000 90 _ _ _ ?_
      refine And.intro rfl (Exists.intro 7 (Exists.intro none (And.intro rfl (And.intro hr ?_))))
      refine qx_K_le (ls := [.ref 156, .retAddr 0, .retAddr 0, .retAddr 0, .int (nI ((p * 8 + a) * 8 + q)), .long (S (60 + 8 * p + q)).toInt64, .retAddr 0, .retAddr 0, .retAddr 0, .retAddr 0]) ⟨Or.inr rfl, Or.inr rfl, Or.inr rfl, Or.inr rfl, Or.inr rfl, Or.inr rfl, Or.inr rfl, Or.inl rfl, Or.inr rfl, Or.inr rfl, trivial⟩ ?_
      exact l_likT g hp ha hq qf.rf hK hk hn
    · skip
      have h17 := bI_t h17
      refine And.intro rfl (Exists.intro 157 (And.intro rfl ?_))
      refine Exists.intro ((p * 8 + a) * 8 + q) (Exists.intro (nI v) (And.intro rfl (And.intro ⟨640, rfl, by omega, by decide⟩ (And.intro w1 ?_))))
      refine Exists.intro (nI 11) (And.intro rfl ?_)
      refine Exists.intro (nI (v / 2048)) (And.intro (nI_shr (by omega) (by decide)) ?_)
      refine And.intro rfl (Exists.intro 8 (Exists.intro (nI e) (And.intro rfl (And.intro hK.1 ?_))))
      refine And.intro (fun h34 => ?_) (fun h34 => ?_)
      · skip
        have h34 := nI_neT (a := v / 2048) (b := e) (by omega) (by omega) h34
        refine And.intro rfl (Exists.intro 16 (And.intro rfl ?_))
        refine And.intro rfl (Exists.intro 19 (And.intro rfl ?_))
        refine Exists.intro (nI 8) (And.intro rfl ?_)
        refine Exists.intro (nI (p * 8)) (And.intro (pk_mul _ _) ?_)
        refine Exists.intro (nI (p * 8 + q)) (And.intro (nI_add _ _) ?_)
        refine Exists.intro (p * 8 + q) (Exists.intro (S (60 + 8 * p + q)) (And.intro rfl (And.intro ⟨80, rfl, by omega, by decide⟩ (And.intro hw9 ?_))))
        refine Exists.intro ((S (60 + 8 * p + q)).toInt64) (And.intro rfl ?_)
        refine And.intro rfl (Exists.intro 7 (Exists.intro none (And.intro rfl (And.intro hr ?_))))
        refine Exists.intro (nI 0) (And.intro rfl ?_)
        refine qx_K_le (ls := [.ref 156, .retAddr 0, .retAddr 0, .retAddr 0, .int (nI ((p * 8 + a) * 8 + q)), .long ((S (60 + 8 * p + q)).toInt64), .retAddr 0, .int (nI 0), .retAddr 0, .retAddr 0]) ⟨Or.inr rfl, Or.inl rfl, Or.inl rfl, Or.inl rfl, Or.inr rfl, Or.inr rfl, Or.inr rfl, Or.inr rfl, Or.inr rfl, Or.inr rfl, trivial⟩ ?_
        skip
        refine qy_wp_ok (c := CX2_likingOf) (cuts := [193]) vX2_likingOf wX2_likingOf 2000 90 _ _ _ ?_
        refine And.intro rfl (Exists.intro 7 (Exists.intro none (And.intro rfl (And.intro hr ?_))))
        refine qx_K_le (ls := [.ref 156, .retAddr 0, .retAddr 0, .retAddr 0, .int (nI ((p * 8 + a) * 8 + q)), .long (S (60 + 8 * p + q)).toInt64, .retAddr 0, .retAddr 0, .retAddr 0, .retAddr 0]) ⟨Or.inr rfl, Or.inr rfl, Or.inr rfl, Or.inr rfl, Or.inr rfl, Or.inr rfl, Or.inr rfl, Or.inl rfl, Or.inr rfl, Or.inr rfl, trivial⟩ ?_
        exact l_likT g hp ha hq qf.rf hK hk hn
      · skip
        have h34 := nI_eqT (a := v / 2048) (b := e) (by omega) (by omega) h34
        refine And.intro rfl (Exists.intro 157 (And.intro rfl ?_))
        refine Exists.intro ((p * 8 + a) * 8 + q) (Exists.intro (nI v) (And.intro rfl (And.intro ⟨640, rfl, by omega, by decide⟩ (And.intro w1 ?_))))
        refine Exists.intro (nI 2047) (And.intro rfl ?_)
        refine Exists.intro (nI (v % 2048)) (And.intro ((nI_and _ _).trans (congrArg nI hv2)) ?_)
        refine Exists.intro (nI 999) (And.intro rfl ?_)
        refine Exists.intro (nI (v % 2048) - nI 999) (And.intro rfl ?_)
        exact ⟨congrArg (fun z => some (Value.int z)) ((w3 hp h34).trans (hk h17 p a q hp ha hq)), qf.rf, hK⟩
  | some R =>
    obtain ⟨x, x1, x2, x3, x4, x5⟩ := hr
    refine qx_M_in rfl (Nat.le_of_ble_eq_true rfl) ?_
    refine qy_wp_ok (c := CX2_likingOf) (cuts := [90, 193]) vX2_likingOf wX2_likingOf 2000 0 _ _ _ ?_
    refine Exists.intro (nI 8) (And.intro rfl ?_)
    refine Exists.intro (nI (p * 8)) (And.intro (pk_mul _ _) ?_)
    refine Exists.intro (nI (p * 8 + a)) (And.intro (nI_add _ _) ?_)
    refine Exists.intro (nI 8) (And.intro rfl ?_)
    refine Exists.intro (nI ((p * 8 + a) * 8)) (And.intro (pk_mul _ _) ?_)
    refine Exists.intro (nI ((p * 8 + a) * 8 + q)) (And.intro (nI_add _ _) ?_)
    refine And.intro rfl (Exists.intro 9 (Exists.intro (bI kp) (And.intro rfl (And.intro hK.2.2.1 ?_))))
    refine And.intro (fun h17 => ?_) (fun h17 => ?_)
    · skip
      have h17 := bI_f h17
      refine And.intro rfl (Exists.intro 16 (And.intro rfl ?_))
      refine And.intro rfl (Exists.intro 19 (And.intro rfl ?_))
      refine Exists.intro (nI 8) (And.intro rfl ?_)
      refine Exists.intro (nI (p * 8)) (And.intro (pk_mul _ _) ?_)
      refine Exists.intro (nI (p * 8 + q)) (And.intro (nI_add _ _) ?_)
      refine Exists.intro (p * 8 + q) (Exists.intro (S (60 + 8 * p + q)) (And.intro rfl (And.intro ⟨80, rfl, by omega, by decide⟩ (And.intro hw9 ?_))))
      refine Exists.intro ((S (60 + 8 * p + q)).toInt64) (And.intro rfl ?_)
      refine And.intro rfl (Exists.intro 7 (Exists.intro (some x) (And.intro rfl (And.intro x1 ?_))))
      refine Exists.intro (nI 99) (And.intro rfl ?_)
      refine Exists.intro (nI 0) (And.intro rfl ?_)
      refine And.intro rfl (Exists.intro _ (And.intro (by decide) (qx_M_mono (c_tell0 g hL hp hq) ?_)))
      rintro _ σ1 ⟨rfl, fσ1, gσ1⟩
      refine Exists.intro (nI 0) (And.intro rfl ?_)
      refine qx_K_le (ls := [.ref 156, .retAddr 0, .retAddr 0, .retAddr 0, .int (nI ((p * 8 + a) * 8 + q)), .long ((S (60 + 8 * p + q)).toInt64), .retAddr 0, .int (nI 0), .retAddr 0, .retAddr 0]) ⟨Or.inr rfl, Or.inl rfl, Or.inl rfl, Or.inl rfl, Or.inr rfl, Or.inr rfl, Or.inr rfl, Or.inr rfl, Or.inr rfl, Or.inr rfl, trivial⟩ ?_
      exact l_likL g x5 hp ha hq hK hk x1 x2.1 x3 x4 (q_nc R) 0 _ (by omega) (fσ1.mn (by decide)) gσ1 rfl
    · skip
      have h17 := bI_t h17
      refine And.intro rfl (Exists.intro 157 (And.intro rfl ?_))
      refine Exists.intro ((p * 8 + a) * 8 + q) (Exists.intro (nI v) (And.intro rfl (And.intro ⟨640, rfl, by omega, by decide⟩ (And.intro w1 ?_))))
      refine Exists.intro (nI 11) (And.intro rfl ?_)
      refine Exists.intro (nI (v / 2048)) (And.intro (nI_shr (by omega) (by decide)) ?_)
      refine And.intro rfl (Exists.intro 8 (Exists.intro (nI e) (And.intro rfl (And.intro hK.1 ?_))))
      refine And.intro (fun h34 => ?_) (fun h34 => ?_)
      · skip
        have h34 := nI_neT (a := v / 2048) (b := e) (by omega) (by omega) h34
        refine And.intro rfl (Exists.intro 16 (And.intro rfl ?_))
        refine And.intro rfl (Exists.intro 19 (And.intro rfl ?_))
        refine Exists.intro (nI 8) (And.intro rfl ?_)
        refine Exists.intro (nI (p * 8)) (And.intro (pk_mul _ _) ?_)
        refine Exists.intro (nI (p * 8 + q)) (And.intro (nI_add _ _) ?_)
        refine Exists.intro (p * 8 + q) (Exists.intro (S (60 + 8 * p + q)) (And.intro rfl (And.intro ⟨80, rfl, by omega, by decide⟩ (And.intro hw9 ?_))))
        refine Exists.intro ((S (60 + 8 * p + q)).toInt64) (And.intro rfl ?_)
        refine And.intro rfl (Exists.intro 7 (Exists.intro (some x) (And.intro rfl (And.intro x1 ?_))))
        refine Exists.intro (nI 99) (And.intro rfl ?_)
        refine Exists.intro (nI 0) (And.intro rfl ?_)
        refine And.intro rfl (Exists.intro _ (And.intro (by decide) (qx_M_mono (c_tell0 g hL hp hq) ?_)))
        rintro _ σ1 ⟨rfl, fσ1, gσ1⟩
        refine Exists.intro (nI 0) (And.intro rfl ?_)
        refine qx_K_le (ls := [.ref 156, .retAddr 0, .retAddr 0, .retAddr 0, .int (nI ((p * 8 + a) * 8 + q)), .long ((S (60 + 8 * p + q)).toInt64), .retAddr 0, .int (nI 0), .retAddr 0, .retAddr 0]) ⟨Or.inr rfl, Or.inl rfl, Or.inl rfl, Or.inl rfl, Or.inr rfl, Or.inr rfl, Or.inr rfl, Or.inr rfl, Or.inr rfl, Or.inr rfl, trivial⟩ ?_
        exact l_likL g x5 hp ha hq hK hk x1 x2.1 x3 x4 (q_nc R) 0 _ (by omega) (fσ1.mn (by decide)) gσ1 rfl
      · skip
        have h34 := nI_eqT (a := v / 2048) (b := e) (by omega) (by omega) h34
        refine And.intro rfl (Exists.intro 157 (And.intro rfl ?_))
        refine Exists.intro ((p * 8 + a) * 8 + q) (Exists.intro (nI v) (And.intro rfl (And.intro ⟨640, rfl, by omega, by decide⟩ (And.intro w1 ?_))))
        refine Exists.intro (nI 2047) (And.intro rfl ?_)
        refine Exists.intro (nI (v % 2048)) (And.intro ((nI_and _ _).trans (congrArg nI hv2)) ?_)
        refine Exists.intro (nI 999) (And.intro rfl ?_)
        refine Exists.intro (nI (v % 2048) - nI 999) (And.intro rfl ?_)
        exact ⟨congrArg (fun z => some (Value.int z)) ((w3 hp h34).trans (hk h17 p a q hp ha hq)), qf.rf, hK⟩

