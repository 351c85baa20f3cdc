/-! THE REFERENCE: changers, laid out -/
theorem l_changers1 {G : qx_G} {σ0 : qx_S} {S : qS} {rf : Option qR} (g : gS S) {k what : Int32} : ∀ (m a : Nat) (n : Int32) (σ : qx_S), m = s_n S 1 - a → a ≤ s_n S 1 → ql lR σ0 σ → mX σ S rf none →
    qx_K G qc_T 7 RX12 YX12_changers 26 [.ref 197, .int k, .int what, .int n, .int (nI a), .retAddr 0] [] σ (fun r s => r = some (.int (match q_cgo (q_can S rf) k what (s_n S 1) (s_n S 1 - a) a n with
      | (some r, _) => r
      | (none, n) => if what = nI 2 then n else -1)) ∧ ql lR σ0 s) := by
  intro m
  have h10 := g.2.1.2
  induction m using Nat.strongRecOn with
  | _ m ih =>
    intro a n σ hm ha hf hX
    rcases Nat.lt_or_ge a (s_n S 1) with hlt | hge
    · have e1 : s_n S 1 - a = (s_n S 1 - (a + 1)) + 1 := by omega
      rw [e1]
      have u : q_cgo (q_can S rf) k what (s_n S 1) (s_n S 1 - (a + 1) + 1) a n = (match q_cgi (q_can S rf) k what a (s_n S 1 - (a + 1)) (a + 1) n with
        | (some r, n') => (some r, n')
        | (none, n') => q_cgo (q_can S rf) k what (s_n S 1) (s_n S 1 - (a + 1)) (a + 1) n') := rfl
      rw [u]
      refine qy_wp_ok (c := CX12_changers) (cuts := [43, 26]) vX12_changers wX12_changers 2000 26 _ _ _ ?_
      refine And.intro rfl (Exists.intro 207 (And.intro rfl ?_))
      refine Exists.intro (nI 1) (And.intro rfl ?_)
      refine Exists.intro (1) (Exists.intro (nI (s_n S 1)) (And.intro rfl (And.intro ⟨2788, rfl, by decide, by decide⟩ (And.intro ((congrFun hX.1 1).trans g.2.1.1) ?_))))
      refine And.intro (fun h34 => ?_) (fun h34 => ?_)
      · skip
        have h34 := nI_leT (a := s_n S 1) (b := a) (by omega) (by omega) h34
        exact absurd h34 (by omega)
      · skip
        have h34 := nI_leF (a := s_n S 1) (b := a) (by omega) (by omega) h34
        refine Exists.intro (nI 1) (And.intro rfl ?_)
        refine Exists.intro (nI (a + 1)) (And.intro (nI_add _ _) ?_)
        refine l_changers2 g hlt _ (a + 1) n σ rfl (by omega) hf hX (fun r s y1 y2 => ?_) (fun s y1 y2 y3 => ?_)
        · generalize q_cgi (q_can S rf) k what a (s_n S 1 - (a + 1)) (a + 1) n = q at y2
          obtain ⟨q1, q2⟩ := q
          cases y2
          exact ⟨rfl, y1⟩
        · generalize q_cgi (q_can S rf) k what a (s_n S 1 - (a + 1)) (a + 1) n = q at y3
          obtain ⟨q1, q2⟩ := q
          cases y3
          refine qy_wp_ok (c := CX12_changers) (cuts := [26]) vX12_changers wX12_changers 2000 99 _ _ _ ?_
          refine Exists.intro (nI (a + 1)) (And.intro (nI_add _ _) ?_)
          exact ih _ (by omega) (a + 1) q2 s rfl (by omega) y1 y2
    · obtain rfl : a = s_n S 1 := by omega
      rw [Nat.sub_self]
      show qx_K _ _ _ _ _ _ _ _ _ (fun r s => r = some (.int (if what = nI 2 then n else -1)) ∧ ql lR σ0 s)
      refine qy_wp_ok (c := CX12_changers) (cuts := [43, 26]) vX12_changers wX12_changers 2000 26 _ _ _ ?_
      refine And.intro rfl (Exists.intro 207 (And.intro rfl ?_))
      refine Exists.intro (nI 1) (And.intro rfl ?_)
      refine Exists.intro (1) (Exists.intro (nI (s_n S 1)) (And.intro rfl (And.intro ⟨2788, rfl, by decide, by decide⟩ (And.intro ((congrFun hX.1 1).trans g.2.1.1) ?_))))
      refine And.intro (fun h34 => ?_) (fun h34 => ?_)
      · skip
        have h34 := nI_leT (a := s_n S 1) (b := s_n S 1) (by omega) (by omega) h34
        refine Exists.intro (nI 2) (And.intro rfl ?_)
        refine And.intro (fun h107 => ?_) (fun h107 => ?_)
        · skip
          refine Exists.intro ((-1)) (And.intro (by decide) ?_)
          first | exact ⟨by rw [if_pos h107], hf⟩ | exact ⟨by rw [if_neg h107], hf⟩
        · skip
          first | exact ⟨by rw [if_pos h107], hf⟩ | exact ⟨by rw [if_neg h107], hf⟩
      · skip
        have h34 := nI_leF (a := s_n S 1) (b := s_n S 1) (by omega) (by omega) h34
        exact absurd h34 (by omega)
theorem m_changers {G : qx_G} {σ : qx_S} {S : qS} {rf : Option qR} (hX : mX σ S rf none) (g : gS S) (k x : Int32) : qx_M G qc_T 7 YX12_changers [.ref 197, .int k, .int x] σ (fun r s => r = some (.int (if 0 < s_n S 0 ∧ nI 0 ≤ x ∧ x ≤ nI 2 then q_cg (q_can S rf) k x (s_n S 1) else -1)) ∧ ql lR σ s) := by
  have e0 := q_in_iff x (lo := 0) (hi := 2) (by decide) (by decide)
  have g8 := g.1.2
  refine qx_M_in rfl (Nat.le_of_ble_eq_true rfl) ?_
  refine qy_wp_ok (c := CX12_changers) (cuts := [26, 43]) vX12_changers wX12_changers 2000 0 _ _ _ ?_
  refine And.intro rfl (Exists.intro _ (And.intro (by decide) (qx_M_mono (m_isCountry hX.1 g.1.1 g8) ?_)))
  rintro _ _ ⟨rfl, rfl⟩
  refine And.intro (fun h4 => ?_) (fun h4 => ?_)
  · skip
    have h4 := bI_f h4
    refine Exists.intro ((-1)) (And.intro (by decide) ?_)
    first | exact ⟨by rw [if_neg (fun z => absurd z.1 (of_decide_eq_false h4))], qf.rf⟩ | exact ⟨by rw [if_neg (fun z => absurd z.2 (of_decide_eq_false (e0.symm.trans h16)))], qf.rf⟩
  · skip
    have h4 := bI_t h4
    refine Exists.intro x.toInt64 (And.intro rfl ?_)
    refine Exists.intro (lN 0) (And.intro rfl ?_)
    refine Exists.intro (lN 2) (And.intro (by decide) ?_)
    refine Exists.intro _ (And.intro (by decide) (qx_M_mono (m_in (v := x.toInt64) (l := (lN 0)) (h := (lN 2))) ?_))
    rintro _ _ ⟨rfl, rfl⟩
    refine And.intro (fun h16 => ?_) (fun h16 => ?_)
    · skip
      have h16 := bI_t h16
      refine Exists.intro (nI 0) (And.intro rfl ?_)
      refine Exists.intro (nI 0) (And.intro rfl ?_)
      rw [if_pos ⟨of_decide_eq_true h4, of_decide_eq_true (e0.symm.trans h16)⟩]; exact qx_K_mono (l_changers1 g _ 0 _ σ rfl (by omega) qf.rf hX) (fun r s h => h)
    · skip
      have h16 := bI_f h16
      refine Exists.intro ((-1)) (And.intro (by decide) ?_)
      first | exact ⟨by rw [if_neg (fun z => absurd z.1 (of_decide_eq_false h4))], qf.rf⟩ | exact ⟨by rw [if_neg (fun z => absurd z.2 (of_decide_eq_false (e0.symm.trans h16)))], qf.rf⟩
theorem l_peopleIn {G : qx_G} {σ : qx_S} {S : qS} (hS : qx_mi σ 207 = S) {b : Nat} (hb : b < 12) {n : Nat} (hn : n ≤ 6) (en : S (254 + 7 * b) = nI n) (hk : ∀ k, k < n → S (254 + 7 * b + 1 + k) = nI (q_bm S b k) ∧ q_bm S b k < 10) : ∀ (m k : Nat), m = n - k → k ≤ n →
    qx_K G qc_T 0 RX12 YX12_peopleIn 4 [.ref 197, .int (nI b), .int (nI (q_pic S b k)), .int (nI k)] [] σ (qr (nI (q_pic S b n)) σ) := by
  intro m
  induction m using Nat.strongRecOn with
  | _ m ih =>
    intro k hm hkn
    rcases Nat.lt_or_ge k n with hlt | hge
    · have hk2 := (hk k hlt).2
      refine qy_wp_ok (c := CX12_peopleIn) (cuts := [4]) vX12_peopleIn wX12_peopleIn 2000 4 _ _ _ ?_
      refine And.intro rfl (Exists.intro 207 (And.intro rfl ?_))
      refine Exists.intro (nI 254) (And.intro rfl ?_)
      refine Exists.intro (nI 7) (And.intro rfl ?_)
      refine Exists.intro (nI (7 * b)) (And.intro (pk_mul _ _) ?_)
      refine Exists.intro (nI (254 + 7 * b)) (And.intro (nI_add _ _) ?_)
      refine Exists.intro (254 + 7 * b) (Exists.intro (nI n) (And.intro rfl (And.intro ⟨2788, rfl, by omega, by decide⟩ (And.intro ((congrFun hS _).trans en) ?_))))
      refine And.intro (fun h18 => ?_) (fun h18 => ?_)
      · skip
        have h18 := nI_leT (a := n) (b := k) (by omega) (by omega) h18
        exact absurd h18 (by omega)
      · skip
        have h18 := nI_leF (a := n) (b := k) (by omega) (by omega) h18
        refine Exists.intro (nI 1) (And.intro rfl ?_)
        refine And.intro rfl (Exists.intro 207 (And.intro rfl ?_))
        refine Exists.intro (nI 254) (And.intro rfl ?_)
        refine Exists.intro (nI 7) (And.intro rfl ?_)
        refine Exists.intro (nI (7 * b)) (And.intro (pk_mul _ _) ?_)
        refine Exists.intro (nI (254 + 7 * b)) (And.intro (nI_add _ _) ?_)
        refine Exists.intro (nI 1) (And.intro rfl ?_)
        refine Exists.intro (nI (254 + 7 * b + 1)) (And.intro (nI_add _ _) ?_)
        refine Exists.intro (nI (254 + 7 * b + 1 + k)) (And.intro (nI_add _ _) ?_)
        refine Exists.intro (254 + 7 * b + 1 + k) (Exists.intro (nI (q_bm S b k)) (And.intro rfl (And.intro ⟨2788, rfl, by omega, by decide⟩ (And.intro ((congrFun hS _).trans (hk k hlt).1) ?_))))
        refine Exists.intro (nI (2 ^ (q_bm S b k))) (And.intro (nI_sh1 (by omega)) ?_)
        refine Exists.intro (nI ((q_pic S b k) ||| (2 ^ (q_bm S b k)))) (And.intro (nI_or _ _) ?_)
        refine Exists.intro (nI (k + 1)) (And.intro (nI_add _ _) ?_)
        exact ih _ (by omega) (k + 1) rfl (by omega)
    · obtain rfl : k = n := by omega
      refine qy_wp_ok (c := CX12_peopleIn) (cuts := [4]) vX12_peopleIn wX12_peopleIn 2000 4 _ _ _ ?_
      refine And.intro rfl (Exists.intro 207 (And.intro rfl ?_))
      refine Exists.intro (nI 254) (And.intro rfl ?_)
      refine Exists.intro (nI 7) (And.intro rfl ?_)
      refine Exists.intro (nI (7 * b)) (And.intro (pk_mul _ _) ?_)
      refine Exists.intro (nI (254 + 7 * b)) (And.intro (nI_add _ _) ?_)
      refine Exists.intro (254 + 7 * b) (Exists.intro (nI k) (And.intro rfl (And.intro ⟨2788, rfl, by omega, by decide⟩ (And.intro ((congrFun hS _).trans en) ?_))))
      refine And.intro (fun h18 => ?_) (fun h18 => ?_)
      · skip
        have h18 := nI_leT (a := k) (b := k) (by omega) (by omega) h18
        exact ⟨rfl, rfl⟩
      · skip
        have h18 := nI_leF (a := k) (b := k) (by omega) (by omega) h18
        exact absurd h18 (by omega)
theorem m_peopleIn {G : qx_G} {σ : qx_S} {S : qS} (hS : qx_mi σ 207 = S) (g : gS S) (hB : iB S) {b : Nat} (hb : b < s_n S 5) : qx_M G qc_T 0 YX12_peopleIn [.ref 197, .int (nI b)] σ (qr (nI (q_pi S b)) σ) := by
  have b12 := hB.2.1
  have h10 := g.2.1.2
  obtain ⟨y1, y2, y3, y4⟩ := hB.2.2 b hb
  refine qx_M_in rfl (Nat.le_of_ble_eq_true rfl) ?_
  refine qy_wp_ok (c := CX12_peopleIn) (cuts := [4]) vX12_peopleIn wX12_peopleIn 2000 0 _ _ _ ?_
  refine Exists.intro (nI 0) (And.intro rfl ?_)
  refine Exists.intro (nI 0) (And.intro rfl ?_)
  exact l_peopleIn hS (by omega) y3 y1 (fun k hk => ⟨(y4 k hk).1, Nat.lt_of_lt_of_le (y4 k hk).2 h10⟩) _ 0 rfl (by omega)
/-- two rings of the book have one in common -/
def q_mt (S : qS) (a b : Nat) : Bool := decide (q_pi S a &&& q_pi S b ≠ 0)
theorem q_pi_lt {S : qS} (g : gS S) (hB : iB S) {b : Nat} (hb : b < s_n S 5) : q_pi S b < 1024 := q_pic_lt _ (fun k hk => Nat.lt_of_lt_of_le ((hB.2.2 b hb).2.2.2 k hk).2 g.2.1.2)
theorem l_laidOut2 {G : qx_G} {σ0 : qx_S} {S : qS} (g : gS S) (hB : iB S) {x : Int32} {b last : Nat} (hb : b < s_n S 5) {Φ : qx_F} : ∀ (m a d : Nat) (σ : qx_S), m = b - a → a ≤ b → d ≤ b + 1 → ql [(211, none)] σ0 σ → qx_mi σ 207 = S → qx_mi σ 211 b = nI d → (∀ i, i < b → qx_mi σ 211 i = nI (q_dys (q_mt S) b i)) →
    (∀ s, ql [(211, none)] σ0 s → qx_mi s 207 = S → qx_mi s 211 b = nI (q_dyf (fun a => q_mt S a b) (q_dys (q_mt S) b) (b - a) a d) → (∀ i, i < b → qx_mi s 211 i = nI (q_dys (q_mt S) b i)) → qx_K G qc_T 1 RX12 YX12_laidOut 108 [.ref 197, .int x, .int (nI last), .int (nI b), .retAddr 0] [] s Φ) →
    qx_K G qc_T 1 RX12 YX12_laidOut 50 [.ref 197, .int x, .int (nI last), .int (nI b), .int (nI a)] [] σ Φ := by
  intro m
  have b12 := hB.2.1
  induction m using Nat.strongRecOn with
  | _ m ih =>
    intro a d σ hm ha hd hf hS e1 e2 hk
    rcases Nat.lt_or_ge a b with hlt | hge
    · have e3 : b - a = (b - (a + 1)) + 1 := by omega
      rw [e3] at hk
      have l1 := q_pi_lt g hB (b := a) (by omega)
      have l2 := q_pi_lt g hB hb
      have l3 : q_pi S a &&& q_pi S b < 1024 := Nat.lt_of_le_of_lt Nat.and_le_left l1
      have dl := q_dys_le (q_mt S) b a
      have u1 : (q_mt S a b = true ∧ d ≤ q_dys (q_mt S) b a) → q_dyf (fun a => q_mt S a b) (q_dys (q_mt S) b) (b - (a + 1) + 1) a d = q_dyf (fun a => q_mt S a b) (q_dys (q_mt S) b) (b - (a + 1)) (a + 1) (q_dys (q_mt S) b a + 1) := fun z => by show q_dyf _ _ _ _ (if _ then _ else _) = _; rw [if_pos z]
      have u2 : ¬ (q_mt S a b = true ∧ d ≤ q_dys (q_mt S) b a) → q_dyf (fun a => q_mt S a b) (q_dys (q_mt S) b) (b - (a + 1) + 1) a d = q_dyf (fun a => q_mt S a b) (q_dys (q_mt S) b) (b - (a + 1)) (a + 1) d := fun z => by show q_dyf _ _ _ _ (if _ then _ else _) = _; rw [if_neg z]
      refine qy_wp_ok (c := CX12_laidOut) (cuts := [50, 108]) vX12_laidOut wX12_laidOut 2000 50 _ _ _ ?_
      refine And.intro (fun h53 => ?_) (fun h53 => ?_)
      · skip
        have h53 := nI_leT (a := b) (b := a) (by omega) (by omega) h53
        exact absurd h53 (by omega)
      · skip
        have h53 := nI_leF (a := b) (b := a) (by omega) (by omega) h53
        refine And.intro rfl (Exists.intro _ (And.intro (by decide) (qx_M_mono (m_peopleIn hS g hB (by omega)) ?_)))
        rintro _ _ ⟨rfl, rfl⟩
        refine And.intro rfl (Exists.intro _ (And.intro (by decide) (qx_M_mono (m_peopleIn hS g hB (by omega)) ?_)))
        rintro _ _ ⟨rfl, rfl⟩
        refine Exists.intro (nI ((q_pi S a) &&& (q_pi S b))) (And.intro (nI_and _ _) ?_)
        refine And.intro (fun h68 => ?_) (fun h68 => ?_)
        · skip
          have h68 := nI_eqT (a := (q_pi S a) &&& (q_pi S b)) (b := 0) (by omega) (by decide) h68
          refine Exists.intro (nI (a + 1)) (And.intro (nI_add _ _) ?_)
          first | (refine ih _ (by omega) (a + 1) _ σ1 rfl (by omega) (by omega) hf hS (qn_eq eσ1) (fun i hi => (qn_ne eσ1 (Or.inr (by omega))).trans (e2 i hi)) ?_; rw [← u1 ⟨decide_eq_true h68, h84⟩]; exact hk) | (refine ih _ (by omega) (a + 1) d σ rfl (by omega) hd hf hS e1 e2 ?_; rw [← u2 (fun z => absurd (of_decide_eq_true z.1) (fun y => y h68))]; exact hk) | (refine ih _ (by omega) (a + 1) d σ rfl (by omega) hd hf hS e1 e2 ?_; rw [← u2 (fun z => absurd z.2 (by omega))]; exact hk)
        · skip
          have h68 := nI_neT (a := (q_pi S a) &&& (q_pi S b)) (b := 0) (by omega) (by decide) h68
          refine And.intro rfl (Exists.intro 211 (And.intro rfl ?_))
          refine Exists.intro (a) (Exists.intro (nI (q_dys (q_mt S) b a)) (And.intro rfl (And.intro ⟨12, rfl, by omega, by decide⟩ (And.intro (e2 a hlt) ?_))))
          refine And.intro rfl (Exists.intro 211 (And.intro rfl ?_))
          refine Exists.intro (b) (Exists.intro (nI d) (And.intro rfl (And.intro ⟨12, rfl, by omega, by decide⟩ (And.intro e1 ?_))))
          refine And.intro (fun h84 => ?_) (fun h84 => ?_)
          · skip
            have h84 := nI_ltT (a := q_dys (q_mt S) b a) (b := d) (by omega) (by omega) h84
            refine Exists.intro (nI (a + 1)) (And.intro (nI_add _ _) ?_)
            first | (refine ih _ (by omega) (a + 1) _ σ1 rfl (by omega) (by omega) hf hS (qn_eq eσ1) (fun i hi => (qn_ne eσ1 (Or.inr (by omega))).trans (e2 i hi)) ?_; rw [← u1 ⟨decide_eq_true h68, h84⟩]; exact hk) | (refine ih _ (by omega) (a + 1) d σ rfl (by omega) hd hf hS e1 e2 ?_; rw [← u2 (fun z => absurd (of_decide_eq_true z.1) (fun y => y h68))]; exact hk) | (refine ih _ (by omega) (a + 1) d σ rfl (by omega) hd hf hS e1 e2 ?_; rw [← u2 (fun z => absurd z.2 (by omega))]; exact hk)
          · skip
            have h84 := nI_ltF (a := q_dys (q_mt S) b a) (b := d) (by omega) (by omega) h84
            refine And.intro rfl (Exists.intro 211 (And.intro rfl ?_))
            refine And.intro rfl (Exists.intro 211 (And.intro rfl ?_))
            refine Exists.intro (a) (Exists.intro (nI (q_dys (q_mt S) b a)) (And.intro rfl (And.intro ⟨12, rfl, by omega, by decide⟩ (And.intro (e2 a hlt) ?_))))
            refine Exists.intro (nI 1) (And.intro rfl ?_)
            refine Exists.intro (nI (q_dys (q_mt S) b a + 1)) (And.intro (nI_add _ _) ?_)
            obtain ⟨σ1, eσ1⟩ : ∃ zs, zs = (qx_wi σ 211 b (nI (q_dys (q_mt S) b a + 1))) := ⟨_, rfl⟩
            have fσ1 := qn_wi eσ1
            refine Exists.intro (b) (Exists.intro σ1 (And.intro rfl (And.intro ⟨12, rfl, by omega, by decide⟩ (And.intro eσ1.symm ?_))))
            have hS_σ1 : qx_mi σ1 207 = S := (fσ1.row 207 (fun _ => rfl)).trans hS
            have hf_σ1 : ql [(211, none)] σ0 σ1 := hf.tr fσ1
            refine Exists.intro (nI (a + 1)) (And.intro (nI_add _ _) ?_)
            first | (refine ih _ (by omega) (a + 1) _ σ1 rfl (by omega) (by omega) hf_σ1 hS_σ1 (qn_eq eσ1) (fun i hi => (qn_ne eσ1 (Or.inr (by omega))).trans (e2 i hi)) ?_; rw [← u1 ⟨decide_eq_true h68, h84⟩]; exact hk) | (refine ih _ (by omega) (a + 1) d σ rfl (by omega) hd hf hS e1 e2 ?_; rw [← u2 (fun z => absurd (of_decide_eq_true z.1) (fun y => y h68))]; exact hk) | (refine ih _ (by omega) (a + 1) d σ rfl (by omega) hd hf hS e1 e2 ?_; rw [← u2 (fun z => absurd z.2 (by omega))]; exact hk)
    · obtain rfl : a = b := by omega
      rw [Nat.sub_self] at hk
      refine qy_wp_ok (c := CX12_laidOut) (cuts := [50, 108]) vX12_laidOut wX12_laidOut 2000 50 _ _ _ ?_
      refine And.intro (fun h53 => ?_) (fun h53 => ?_)
      · skip
        have h53 := nI_leT (a := a) (b := a) (by omega) (by omega) h53
        refine qx_K_le (ls := [.ref 197, .int x, .int (nI last), .int (nI a), .retAddr 0]) ⟨Or.inr rfl, Or.inr rfl, Or.inr rfl, Or.inr rfl, Or.inl rfl, trivial⟩ ?_
        exact hk σ hf hS e1 e2
      · skip
        have h53 := nI_leF (a := a) (b := a) (by omega) (by omega) h53
        exact absurd h53 (by omega)
theorem l_laidOut1 {G : qx_G} {σ0 : qx_S} {S : qS} (g : gS S) (hB : iB S) {x : Int32} (hx : x = -1 ∨ ∃ k, k < s_n S 5 ∧ x = nI k) : ∀ (m b : Nat) (σ : qx_S), m = s_n S 5 - b → b ≤ s_n S 5 → ql [(211, none)] σ0 σ → qx_mi σ 207 = S → (∀ i, i < b → qx_mi σ 211 i = nI (q_dys (q_mt S) b i)) →
    qx_K G qc_T 1 RX12 YX12_laidOut 30 [.ref 197, .int x, .int (nI (q_dyl (q_mt S) b)), .int (nI b), .retAddr 0] [] σ (fun r s => r = some (.int (nI (if x = -1 then q_dyl (q_mt S) (s_n S 5) else q_dys (q_mt S) (s_n S 5) x.toNatClampNeg))) ∧ ql [(211, none)] σ0 s) := by
  intro m
  have b12 := hB.2.1
  induction m using Nat.strongRecOn with
  | _ m ih =>
    intro b σ hm hb hf hS e2
    have dl := q_dyl_le (q_mt S) b
    rcases Nat.lt_or_ge b (s_n S 5) with hlt | hge
    · have dl2 := q_dys_le (q_mt S) (b + 1) b
      have db : q_dys (q_mt S) (b + 1) b = q_dyf (fun a => q_mt S a b) (q_dys (q_mt S) b) b 0 1 := if_pos rfl
      have u1 : q_dyl (q_mt S) b < q_dys (q_mt S) (b + 1) b → q_dyl (q_mt S) (b + 1) = q_dys (q_mt S) (b + 1) b := fun z => if_pos z
      have u2 : ¬ q_dyl (q_mt S) b < q_dys (q_mt S) (b + 1) b → q_dyl (q_mt S) (b + 1) = q_dyl (q_mt S) b := fun z => if_neg z
      have step : ∀ s, ql [(211, none)] σ0 s → qx_mi s 207 = S → qx_mi s 211 b = nI (q_dys (q_mt S) (b + 1) b) → (∀ i, i < b → qx_mi s 211 i = nI (q_dys (q_mt S) b i)) → qx_K G qc_T 1 RX12 YX12_laidOut 108 [.ref 197, .int x, .int (nI (q_dyl (q_mt S) b)), .int (nI b), .retAddr 0] [] s (fun r s => r = some (.int (nI (if x = -1 then q_dyl (q_mt S) (s_n S 5) else q_dys (q_mt S) (s_n S 5) x.toNatClampNeg))) ∧ ql [(211, none)] σ0 s) := by
        intro s y1 y2 y3 y4
        have y5 : ∀ i, i < b + 1 → qx_mi s 211 i = nI (q_dys (q_mt S) (b + 1) i) := by
          intro i hi
          by_cases e : i = b
          · subst e
            exact y3
          · rw [y4 i (by omega)]
            congr 1
            exact (if_neg e).symm
        refine qy_wp_ok (c := CX12_laidOut) (cuts := [30]) vX12_laidOut wX12_laidOut 2000 108 _ _ _ ?_
        refine And.intro rfl (Exists.intro 211 (And.intro rfl ?_))
        refine Exists.intro (b) (Exists.intro (nI (q_dys (q_mt S) (b + 1) b)) (And.intro rfl (And.intro ⟨12, rfl, by omega, by decide⟩ (And.intro y3 ?_))))
        refine And.intro (fun h115 => ?_) (fun h115 => ?_)
        · skip
          have h115 := nI_leT (a := q_dys (q_mt S) (b + 1) b) (b := q_dyl (q_mt S) b) (by omega) (by omega) h115
          refine Exists.intro (nI (b + 1)) (And.intro (nI_add _ _) ?_)
          first | (have z := ih _ (by omega) (b + 1) s rfl (by omega) y1 y2 y5; rw [u1 h115] at z; exact z) | (have z := ih _ (by omega) (b + 1) s rfl (by omega) y1 y2 y5; rw [u2 (by omega)] at z; exact z)
        · skip
          have h115 := nI_leF (a := q_dys (q_mt S) (b + 1) b) (b := q_dyl (q_mt S) b) (by omega) (by omega) h115
          refine And.intro rfl (Exists.intro 211 (And.intro rfl ?_))
          refine Exists.intro (b) (Exists.intro (nI (q_dys (q_mt S) (b + 1) b)) (And.intro rfl (And.intro ⟨12, rfl, by omega, by decide⟩ (And.intro y3 ?_))))
          refine Exists.intro (nI (b + 1)) (And.intro (nI_add _ _) ?_)
          first | (have z := ih _ (by omega) (b + 1) s rfl (by omega) y1 y2 y5; rw [u1 h115] at z; exact z) | (have z := ih _ (by omega) (b + 1) s rfl (by omega) y1 y2 y5; rw [u2 (by omega)] at z; exact z)
      refine qy_wp_ok (c := CX12_laidOut) (cuts := [50, 108]) vX12_laidOut wX12_laidOut 2000 30 _ _ _ ?_
      refine And.intro rfl (Exists.intro 207 (And.intro rfl ?_))
      refine Exists.intro (nI 5) (And.intro rfl ?_)
      refine Exists.intro (5) (Exists.intro (nI (s_n S 5)) (And.intro rfl (And.intro ⟨2788, rfl, by decide, by decide⟩ (And.intro ((congrFun hS _).trans hB.1) ?_))))
      refine And.intro (fun h37 => ?_) (fun h37 => ?_)
      · skip
        have h37 := nI_leT (a := s_n S 5) (b := b) (by omega) (by omega) h37
        exact absurd h37 (by omega)
      · skip
        have h37 := nI_leF (a := s_n S 5) (b := b) (by omega) (by omega) h37
        refine And.intro rfl (Exists.intro 211 (And.intro rfl ?_))
        refine Exists.intro (nI 1) (And.intro rfl ?_)
        obtain ⟨σ1, eσ1⟩ : ∃ zs, zs = (qx_wi σ 211 b (nI 1)) := ⟨_, rfl⟩
        have fσ1 := qn_wi eσ1
        refine Exists.intro (b) (Exists.intro σ1 (And.intro rfl (And.intro ⟨12, rfl, by omega, by decide⟩ (And.intro eσ1.symm ?_))))
        have hS_σ1 : qx_mi σ1 207 = S := (fσ1.row 207 (fun _ => rfl)).trans hS
        have hf_σ1 : ql [(211, none)] σ0 σ1 := hf.tr fσ1
        refine Exists.intro (nI 0) (And.intro rfl ?_)
        refine l_laidOut2 g hB hlt _ 0 1 σ1 rfl (by omega) (by omega) hf_σ1 hS_σ1 (qn_eq eσ1) (fun i hi => (qn_ne eσ1 (Or.inr (by omega))).trans (e2 i hi)) (fun s y1 y2 y3 y4 => step s y1 y2 ?_ y4)
        rw [y3, db]
        rfl
    · obtain rfl : b = s_n S 5 := by omega
      rcases hx with rfl | ⟨k, hk, rfl⟩
      · skip
        rw [if_pos rfl]
        refine qy_wp_ok (c := CX12_laidOut) (cuts := [50, 108]) vX12_laidOut wX12_laidOut 2000 30 _ _ _ ?_
        refine And.intro rfl (Exists.intro 207 (And.intro rfl ?_))
        refine Exists.intro (nI 5) (And.intro rfl ?_)
        refine Exists.intro (5) (Exists.intro (nI (s_n S 5)) (And.intro rfl (And.intro ⟨2788, rfl, by decide, by decide⟩ (And.intro ((congrFun hS _).trans hB.1) ?_))))
        refine And.intro (fun h37 => ?_) (fun h37 => ?_)
        · skip
          have h37 := nI_leT (a := s_n S 5) (b := s_n S 5) (by omega) (by omega) h37
          refine Exists.intro ((-1)) (And.intro (by decide) ?_)
          refine And.intro (fun h137 => ?_) (fun h137 => ?_)
          · skip
            exact absurd (by decide) h137
          · skip
            exact ⟨rfl, hf⟩
        · skip
          have h37 := nI_leF (a := s_n S 5) (b := s_n S 5) (by omega) (by omega) h37
          exact absurd h37 (by omega)
      · rw [if_neg (by intro e; have := congrArg Int32.toInt e; rw [nI_toInt (by omega)] at this; rw [show (-1 : Int32).toInt = -1 from rfl] at this; omega), nI_clamp (n := k) (by omega)]
        refine qy_wp_ok (c := CX12_laidOut) (cuts := [50, 108]) vX12_laidOut wX12_laidOut 2000 30 _ _ _ ?_
        refine And.intro rfl (Exists.intro 207 (And.intro rfl ?_))
        refine Exists.intro (nI 5) (And.intro rfl ?_)
        refine Exists.intro (5) (Exists.intro (nI (s_n S 5)) (And.intro rfl (And.intro ⟨2788, rfl, by decide, by decide⟩ (And.intro ((congrFun hS _).trans hB.1) ?_))))
        refine And.intro (fun h37 => ?_) (fun h37 => ?_)
        · skip
          have h37 := nI_leT (a := s_n S 5) (b := s_n S 5) (by omega) (by omega) h37
          refine Exists.intro ((-1)) (And.intro (by decide) ?_)
          refine And.intro (fun h137 => ?_) (fun h137 => ?_)
          · skip
            refine And.intro rfl (Exists.intro 211 (And.intro rfl ?_))
            refine Exists.intro (k) (Exists.intro (nI (q_dys (q_mt S) (s_n S 5) k)) (And.intro rfl (And.intro ⟨12, rfl, by omega, by decide⟩ (And.intro (e2 k hk) ?_))))
            exact ⟨rfl, hf⟩
          · skip
            exact absurd h137 (by intro e; have := congrArg Int32.toInt e; rw [nI_toInt (by omega)] at this; rw [show (-1 : Int32).toInt = -1 from rfl] at this; omega)
        · skip
          have h37 := nI_leF (a := s_n S 5) (b := s_n S 5) (by omega) (by omega) h37
          exact absurd h37 (by omega)

