/-! THE CLASS: places, counts, force -/
theorem q_set_t {f : Nat → Bool} {n : Nat} (h : f n = true) : q_set f (n + 1) = q_set f n ||| 2 ^ n := if_pos h
theorem q_set_f {f : Nat → Bool} {n : Nat} (h : f n = false) : q_set f (n + 1) = q_set f n := if_neg (by rw [h]; decide)
theorem l_whoIsAt {G : qx_G} {σ : qx_S} {S : qS} {rf : Option qR} {e : Nat} (hI : cI σ S rf e) {q : Nat} (hq : q < 8) : ∀ (m p : Nat), m + p = s_n S 1 → qx_K G qc_T 0 RX11 YX11_whoIsAt 4 [.ref 3, .int (nI q), .int (nI (q_set (q_p0 S q) p)), .int (nI p)] [] σ (qr (nI (q_set (q_p0 S q) (s_n S 1))) σ) := by
  intro m
  have hpe := hI.1.pe
  have e5 := hI.2.1.1.2.1.trans hI.1.1.2.1.2.1.1
  induction m with
  | zero =>
    intro p hp
    obtain rfl : p = s_n S 1 := by omega
    refine qy_wp_ok (c := CX11_whoIsAt) (cuts := [4]) vX11_whoIsAt wX11_whoIsAt 2000 4 _ _ _ ?_
    refine And.intro rfl (Exists.intro 15 (And.intro rfl ?_))
    refine And.intro rfl (Exists.intro 16 (And.intro rfl ?_))
    refine And.intro rfl (Exists.intro 5 (Exists.intro (nI (s_n S 1)) (And.intro rfl (And.intro e5 ?_))))
    refine And.intro (fun h15 => ?_) (fun h15 => ?_)
    · skip
      have h15 := nI_leT (a := s_n S 1) (b := s_n S 1) (by omega) (by omega) h15
      exact ⟨rfl, rfl⟩
    · skip
      have h15 := nI_leF (a := s_n S 1) (b := s_n S 1) (by omega) (by omega) h15
      exact absurd h15 (by omega)
  | succ m ih =>
    intro p hp
    have hp1 : p < s_n S 1 := by omega
    have a8 := hI.at8 hp1
    refine qy_wp_ok (c := CX11_whoIsAt) (cuts := [4]) vX11_whoIsAt wX11_whoIsAt 2000 4 _ _ _ ?_
    refine And.intro rfl (Exists.intro 15 (And.intro rfl ?_))
    refine And.intro rfl (Exists.intro 16 (And.intro rfl ?_))
    refine And.intro rfl (Exists.intro 5 (Exists.intro (nI (s_n S 1)) (And.intro rfl (And.intro e5 ?_))))
    refine And.intro (fun h15 => ?_) (fun h15 => ?_)
    · skip
      have h15 := nI_leT (a := s_n S 1) (b := p) (by omega) (by omega) h15
      exact absurd h15 (by omega)
    · skip
      have h15 := nI_leF (a := s_n S 1) (b := p) (by omega) (by omega) h15
      refine And.intro rfl (Exists.intro 15 (And.intro rfl ?_))
      refine And.intro rfl (Exists.intro 21 (And.intro rfl ?_))
      refine And.intro rfl (Exists.intro 22 (And.intro rfl ?_))
      refine Exists.intro (p) (Exists.intro (nI (s_at S p)) (And.intro rfl (And.intro ⟨10, rfl, by omega, by decide⟩ (And.intro (hI.at hp1) ?_))))
      refine And.intro (fun h31 => ?_) (fun h31 => ?_)
      · skip
        have h31 := nI_neT (a := s_at S p) (b := q) (by omega) (by omega) h31
        refine Exists.intro (nI (p + 1)) (And.intro (nI_add _ _) ?_)
        have z := ih (p + 1) (by omega)
        first | (rw [q_set_t (f := q_p0 S q) (decide_eq_true h31)] at z; exact z) | (rw [q_set_f (f := q_p0 S q) (decide_eq_false h31)] at z; exact z)
      · skip
        have h31 := nI_eqT (a := s_at S p) (b := q) (by omega) (by omega) h31
        refine Exists.intro (nI 1) (And.intro rfl ?_)
        refine Exists.intro (nI (2 ^ p)) (And.intro (nI_sh1 (by omega)) ?_)
        refine Exists.intro (nI ((q_set (q_p0 S q) p) ||| (2 ^ p))) (And.intro (nI_or _ _) ?_)
        refine Exists.intro (nI (p + 1)) (And.intro (nI_add _ _) ?_)
        have z := ih (p + 1) (by omega)
        first | (rw [q_set_t (f := q_p0 S q) (decide_eq_true h31)] at z; exact z) | (rw [q_set_f (f := q_p0 S q) (decide_eq_false h31)] at z; exact z)
theorem c_whoIsAt {G : qx_G} {σ : qx_S} {S : qS} {rf : Option qR} {e : Nat} (hI : cI σ S rf e) {q : Nat} (hq : q < 8) : qx_M G qc_T 0 YX11_whoIsAt [.ref 3, .int (nI q)] σ (qr (nI (q_set (q_p0 S q) (s_n S 1))) σ) := by
  refine qx_M_in rfl (Nat.le_of_ble_eq_true rfl) ?_
  refine qy_wp_ok (c := CX11_whoIsAt) (cuts := [4]) vX11_whoIsAt wX11_whoIsAt 2000 0 _ _ _ ?_
  refine Exists.intro (nI 0) (And.intro rfl ?_)
  refine Exists.intro (nI 0) (And.intro rfl ?_)
  exact l_whoIsAt hI hq (s_n S 1) 0 (by omega)
theorem l_whoCome {G : qx_G} {σ0 : qx_S} {S : qS} {rf : Option qR} {e : Nat} {q : Nat} (hq : q < 8) : ∀ (m p : Nat) (σ : qx_S), m + p = s_n S 1 → cI σ S rf e → ql kLw σ0 σ → qx_K G qc_T 4 RX11 YX11_whoWouldComeTo 4 [.ref 3, .int (nI q), .int (nI (q_set (q_p1 S rf q) p)), .int (nI p), .retAddr 0] [] σ (fun r s => r = some (.int (nI (q_set (q_p1 S rf q) (s_n S 1)))) ∧ ql kLw σ0 s ∧ cI s S rf e) := by
  intro m
  induction m with
  | zero =>
    intro p σ hp hI hf
    have hpe := hI.1.pe
    have e5 := hI.2.1.1.2.1.trans hI.1.1.2.1.2.1.1
    obtain rfl : p = s_n S 1 := by omega
    refine qy_wp_ok (c := CX11_whoWouldComeTo) (cuts := [4]) vX11_whoWouldComeTo wX11_whoWouldComeTo 2000 4 _ _ _ ?_
    refine And.intro rfl (Exists.intro 15 (And.intro rfl ?_))
    refine And.intro rfl (Exists.intro 16 (And.intro rfl ?_))
    refine And.intro rfl (Exists.intro 5 (Exists.intro (nI (s_n S 1)) (And.intro rfl (And.intro e5 ?_))))
    refine And.intro (fun h15 => ?_) (fun h15 => ?_)
    · skip
      have h15 := nI_leT (a := s_n S 1) (b := s_n S 1) (by omega) (by omega) h15
      exact ⟨rfl, hf, hI⟩
    · skip
      have h15 := nI_leF (a := s_n S 1) (b := s_n S 1) (by omega) (by omega) h15
      exact absurd h15 (by omega)
  | succ m ih =>
    intro p σ hp hI hf
    have hpe := hI.1.pe
    have e5 := hI.2.1.1.2.1.trans hI.1.1.2.1.2.1.1
    have hp1 : p < s_n S 1 := by omega
    have a8 := hI.at8 hp1
    have n1 : s_at S p = q → q_p1 S rf q p = false := fun h => by
      unfold q_p1
      rw [decide_eq_true h]
      rfl
    have n2 : decide (q_lk S rf p (s_at S p) (s_at S p) < q_lk S rf p (s_at S p) q) = false → q_p1 S rf q p = false := fun h => by
      unfold q_p1
      rw [h]
      exact Bool.and_false _
    have n3 : ¬ s_at S p = q → decide (q_lk S rf p (s_at S p) (s_at S p) < q_lk S rf p (s_at S p) q) = true → q_p1 S rf q p = true := fun h1 h => by
      unfold q_p1
      rw [h, decide_eq_false h1]
      rfl
    refine qy_wp_ok (c := CX11_whoWouldComeTo) (cuts := [4]) vX11_whoWouldComeTo wX11_whoWouldComeTo 2000 4 _ _ _ ?_
    refine And.intro rfl (Exists.intro 15 (And.intro rfl ?_))
    refine And.intro rfl (Exists.intro 16 (And.intro rfl ?_))
    refine And.intro rfl (Exists.intro 5 (Exists.intro (nI (s_n S 1)) (And.intro rfl (And.intro e5 ?_))))
    refine And.intro (fun h15 => ?_) (fun h15 => ?_)
    · skip
      have h15 := nI_leT (a := s_n S 1) (b := p) (by omega) (by omega) h15
      exact absurd h15 (by omega)
    · skip
      have h15 := nI_leF (a := s_n S 1) (b := p) (by omega) (by omega) h15
      refine And.intro rfl (Exists.intro 15 (And.intro rfl ?_))
      refine And.intro rfl (Exists.intro 21 (And.intro rfl ?_))
      refine And.intro rfl (Exists.intro 22 (And.intro rfl ?_))
      refine Exists.intro (p) (Exists.intro (nI (s_at S p)) (And.intro rfl (And.intro ⟨10, rfl, by omega, by decide⟩ (And.intro (hI.at hp1) ?_))))
      refine And.intro (fun h35 => ?_) (fun h35 => ?_)
      · skip
        have h35 := nI_eqT (a := s_at S p) (b := q) (by omega) (by omega) h35
        refine Exists.intro (nI (p + 1)) (And.intro (nI_add _ _) ?_)
        refine qx_K_le (ls := [.ref 3, .int (nI q), .int (nI (q_set (q_p1 S rf q) p)), .int (nI (p + 1)), .retAddr 0]) ⟨Or.inr rfl, Or.inr rfl, Or.inr rfl, Or.inr rfl, Or.inl rfl, trivial⟩ ?_
        have z := ih (p + 1) _ (by omega) hI hf
        first | (rw [q_set_t (n3 h35 h49)] at z; exact z) | (rw [q_set_f (n1 h35)] at z; exact z) | (rw [q_set_f (n2 h49)] at z; exact z)
      · skip
        have h35 := nI_neT (a := s_at S p) (b := q) (by omega) (by omega) h35
        refine And.intro rfl (Exists.intro 156 (And.intro rfl ?_))
        refine And.intro rfl (Exists.intro _ (And.intro (by decide) (qx_M_mono (c_likesMore hI.W hI.K cH_rf hp1 a8 hq) ?_)))
        rintro _ σ1 ⟨rfl, fσ1, kσ1⟩
        have hf_σ1 : ql kLw σ0 σ1 := hf.tr fσ1
        have hI_σ1 : cI σ1 S rf e := hI.lw fσ1 kσ1
        refine And.intro (fun h49 => ?_) (fun h49 => ?_)
        · skip
          have h49 := bI_f h49
          refine Exists.intro (nI (p + 1)) (And.intro (nI_add _ _) ?_)
          refine qx_K_le (ls := [.ref 3, .int (nI q), .int (nI (q_set (q_p1 S rf q) p)), .int (nI (p + 1)), .retAddr 0]) ⟨Or.inr rfl, Or.inr rfl, Or.inr rfl, Or.inr rfl, Or.inl rfl, trivial⟩ ?_
          have z := ih (p + 1) _ (by omega) hI_σ1 hf_σ1
          first | (rw [q_set_t (n3 h35 h49)] at z; exact z) | (rw [q_set_f (n1 h35)] at z; exact z) | (rw [q_set_f (n2 h49)] at z; exact z)
        · skip
          have h49 := bI_t h49
          refine Exists.intro (nI 1) (And.intro rfl ?_)
          refine Exists.intro (nI (2 ^ p)) (And.intro (nI_sh1 (by omega)) ?_)
          refine Exists.intro (nI ((q_set (q_p1 S rf q) p) ||| (2 ^ p))) (And.intro (nI_or _ _) ?_)
          refine Exists.intro (nI (p + 1)) (And.intro (nI_add _ _) ?_)
          refine qx_K_le (ls := [.ref 3, .int (nI q), .int (nI ((q_set (q_p1 S rf q) p) ||| (2 ^ p))), .int (nI (p + 1)), .retAddr 0]) ⟨Or.inr rfl, Or.inr rfl, Or.inr rfl, Or.inr rfl, Or.inl rfl, trivial⟩ ?_
          have z := ih (p + 1) _ (by omega) hI_σ1 hf_σ1
          first | (rw [q_set_t (n3 h35 h49)] at z; exact z) | (rw [q_set_f (n1 h35)] at z; exact z) | (rw [q_set_f (n2 h49)] at z; exact z)
theorem c_whoCome {G : qx_G} {σ : qx_S} {S : qS} {rf : Option qR} {e : Nat} (hI : cI σ S rf e) {q : Nat} (hq : q < 8) : qx_M G qc_T 4 YX11_whoWouldComeTo [.ref 3, .int (nI q)] σ (fun r s => r = some (.int (nI (q_set (q_p1 S rf q) (s_n S 1)))) ∧ ql kLw σ s ∧ cI s S rf e) := by
  refine qx_M_in rfl (Nat.le_of_ble_eq_true rfl) ?_
  refine qy_wp_ok (c := CX11_whoWouldComeTo) (cuts := [4]) vX11_whoWouldComeTo wX11_whoWouldComeTo 2000 0 _ _ _ ?_
  refine Exists.intro (nI 0) (And.intro rfl ?_)
  refine Exists.intro (nI 0) (And.intro rfl ?_)
  exact l_whoCome hq (s_n S 1) 0 σ (by omega) hI qf.rf
theorem l_whoLeave {G : qx_G} {σ0 : qx_S} {S : qS} {rf : Option qR} {e : Nat} {q : Nat} (hq : q < 8) : ∀ (m p : Nat) (σ : qx_S), m + p = s_n S 1 → cI σ S rf e → ql kLw σ0 σ → qx_K G qc_T 5 RX11 YX11_whoWouldLeave 4 [.ref 3, .int (nI q), .int (nI (q_set (q_p2 S rf q) p)), .int (nI p)] [] σ (fun r s => r = some (.int (nI (q_set (q_p2 S rf q) (s_n S 1)))) ∧ ql kLw σ0 s ∧ cI s S rf e) := by
  intro m
  induction m with
  | zero =>
    intro p σ hp hI hf
    have hpe := hI.1.pe
    have e5 := hI.2.1.1.2.1.trans hI.1.1.2.1.2.1.1
    obtain rfl : p = s_n S 1 := by omega
    refine qy_wp_ok (c := CX11_whoWouldLeave) (cuts := [4]) vX11_whoWouldLeave wX11_whoWouldLeave 2000 4 _ _ _ ?_
    refine And.intro rfl (Exists.intro 15 (And.intro rfl ?_))
    refine And.intro rfl (Exists.intro 16 (And.intro rfl ?_))
    refine And.intro rfl (Exists.intro 5 (Exists.intro (nI (s_n S 1)) (And.intro rfl (And.intro e5 ?_))))
    refine And.intro (fun h15 => ?_) (fun h15 => ?_)
    · skip
      have h15 := nI_leT (a := s_n S 1) (b := s_n S 1) (by omega) (by omega) h15
      exact ⟨rfl, hf, hI⟩
    · skip
      have h15 := nI_leF (a := s_n S 1) (b := s_n S 1) (by omega) (by omega) h15
      exact absurd h15 (by omega)
  | succ m ih =>
    intro p σ hp hI hf
    have hpe := hI.1.pe
    have e5 := hI.2.1.1.2.1.trans hI.1.1.2.1.2.1.1
    have hp1 : p < s_n S 1 := by omega
    have a8 := hI.at8 hp1
    have n1 : ¬ s_at S p = q → q_p2 S rf q p = false := fun h => by
      unfold q_p2
      rw [decide_eq_false h]
      rfl
    have n2 : s_at S p = q → (!q_aw S rf none p q) = true → q_p2 S rf q p = false := fun h1 h => by
      unfold q_p2
      rw [h1, (Bool.not_eq_true' _).mp h]
      exact Bool.and_false _
    have n3 : s_at S p = q → (!q_aw S rf none p q) = false → q_p2 S rf q p = true := fun h1 h => by
      unfold q_p2
      rw [h1, (Bool.not_eq_false' _).mp h, decide_eq_true rfl]
      rfl
    refine qy_wp_ok (c := CX11_whoWouldLeave) (cuts := [4]) vX11_whoWouldLeave wX11_whoWouldLeave 2000 4 _ _ _ ?_
    refine And.intro rfl (Exists.intro 15 (And.intro rfl ?_))
    refine And.intro rfl (Exists.intro 16 (And.intro rfl ?_))
    refine And.intro rfl (Exists.intro 5 (Exists.intro (nI (s_n S 1)) (And.intro rfl (And.intro e5 ?_))))
    refine And.intro (fun h15 => ?_) (fun h15 => ?_)
    · skip
      have h15 := nI_leT (a := s_n S 1) (b := p) (by omega) (by omega) h15
      exact absurd h15 (by omega)
    · skip
      have h15 := nI_leF (a := s_n S 1) (b := p) (by omega) (by omega) h15
      refine And.intro rfl (Exists.intro 15 (And.intro rfl ?_))
      refine And.intro rfl (Exists.intro 21 (And.intro rfl ?_))
      refine And.intro rfl (Exists.intro 22 (And.intro rfl ?_))
      refine Exists.intro (p) (Exists.intro (nI (s_at S p)) (And.intro rfl (And.intro ⟨10, rfl, by omega, by decide⟩ (And.intro (hI.at hp1) ?_))))
      refine And.intro (fun h31 => ?_) (fun h31 => ?_)
      · skip
        have h31 := nI_neT (a := s_at S p) (b := q) (by omega) (by omega) h31
        refine Exists.intro (nI (p + 1)) (And.intro (nI_add _ _) ?_)
        have z := ih (p + 1) _ (by omega) hI hf
        first | (rw [q_set_t (n3 h31 h43)] at z; exact z) | (rw [q_set_f (n2 h31 h43)] at z; exact z) | (rw [q_set_f (n1 h31)] at z; exact z)
      · skip
        have h31 := nI_eqT (a := s_at S p) (b := q) (by omega) (by omega) h31
        refine And.intro rfl (Exists.intro 156 (And.intro rfl ?_))
        refine And.intro rfl (Exists.intro _ (And.intro (by decide) (qx_M_mono (c_content hI.W hI.K cH_rf hp1 hq) ?_)))
        rintro _ σ1 ⟨rfl, fσ1, kσ1⟩
        have hf_σ1 : ql kLw σ0 σ1 := hf.tr fσ1
        have hI_σ1 : cI σ1 S rf e := hI.lw fσ1 kσ1
        refine And.intro (fun h43 => ?_) (fun h43 => ?_)
        · skip
          have h43 := bI_t h43
          refine Exists.intro (nI (p + 1)) (And.intro (nI_add _ _) ?_)
          have z := ih (p + 1) _ (by omega) hI_σ1 hf_σ1
          first | (rw [q_set_t (n3 h31 h43)] at z; exact z) | (rw [q_set_f (n2 h31 h43)] at z; exact z) | (rw [q_set_f (n1 h31)] at z; exact z)
        · skip
          have h43 := bI_f h43
          refine Exists.intro (nI 1) (And.intro rfl ?_)
          refine Exists.intro (nI (2 ^ p)) (And.intro (nI_sh1 (by omega)) ?_)
          refine Exists.intro (nI ((q_set (q_p2 S rf q) p) ||| (2 ^ p))) (And.intro (nI_or _ _) ?_)
          refine Exists.intro (nI (p + 1)) (And.intro (nI_add _ _) ?_)
          have z := ih (p + 1) _ (by omega) hI_σ1 hf_σ1
          first | (rw [q_set_t (n3 h31 h43)] at z; exact z) | (rw [q_set_f (n2 h31 h43)] at z; exact z) | (rw [q_set_f (n1 h31)] at z; exact z)
theorem c_whoLeave {G : qx_G} {σ : qx_S} {S : qS} {rf : Option qR} {e : Nat} (hI : cI σ S rf e) {q : Nat} (hq : q < 8) : qx_M G qc_T 5 YX11_whoWouldLeave [.ref 3, .int (nI q)] σ (fun r s => r = some (.int (nI (q_set (q_p2 S rf q) (s_n S 1)))) ∧ ql kLw σ s ∧ cI s S rf e) := by
  refine qx_M_in rfl (Nat.le_of_ble_eq_true rfl) ?_
  refine qy_wp_ok (c := CX11_whoWouldLeave) (cuts := [4]) vX11_whoWouldLeave wX11_whoWouldLeave 2000 0 _ _ _ ?_
  refine Exists.intro (nI 0) (And.intro rfl ?_)
  refine Exists.intro (nI 0) (And.intro rfl ?_)
  exact l_whoLeave hq (s_n S 1) 0 σ (by omega) hI qf.rf
theorem c_place_no {G : qx_G} {σ : qx_S} {S : qS} {rf : Option qR} {e : Nat} (hI : cI σ S rf e) {x w : Int32} (hb : (q_is x (s_n S 0) && q_in64 w.toInt64 (lN 0) (lN 3)) = false) : qx_M G qc_T 6 YX11_place [.ref 3, .int x, .int w] σ (qr (-1) σ) := by
  have nw : q_is x (s_n S 0) = true → ∀ k, k ≤ 3 → ¬ w = nI k := fun h k hk z => by
    rw [h, z, q_in_ok (Nat.zero_le _) hk (by decide)] at hb
    cases hb
  refine qx_M_in rfl (Nat.le_of_ble_eq_true rfl) ?_
  refine qy_wp_ok (c := CX11_place) (cuts := []) vX11_place wX11_place 2000 0 _ _ _ ?_
  refine And.intro rfl (Exists.intro _ (And.intro (by decide) (qx_M_mono (c_isPlace hI.2.1.1 hI.1.1.2.1.1.1 x) ?_)))
  rintro _ _ ⟨rfl, rfl⟩
  refine And.intro (fun h5 => ?_) (fun h5 => ?_)
  · skip
    have h5 := bI_t h5
    refine And.intro (fun h11 => ?_) (fun h11_0 => ?_)
    · skip
      have h11 : w = nI 0 := h11
      exact absurd h11 (nw h5 0 (by decide))
    have h11_0 : ¬ w = nI 0 := h11_0
    refine And.intro (fun h11 => ?_) (fun h11_1 => ?_)
    · skip
      have h11 : w = nI 1 := h11
      exact absurd h11 (nw h5 1 (by decide))
    have h11_1 : ¬ w = nI 1 := h11_1
    refine And.intro (fun h11 => ?_) (fun h11_2 => ?_)
    · skip
      have h11 : w = nI 2 := h11
      exact absurd h11 (nw h5 2 (by decide))
    have h11_2 : ¬ w = nI 2 := h11_2
    refine And.intro (fun h11 => ?_) (fun h11_3 => ?_)
    · skip
      have h11 : w = nI 3 := h11
      exact absurd h11 (nw h5 3 (by decide))
    have h11_3 : ¬ w = nI 3 := h11_3
    refine Exists.intro ((-1)) (And.intro (by decide) ?_)
    exact ⟨rfl, rfl⟩
  · skip
    have h5 := bI_f h5
    refine Exists.intro ((-1)) (And.intro (by decide) ?_)
    exact ⟨rfl, rfl⟩
theorem c_place_3 {G : qx_G} {σ : qx_S} {S : qS} {rf : Option qR} {e : Nat} (hI : cI σ S rf e) {q : Nat} (hq : q < s_n S 0) : qx_M G qc_T 6 YX11_place [.ref 3, .int (nI q), .int (nI 3)] σ (qr (nI (q_ca S (nI q) (s_n S 2))) σ) := by
  have hpl := hI.1.pl
  refine qx_M_in rfl (Nat.le_of_ble_eq_true rfl) ?_
  refine qy_wp_ok (c := CX11_place) (cuts := []) vX11_place wX11_place 2000 0 _ _ _ ?_
  refine And.intro rfl (Exists.intro _ (And.intro (by decide) (qx_M_mono (c_isPlace hI.2.1.1 hI.1.1.2.1.1.1 (nI q)) ?_)))
  rintro _ _ ⟨rfl, rfl⟩
  refine And.intro (fun h5 => ?_) (fun h5 => ?_)
  · skip
    have h5 := bI_t h5
    refine And.intro (fun h => absurd h (by decide)) (fun _ => ?_)
    refine And.intro (fun h => absurd h (by decide)) (fun _ => ?_)
    refine And.intro (fun h => absurd h (by decide)) (fun _ => ?_)
    refine And.intro (fun _ => ?_) (fun h => absurd rfl h)
    refine And.intro rfl (Exists.intro 15 (And.intro rfl ?_))
    refine And.intro rfl (Exists.intro 16 (And.intro rfl ?_))
    refine And.intro rfl (Exists.intro 20 (And.intro rfl ?_))
    refine Exists.intro (q) (Exists.intro (nI (q_ca S (nI q) (s_n S 2))) (And.intro rfl (And.intro ⟨8, rfl, by omega, by decide⟩ (And.intro (hI.2.1.1.2.2.2.2.2.2.1 q (by omega)) ?_))))
    exact ⟨rfl, rfl⟩
  · skip
    have h5 := bI_f h5
    exact absurd (h5.symm.trans (q_is_ok hq (by omega))) (by decide)
theorem c_place_ok {G : qx_G} {σ : qx_S} {S : qS} {rf : Option qR} {e : Nat} (hI : cI σ S rf e) {q w : Nat} (hq : q < s_n S 0) (hw : w < 3) {f : Nat → Bool} (hf0 : w = 0 → f = q_p0 S q) (hf1 : w = 1 → f = q_p1 S rf q) (hf2 : w = 2 → f = q_p2 S rf q) : qx_M G qc_T 6 YX11_place [.ref 3, .int (nI q), .int (nI w)] σ (fun r s => r = some (.int (nI (q_set f (s_n S 1)))) ∧ ql kLw σ s ∧ cI s S rf e) := by
  have hpl := hI.1.pl
  refine qx_M_in rfl (Nat.le_of_ble_eq_true rfl) ?_
  refine qy_wp_ok (c := CX11_place) (cuts := []) vX11_place wX11_place 2000 0 _ _ _ ?_
  refine And.intro rfl (Exists.intro _ (And.intro (by decide) (qx_M_mono (c_isPlace hI.2.1.1 hI.1.1.2.1.1.1 (nI q)) ?_)))
  rintro _ _ ⟨rfl, rfl⟩
  refine And.intro (fun h5 => ?_) (fun h5 => ?_)
  · skip
    have h5 := bI_t h5
    refine And.intro (fun h11 => ?_) (fun h11_0 => ?_)
    · skip
      have h11 := nI_eqT (b := 0) (by omega) (by decide) h11
      refine And.intro rfl (Exists.intro _ (And.intro (by decide) (qx_M_mono (c_whoIsAt hI (Nat.lt_of_lt_of_le hq hpl)) ?_)))
      rintro _ _ ⟨rfl, rfl⟩
      exact ⟨by rw [hf0 h11], qf.rf, hI⟩
    have h11_0 := nI_neT (b := 0) (by omega) (by decide) h11_0
    refine And.intro (fun h11 => ?_) (fun h11_1 => ?_)
    · skip
      have h11 := nI_eqT (b := 1) (by omega) (by decide) h11
      refine And.intro rfl (Exists.intro _ (And.intro (by decide) (qx_M_mono (c_whoCome hI (Nat.lt_of_lt_of_le hq hpl)) ?_)))
      rintro _ σ1 ⟨rfl, fσ1, iσ1⟩
      exact ⟨by rw [hf1 h11], fσ1, iσ1⟩
    have h11_1 := nI_neT (b := 1) (by omega) (by decide) h11_1
    refine And.intro (fun h11 => ?_) (fun h11_2 => ?_)
    · skip
      have h11 := nI_eqT (b := 2) (by omega) (by decide) h11
      refine And.intro rfl (Exists.intro _ (And.intro (by decide) (qx_M_mono (c_whoLeave hI (Nat.lt_of_lt_of_le hq hpl)) ?_)))
      rintro _ σ1 ⟨rfl, fσ1, iσ1⟩
      exact ⟨by rw [hf2 h11], fσ1, iσ1⟩
    have h11_2 := nI_neT (b := 2) (by omega) (by decide) h11_2
    refine And.intro (fun h11 => ?_) (fun h11_3 => ?_)
    · skip
      have h11 := nI_eqT (b := 3) (by omega) (by decide) h11
      exact absurd h11 (by omega)
    have h11_3 := nI_neT (b := 3) (by omega) (by decide) h11_3
    omega
  · skip
    have h5 := bI_f h5
    exact absurd (h5.symm.trans (q_is_ok hq (by omega))) (by decide)

