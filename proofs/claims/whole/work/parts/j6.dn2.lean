/-! DONE: what the class finds -/
/-- growing goes on behind a level -/
def aDn (bg dp : Nat) (A Q : q_Q) : Prop := bg ≤ Q.2.1 ∧ q_pf A Q ∧ (∀ i, i < A.1 → Q.2.2.2.2.2.2 i = A.2.2.2.2.2.2 i) ∧ ∀ i, A.1 ≤ i → i < Q.1 → dp + 1 ≤ Q.2.2.2.1 i
/-- with k under way -/
def aDk (bg dp k : Nat) (A Q : q_Q) : Prop := aDn bg dp A Q ∧ k < Q.1
theorem q_aft_ad {bg dp k w pr : Nat} {A Q : q_Q} (hA : ∀ i, i < A.1 → A.2.2.2.1 i ≤ dp) (hB : ∀ i, bg ≤ i → i < A.1 → A.2.2.2.1 i = dp) (hk : bg ≤ k) (h : aDk bg dp k A Q) : aDk bg dp k A (q_ad Q w k pr) := by
  obtain ⟨⟨h1, h2, h3, h4⟩, h5⟩ := h
  have pf := q_pf_ad Q w k pr
  have dk : dp ≤ Q.2.2.2.1 k := by
    rcases Nat.lt_or_ge k A.1 with z | z
    · rw [(h2.2 k z).2.1, hB k hk z]
      exact Nat.le_refl _
    · have := h4 k z h5
      omega
  refine ⟨⟨by rw [pf.2]; exact h1, h2.tr pf.1, ?_, ?_⟩, Nat.lt_of_lt_of_le h5 pf.1.1.1⟩
  · intro i hi
    rw [← h3 i hi]
    unfold q_ad
    split
    · next z =>
      split
      · next z2 =>
        refine va_up_ne _ _ (fun y => ?_)
        rw [← y, (h2.2 i hi).2.1] at z2
        have := hA i hi
        omega
      · rfl
    · split
      · rfl
      · exact va_up_ne _ _ (by have := h2.1.1; omega)
  · intro i h6 h7
    rcases Nat.lt_or_ge i Q.1 with z | z
    · rw [(pf.1.2 i z).2.1]
      exact h4 i h6 z
    · rcases q_ad_cs Q w k pr with ⟨wy, e⟩ | ⟨a, b, c, d, e⟩
      · rw [e] at h7
        exact absurd h7 (Nat.not_lt.mpr z)
      · have e1 : (q_ad Q w k pr).1 = Q.1 + 1 := by rw [e]
        have ei : i = Q.1 := by omega
        have ne : ¬ q_ix Q w < Q.1 := fun y => by
          have : (q_ad Q w k pr).1 = Q.1 := by
            unfold q_ad
            rw [if_pos y]
            split <;> rfl
          omega
        have n2 : ¬ 2001 ≤ Q.1 := fun y => by
          have : (q_ad Q w k pr).1 = Q.1 := by
            unfold q_ad
            rw [if_neg ne, if_pos y]
          omega
        have : (q_ad Q w k pr).2.2.2.1 = va_up Q.2.2.2.1 Q.1 (Q.2.2.2.1 k + 1) := by
          unfold q_ad
          rw [if_neg ne, if_neg n2]
        rw [this, ei, va_up_self]
        omega
theorem q_aft_qv {S : qS} {rf : Option qR} {bg dp k w a b : Nat} {A Q : q_Q} (hA : ∀ i, i < A.1 → A.2.2.2.1 i ≤ dp) (hB : ∀ i, bg ≤ i → i < A.1 → A.2.2.2.1 i = dp) (hk : bg ≤ k) (h : aDk bg dp k A Q) : aDk bg dp k A (q_qv S rf k w a b Q) := by
  unfold q_qv
  split
  · exact h
  · split
    · exact q_aft_ad hA hB hk h
    · exact h
theorem q_aft {S : qS} {rf : Option qR} {bg dp : Nat} {A : q_Q} (hA : ∀ i, i < A.1 → A.2.2.2.1 i ≤ dp) (hB : ∀ i, bg ≤ i → i < A.1 → A.2.2.2.1 i = dp) : ∀ (m : Nat) (Q : q_Q), aDn bg dp A Q → aDn bg dp A (q_grn S rf m Q)
  | 0, _, h => h
  | m + 1, Q, h => by
    refine q_aft hA hB m (q_gro S rf Q) ?_
    cases z : q_gok Q with
    | false => rw [q_gro_no z]; exact h
    | true =>
      rw [q_gro_y z]
      have ok := q_gok_y z
      have k : aDk bg dp Q.2.1 A (q_qa S rf Q.2.1 (Q.2.2.1 Q.2.1) Q) := q_bd_it (P := aDk bg dp Q.2.1 A) (fun a Q' h' => q_bd_it (P := aDk bg dp Q.2.1 A) (fun b Q' h' => q_aft_qv hA hB h.1 h') _ _ Q' h') _ _ Q ⟨h, ok.1⟩
      obtain ⟨⟨k1, k2, k3, k4⟩, k5⟩ := k
      exact ⟨Nat.le_trans h.1 (Nat.le_succ _), ⟨⟨k2.1.1, Nat.le_trans h.2.1.1.2 (Nat.le_succ _)⟩, k2.2⟩, k3, k4⟩
theorem q_gt_grn {S : qS} {rf : Option qR} {d : Nat} : ∀ (m : Nat) (Q : q_Q), ∃ n, q_gt S rf d m Q = q_grn S rf n Q
  | 0, Q => ⟨0, rfl⟩
  | m + 1, Q => by
    unfold q_gt
    split
    · split
      · obtain ⟨n, e⟩ := q_gt_grn (S := S) (rf := rf) (d := d) m (q_gro S rf Q)
        exact ⟨n + 1, e⟩
      · exact ⟨0, rfl⟩
    · exact ⟨0, rfl⟩
theorem q_gt_stop {S : qS} {rf : Option qR} {d : Nat} : ∀ (m : Nat) (Q : q_Q), 2001 ≤ m + Q.2.1 → q_gok (q_gt S rf d m Q) = false ∨ d ≤ (q_gt S rf d m Q).2.2.2.1 (q_gt S rf d m Q).2.1
  | 0, Q, h => by
    left
    show q_gok Q = false
    cases z : q_gok Q with
    | false => rfl
    | true =>
      have := q_gok_y z
      omega
  | m + 1, Q, h => by
    unfold q_gt
    split
    · next z =>
      split
      · next y =>
        refine q_gt_stop m (q_gro S rf Q) ?_
        rw [q_gro_y y, (q_pf_qg S rf Q).2]
        omega
      · next y =>
        left
        cases w : q_gok Q with
        | false => rfl
        | true => exact absurd w y
    · next z =>
      rcases Nat.lt_or_ge Q.2.1 Q.1 with y | y
      · right
        exact Nat.not_lt.mp (fun w => z ⟨y, w⟩)
      · left
        unfold q_gok
        rw [decide_eq_false (show ¬ Q.2.1 < Q.1 by omega)]
        rfl
/-- steps and what is grown -/
theorem q_grn_ge {S : qS} {rf : Option qR} : ∀ (m : Nat) (Q : q_Q), (q_grn S rf m Q).2.1 ≤ Q.2.1 + m
  | 0, _ => Nat.le_refl _
  | m + 1, Q => by
    refine Nat.le_trans (q_grn_ge m (q_gro S rf Q)) ?_
    cases z : q_gok Q with
    | false => rw [q_gro_no z]; omega
    | true => rw [q_gro_y z, (q_pf_qg S rf Q).2]; omega
/-- counting is what the reference's look through a level counts -/
theorem q_fm_cn {S : qS} {B : q_B} {Q : q_Q} {P : Nat → Bool} {d : Nat} (hP : ∀ w, P w = !q_nf S w) : ∀ (m s : Nat) (x : Nat × Nat), (∀ i, s ≤ i → i < s + m → Q.2.2.1 i = q_co B i ∧ Q.2.2.2.1 i = d) → q_cnQ P d Q (s + m) + x.2 = q_cnQ P d Q s + (q_fm S B m s x).2
  | 0, s, x, _ => rfl
  | m + 1, s, x, h => by
    have hs := h s (Nat.le_refl _) (by omega)
    have e0 : q_cnQ P d Q (s + 1) = q_cnQ P d Q s + (if q_nf S (q_co B s) = true then 0 else 1) := by
      show q_cnQ P d Q s + (if _ then _ else _) = _
      rw [hs.1, hs.2, hP]
      cases q_nf S (q_co B s) with
      | true => rw [if_neg (by simp), if_pos rfl]
      | false => rw [if_pos (by simp), if_neg (by decide)]
    have ih := q_fm_cn (S := S) (B := B) (Q := Q) (P := P) (d := d) hP m (s + 1) (if q_nf S (q_co B s) = true then x else (if x.2 = 0 then s else x.1, x.2 + 1)) (fun i h1 h2 => h i (by omega) (by omega))
    rw [e0, show s + 1 + m = s + (m + 1) by omega] at ih
    show q_cnQ P d Q (s + (m + 1)) + x.2 = q_cnQ P d Q s + (q_fm S B m (s + 1) _).2
    cases y : q_nf S (q_co B s) with
    | true =>
      rw [y] at ih
      have ih : q_cnQ P d Q (s + (m + 1)) + x.2 = q_cnQ P d Q s + 0 + (q_fm S B m (s + 1) x).2 := ih
      rw [if_pos rfl]
      omega
    | false =>
      rw [y] at ih
      have ih : q_cnQ P d Q (s + (m + 1)) + (x.2 + 1) = q_cnQ P d Q s + 1 + (q_fm S B m (s + 1) (if x.2 = 0 then s else x.1, x.2 + 1)).2 := ih
      rw [if_neg (by decide)]
      omega
theorem q_cnQ_no {Q : q_Q} {P : Nat → Bool} {d a : Nat} : ∀ (m : Nat), (∀ i, a ≤ i → i < a + m → ¬ Q.2.2.2.1 i = d) → q_cnQ P d Q (a + m) = q_cnQ P d Q a
  | 0, _ => rfl
  | m + 1, h => by
    show q_cnQ P d Q (a + m) + _ = _
    rw [if_neg (fun z => h (a + m) (by omega) (by omega) z.1), q_cnQ_no m (fun i h1 h2 => h i h1 (by omega)), Nat.add_zero]
/-- the first of a look through a level -/
theorem q_fm_fst {S : qS} {B : q_B} : ∀ (m s : Nat) (x : Nat × Nat), x.2 = 0 → 0 < (q_fm S B m s x).2 → s ≤ (q_fm S B m s x).1 ∧ (q_fm S B m s x).1 < s + m ∧ q_nf S (q_co B (q_fm S B m s x).1) = false ∧ ∀ i, s ≤ i → i < (q_fm S B m s x).1 → q_nf S (q_co B i) = true
  | 0, s, x, h0, h => absurd h (by show ¬ 0 < x.2; omega)
  | m + 1, s, x, h0, h => by
    cases y : q_nf S (q_co B s) with
    | true =>
      have e : q_fm S B (m + 1) s x = q_fm S B m (s + 1) x := by
        show q_fm S B m (s + 1) (if _ then _ else _) = _
        rw [if_pos y]
      rw [e] at h ⊢
      obtain ⟨k1, k2, k3, k4⟩ := q_fm_fst m (s + 1) x h0 h
      refine ⟨by omega, by omega, k3, fun i h1 h2 => ?_⟩
      by_cases z : i = s
      · rw [z]; exact y
      · exact k4 i (by omega) h2
    | false =>
      have keep : ∀ (m t : Nat) (x : Nat × Nat), 0 < x.2 → (q_fm S B m t x).1 = x.1 := by
        intro m
        induction m with
        | zero => intro t x _; rfl
        | succ m ih =>
          intro t x hx
          show (q_fm S B m (t + 1) _).1 = x.1
          split
          · exact ih (t + 1) x hx
          · rw [ih (t + 1) _ (Nat.succ_pos _)]
            exact if_neg (by omega)
      have e : q_fm S B (m + 1) s x = q_fm S B m (s + 1) (s, x.2 + 1) := by
        show q_fm S B m (s + 1) (if _ then _ else _) = _
        rw [if_neg (by rw [y]; decide), if_pos h0]
      rw [e, keep m (s + 1) (s, x.2 + 1) (Nat.succ_pos _)]
      exact ⟨Nat.le_refl _, by show s < _; omega, y, fun i h1 h2 => absurd h2 (by show ¬ i < s; omega)⟩
/-- both ends of DONE -/
theorem q_done {S : qS} {rf : Option qR} {w0 n1 : Nat} {v : Int32} {P : Nat → Bool} (hP : ∀ w, P w = !q_nf S w) (hv : q_frA P (q_grn S rf n1 (q_Q0 w0)) v) : ((v = -2 ∨ v = -3) ∧ (q_fd S rf 2001 0 0 (q_B0 w0)).2.1 = v) ∨ ∃ i d Z, v = nI i ∧ i < 2001 ∧ i < (q_grn S rf n1 (q_Q0 w0)).1 ∧ d = (q_grn S rf n1 (q_Q0 w0)).2.2.2.1 i ∧ Z = q_gt S rf d 2001 (q_grn S rf n1 (q_Q0 w0)) ∧ i < Z.1 ∧ ((q_gf d Z = false ∧ (q_fd S rf 2001 0 0 (q_B0 w0)).2.1 = -3) ∨ (q_gf d Z = true ∧ (q_fd S rf 2001 0 0 (q_B0 w0)).2.1 = nI d ∧ d ≤ 2001 ∧ (q_fd S rf 2001 0 0 (q_B0 w0)).2.2.2 = q_cnQ P d Z Z.1 ∧ q_wy (q_fd S rf 2001 0 0 (q_B0 w0)).1 (q_fd S rf 2001 0 0 (q_B0 w0)).2.2.1 = Z.2.2.2.2.2.2 i)) := by
  obtain ⟨Q0, e0⟩ : ∃ Q0, Q0 = q_Q0 w0 := ⟨_, rfl⟩
  have v0 : vDn S 0 0 (q_grn S rf 0 Q0) (q_B0 w0) := by
    rw [e0]
    refine ⟨⟨rfl, fun i hi => ?_⟩, by show 1 ≤ 2000; omega, Nat.zero_le _, rfl, fun i hi => absurd hi (by omega), fun i _ hi => ?_⟩
    · have hi : i < 1 := hi
      obtain rfl : i = 0 := by omega
      exact ⟨rfl, rfl, rfl, by show 1 ≤ 2; omega⟩
    · have hi : i < 1 := hi
      obtain rfl : i = 0 := by omega
      rfl
  have k := q_fd_grn (S := S) (rf := rf) (Q0 := Q0) 2001 0 0 (q_B0 w0) (by omega) (by omega) v0
  obtain ⟨y, ey⟩ : ∃ y, y = q_fd S rf 2001 0 0 (q_B0 w0) := ⟨_, rfl⟩
  rw [← ey] at k ⊢
  rw [← e0] at hv ⊢
  -- all states are ahead of the last
  obtain ⟨F, eF⟩ : ∃ F, F = q_grn S rf 2001 Q0 := ⟨_, rfl⟩
  have last : ∀ n, q_gok (q_grn S rf n Q0) = false → q_grn S rf n Q0 = F := fun n h => by
    rw [eF, ← q_grn_end S rf n Q0]
    exact (q_grn_no h 2001).symm
  have pfF : ∀ n, q_pf (q_grn S rf n Q0) F := fun n => by
    have := q_pf_grn S rf 2001 (q_grn S rf n Q0)
    rw [q_grn_end, ← eF] at this
    exact this
  have szF : F.1 ≤ 2001 := by
    have sz : ∀ n (Q : q_Q), Q.1 ≤ 2001 → (q_grn S rf n Q).1 ≤ 2001 := by
      intro n
      induction n with
      | zero => intro Q h; exact h
      | succ n ih =>
        intro Q h
        refine ih _ ?_
        unfold q_gro
        split
        · exact q_bd_it (P := fun Q => Q.1 ≤ 2001) (fun a Q h => q_bd_it (P := fun Q => Q.1 ≤ 2001) (fun b Q h => by
            unfold q_qv
            split
            · exact h
            · split
              · unfold q_ad
                split
                · split <;> exact h
                · split
                  · exact h
                  · show Q.1 + 1 ≤ 2001
                    omega
              · exact h) _ _ Q h) _ _ Q h
        · exact h
    rw [eF]
    exact sz 2001 Q0 (by rw [e0]; show 1 ≤ 2001; omega)
  obtain ⟨Q, eQ⟩ : ∃ Q, Q = q_grn S rf n1 Q0 := ⟨_, rfl⟩
  have pQ : q_pf Q F := by rw [eQ]; exact pfF n1
  rw [← eQ] at hv ⊢
  have gtF : ∀ d, ∃ n, q_gt S rf d 2001 Q = q_grn S rf n Q0 ∧ q_pf Q (q_gt S rf d 2001 Q) := fun d => by
    obtain ⟨n, e⟩ := q_gt_grn (S := S) (rf := rf) (d := d) 2001 Q
    refine ⟨n1 + n, by rw [e, eQ, q_grn_add], by rw [e]; exact q_pf_grn S rf n Q⟩
  rcases k with ⟨dp, bg, B, k1, k2, k3, k4⟩ | ⟨k1, N, c, l, L, n, k2, ⟨kg, kl⟩, k3⟩ | ⟨k1, n, k2, k3, k4⟩
  · obtain ⟨u1, u2, u3, u4, u5, u6⟩ := k4
    obtain ⟨f1, f2, f3, f4⟩ := q_fm_fst (S := S) (B := B) (B.1 - bg) bg (0, 0) rfl k2
    obtain ⟨i0, ei⟩ : ∃ i0, i0 = (q_fm S B (B.1 - bg) bg (0, 0)).1 := ⟨_, rfl⟩
    rw [← ei] at f1 f2 f3 f4
    obtain ⟨A, eA⟩ : ∃ A, A = q_grn S rf bg Q0 := ⟨_, rfl⟩
    rw [← eA] at u1 u4
    have pA : q_pf A F := by rw [eA]; exact pfF bg
    have A1 := u1.1
    have hi0 : i0 < A.1 := by omega
    have nfA : ∀ j, j < i0 → q_nf S (A.2.2.1 j) = true := fun j hj => by
      rw [(u1.2 j (by omega)).1]
      rcases Nat.lt_or_ge j bg with z | z
      · exact (u5 j z).2
      · exact f4 j z hj
    have yA : q_nf S (A.2.2.1 i0) = false := by rw [(u1.2 i0 (by omega)).1]; exact f3
    have fA : q_nf S (F.2.2.1 i0) = false := by rw [(pA.2 i0 hi0).1]; exact yA
    have fN : ∀ j, j < i0 → q_nf S (F.2.2.1 j) = true := fun j hj => by rw [(pA.2 j (by omega)).1]; exact nfA j hj
    have F1 := pA.1.1
    have Q1 := pQ.1.1
    rcases hv with ⟨i, h1, h2, h3, h4, h5⟩ | ⟨h1, h2, h3, h4⟩ | ⟨h1, h2, h3⟩
    · rw [hP, ← (pQ.2 i h2).1] at h4
      have h5' : ∀ j, j < i → q_nf S (F.2.2.1 j) = true := fun j hj => by
        have w := h5 j hj
        rw [hP, ← (pQ.2 j (by omega)).1] at w
        cases z : q_nf S (F.2.2.1 j) with
        | true => rfl
        | false => rw [z] at w; cases w
      have ii : i = i0 := by
        rcases Nat.lt_trichotomy i i0 with z | z | z
        · rw [fN i z] at h4; cases h4
        · exact z
        · rw [h5' i0 z] at fA; cases fA
      subst ii
      have dA : A.2.2.2.1 i = dp := by rw [(u1.2 i (by omega)).2.1]; exact u6 i f1 (by omega)
      have dQ : Q.2.2.2.1 i = dp := by rw [← (pQ.2 i h2).2.1, (pA.2 i hi0).2.1]; exact dA
      obtain ⟨n2, g1, g2⟩ := gtF dp
      obtain ⟨Z, eZ⟩ : ∃ Z, Z = q_gt S rf dp 2001 Q := ⟨_, rfl⟩
      rw [← eZ] at g1 g2
      have st := q_gt_stop (S := S) (rf := rf) (d := dp) 2001 Q (by omega)
      rw [← eZ] at st
      have hA : ∀ i, i < A.1 → A.2.2.2.1 i ≤ dp := fun j hj => by
        rw [(u1.2 j (by omega)).2.1]
        rcases Nat.lt_or_ge j bg with z | z
        · exact Nat.le_of_lt (u5 j z).1
        · rw [u6 j z (by omega)]
          exact Nat.le_refl _
      have hB : ∀ i, bg ≤ i → i < A.1 → A.2.2.2.1 i = dp := fun j h6 h7 => by
        rw [(u1.2 j (by omega)).2.1]
        exact u6 j h6 (by omega)
      have aA : aDn bg dp A A := ⟨by omega, q_pf.rf, fun _ _ => rfl, fun j h6 h7 => absurd h7 (by omega)⟩
      have aZ : aDn bg dp A Z := by
        by_cases z : q_gok Z = false
        · have : Z = F := by rw [g1] at z ⊢; exact last n2 z
          rw [this, eF, ← q_grn_end S rf bg Q0, ← eA]
          exact q_aft hA hB 2001 A aA
        · have st : dp ≤ Z.2.2.2.1 Z.2.1 := st.resolve_left z
          have ok : q_gok Z = true := by
            cases w : q_gok Z with
            | true => rfl
            | false => exact absurd w z
          have oky := q_gok_y ok
          rcases Nat.lt_or_ge n2 bg with w | w
          · have gz : Z.2.1 ≤ n2 := by
              have := q_grn_ge (S := S) (rf := rf) n2 Q0
              rw [← g1] at this
              have z0 : Q0.2.1 = 0 := by rw [e0]; rfl
              omega
            have pZA : q_pf Z A := by
              have : A = q_grn S rf (bg - n2) Z := by rw [eA, g1, ← q_grn_add, Nat.add_sub_cancel' (by omega)]
              rw [this]
              exact q_pf_grn S rf _ Z
            have e2 := (pZA.2 Z.2.1 oky.1).2.1
            have := pZA.1.1
            rw [(u1.2 Z.2.1 (by omega)).2.1] at e2
            have := (u5 Z.2.1 (by omega)).1
            omega
          · have : Z = q_grn S rf (n2 - bg) A := by rw [eA, g1, ← q_grn_add, Nat.add_sub_cancel' w]
            rw [this]
            exact q_aft hA hB _ A aA
      obtain ⟨z1, z2, z3, z4⟩ := aZ
      have Z1 := z2.1.1
      refine Or.inr ⟨i, dp, Z, h1, h3, h2, dQ.symm, eZ, by omega, Or.inr ⟨?_, by rw [k1], by have := u3; omega, ?_, ?_⟩⟩
      · unfold q_gf
        by_cases w : 2001 ≤ Z.1
        · have := z4 2000 (by omega) (by omega)
          rw [decide_eq_true (show dp < Z.2.2.2.1 2000 by omega), Bool.or_true]
        · rw [decide_eq_false w]
          rfl
      · rw [k1]
        show (q_fm S B (B.1 - bg) bg (0, 0)).2 = _
        have c1 := q_fm_cn (S := S) (B := B) (Q := Z) (P := P) (d := dp) hP (B.1 - bg) bg (0, 0) (fun j h6 h7 => ⟨(z2.2 j (by omega)).1.trans (u1.2 j (by omega)).1, (z2.2 j (by omega)).2.1.trans (hB j h6 (by omega))⟩)
        have c2 : q_cnQ P dp Z bg = 0 := by
          have := q_cnQ_no (Q := Z) (P := P) (d := dp) (a := 0) bg (fun j _ h7 => by
            rw [(z2.2 j (by omega)).2.1, (u1.2 j (by omega)).2.1]
            have := (u5 j (by omega)).1
            omega)
          rw [Nat.zero_add] at this
          exact this
        have c3 := q_cnQ_no (Q := Z) (P := P) (d := dp) (a := A.1) (Z.1 - A.1) (fun j h6 h7 => by have := z4 j h6 (by omega); omega)
        rw [show A.1 + (Z.1 - A.1) = Z.1 by omega] at c3
        rw [show bg + (B.1 - bg) = A.1 by omega, c2] at c1
        rw [c3]
        have c1 : q_cnQ P dp Z A.1 + 0 = 0 + (q_fm S B (B.1 - bg) bg (0, 0)).2 := c1
        omega
      · rw [k1]
        show q_wy B (q_fm S B (B.1 - bg) bg (0, 0)).1 = _
        rw [← ei, z3 i hi0, (u1.2 i (by omega)).2.2.1]
    · have : Q = F := by rw [eQ] at h2 ⊢; exact last n1 h2
      have w := h4 i0 (by rw [this]; omega)
      rw [hP, this, fA] at w
      cases w
    · have w := h3 i0 (by omega)
      rw [hP, ← (pQ.2 i0 (by omega)).1, fA] at w
      cases w
  · obtain ⟨x1, x2, x3, x4⟩ := k2
    have full : q_grn S rf n Q0 = F := last n (by
      unfold q_gok
      rw [decide_eq_true x1]
      exact Bool.and_false _)
    rw [full] at x1 x3 x4 kg
    have nf : ∀ i, i < N → q_nf S (F.2.2.1 i) = true := fun i hi => by rw [(x3 i hi).1]; exact k3 i hi
    rcases hv with ⟨i, h1, h2, h3, h4, h5⟩ | ⟨h1, h2, h3, h4⟩ | ⟨h1, h2, h3⟩
    · rw [hP, ← (pQ.2 i h2).1] at h4
      have hi : N ≤ i := Nat.not_lt.mp (fun z => by rw [nf i z] at h4; cases h4)
      have dQ : Q.2.2.2.1 i = L + 1 := by rw [← (pQ.2 i h2).2.1]; exact x4 i hi h3
      obtain ⟨n2, g1, g2⟩ := gtF (L + 1)
      obtain ⟨Z, eZ⟩ : ∃ Z, Z = q_gt S rf (L + 1) 2001 Q := ⟨_, rfl⟩
      rw [← eZ] at g1 g2
      refine Or.inr ⟨i, L + 1, Z, h1, h3, h2, dQ.symm, eZ, Nat.lt_of_lt_of_le h2 g2.1.1, ?_⟩
      have pZ : q_pf Z F := by rw [g1]; exact pfF n2
      by_cases w : 2001 ≤ Z.1
      · left
        refine ⟨?_, k1⟩
        unfold q_gf
        rw [decide_eq_true w, decide_eq_false (show ¬ L + 1 < Z.2.2.2.1 2000 by rw [← (pZ.2 2000 (by omega)).2.1, x4 2000 x2 (by omega)]; omega)]
        rfl
      · exfalso
        have st := q_gt_stop (S := S) (rf := rf) (d := L + 1) 2001 Q (by omega)
        rw [← eZ] at st
        have ng : ¬ q_gok Z = false := fun z => by
          have : Z = F := by rw [g1] at z ⊢; exact last n2 z
          rw [this] at w
          omega
        have st := st.resolve_left ng
        -- what is grown next is of the last level: then all of the level ahead is grown, and it is full
        have ok : q_gok Z = true := by
          cases u : q_gok Z with
          | true => rfl
          | false => exact absurd u ng
        have oky := q_gok_y ok
        have hN : N ≤ Z.2.1 := Nat.not_lt.mp (fun z => by
          rw [← (pZ.2 Z.2.1 oky.1).2.1, (x3 Z.2.1 z).2] at st
          have := kl Z.2.1 z
          omega)
        have g3 : F = q_grn S rf 2001 (q_gro S rf Z) := by
          have : q_gro S rf Z = q_grn S rf (n2 + 1) Q0 := by rw [q_grn_add, ← g1]; rfl
          rw [this, q_grn_end, eF]
        have g4 := (q_pf_grn S rf 2001 (q_gro S rf Z)).1.2
        rw [← g3, q_gro_y ok, (q_pf_qg S rf Z).2] at g4
        omega
    · have : Q = F := by rw [eQ] at h2 ⊢; exact last n1 h2
      rw [this] at h3
      omega
    · exact Or.inl ⟨Or.inr h1, k1.trans h1.symm⟩
  · have fin : q_grn S rf n Q0 = F := last n k2
    rw [fin] at k3 k4
    have Q1 := pQ.1.1
    rcases hv with ⟨i, h1, h2, h3, h4, h5⟩ | ⟨h1, h2, h3, h4⟩ | ⟨h1, h2, h3⟩
    · rw [hP, ← (pQ.2 i h2).1, k4 i (by omega)] at h4
      cases h4
    · exact Or.inl ⟨Or.inl h1, k1.trans h1.symm⟩
    · omega

