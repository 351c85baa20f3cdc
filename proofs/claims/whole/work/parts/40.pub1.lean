/-! THE REFERENCE: simple calls -/
theorem m_force_ok {G : qx_G} {σ : qx_S} {S : qS} (hS : qx_mi σ 207 = S) {nr : Nat} (er : qx_mi σ 197 2 = nI nr) {x : Int32} (hx : x = -1 ∨ q_is x nr = true) : qx_M G qc_T 1 YX12_force [.ref 197, .int x] σ (fun r s => r = some (.int (S 7)) ∧ ql [(207, none)] σ s ∧ qx_mi s 207 = va_up S 7 x) := by
  refine qx_M_in rfl (Nat.le_of_ble_eq_true rfl) ?_
  refine qy_wp_ok (c := CX12_force) (cuts := []) vX12_force wX12_force 2000 0 _ _ _ ?_
  refine Exists.intro ((-1)) (And.intro (by decide) ?_)
  refine And.intro (fun h2 => ?_) (fun h2 => ?_)
  · skip
    refine And.intro rfl (Exists.intro 207 (And.intro rfl ?_))
    refine Exists.intro (nI 7) (And.intro rfl ?_)
    refine Exists.intro (7) (Exists.intro (S 7) (And.intro rfl (And.intro ⟨2788, rfl, by decide, by decide⟩ (And.intro (congrFun hS 7) ?_))))
    refine And.intro rfl (Exists.intro 207 (And.intro rfl ?_))
    refine Exists.intro (nI 7) (And.intro rfl ?_)
    obtain ⟨σ1, eσ1⟩ : ∃ zs, zs = (qx_wi σ 207 7 x) := ⟨_, rfl⟩
    have fσ1 := qn_wi eσ1
    refine Exists.intro (7) (Exists.intro σ1 (And.intro rfl (And.intro ⟨2788, rfl, by decide, by decide⟩ (And.intro eσ1.symm ?_))))
    exact ⟨rfl, fσ1, qn_rowS eσ1 hS⟩
  · skip
    refine And.intro rfl (Exists.intro _ (And.intro (by decide) (qx_M_mono (m_isRule er x) ?_)))
    rintro _ _ ⟨rfl, rfl⟩
    refine And.intro (fun h10 => ?_) (fun h10 => ?_)
    · skip
      have h10 := bI_t h10
      refine And.intro rfl (Exists.intro 207 (And.intro rfl ?_))
      refine Exists.intro (nI 7) (And.intro rfl ?_)
      refine Exists.intro (7) (Exists.intro (S 7) (And.intro rfl (And.intro ⟨2788, rfl, by decide, by decide⟩ (And.intro (congrFun hS 7) ?_))))
      refine And.intro rfl (Exists.intro 207 (And.intro rfl ?_))
      refine Exists.intro (nI 7) (And.intro rfl ?_)
      obtain ⟨σ1, eσ1⟩ : ∃ zs, zs = (qx_wi σ 207 7 x) := ⟨_, rfl⟩
      have fσ1 := qn_wi eσ1
      refine Exists.intro (7) (Exists.intro σ1 (And.intro rfl (And.intro ⟨2788, rfl, by decide, by decide⟩ (And.intro eσ1.symm ?_))))
      exact ⟨rfl, fσ1, qn_rowS eσ1 hS⟩
    · skip
      have h10 := bI_f h10
      refine Exists.intro ((-2)) (And.intro (by decide) ?_)
      exact absurd hx (by rintro (y | y); exact h2 y; rw [h10] at y; cases y)
theorem m_force_no {G : qx_G} {σ : qx_S} {nr : Nat} (er : qx_mi σ 197 2 = nI nr) {x : Int32} (hx : ¬ x = -1) (hx2 : q_is x nr = false) : qx_M G qc_T 1 YX12_force [.ref 197, .int x] σ (qr (-2) σ) := by
  refine qx_M_in rfl (Nat.le_of_ble_eq_true rfl) ?_
  refine qy_wp_ok (c := CX12_force) (cuts := []) vX12_force wX12_force 2000 0 _ _ _ ?_
  refine Exists.intro ((-1)) (And.intro (by decide) ?_)
  refine And.intro (fun h2 => ?_) (fun h2 => ?_)
  · skip
    exact absurd h2 hx
  · skip
    refine And.intro rfl (Exists.intro _ (And.intro (by decide) (qx_M_mono (m_isRule er x) ?_)))
    rintro _ _ ⟨rfl, rfl⟩
    refine And.intro (fun h10 => ?_) (fun h10 => ?_)
    · skip
      have h10 := bI_t h10
      exact absurd (h10.symm.trans (hx2)) (by decide)
    · skip
      have h10 := bI_f h10
      refine Exists.intro ((-2)) (And.intro (by decide) ?_)
      exact ⟨rfl, rfl⟩
theorem m_person_no {G : qx_G} {σ : qx_S} {S : qS} (hS : qx_mi σ 207 = S) {pe : Nat} (e1 : S 1 = nI pe) {x w : Int32} (hb : (q_is x pe && q_in64 w.toInt64 (lN 0) (lN 7)) = false) : qx_M G qc_T 5 YX12_person [.ref 197, .int x, .int w] σ (qr (-1) σ) := by
  refine qx_M_in rfl (Nat.le_of_ble_eq_true rfl) ?_
  refine qy_wp_ok (c := CX12_person) (cuts := []) vX12_person wX12_person 2000 0 _ _ _ ?_
  refine And.intro rfl (Exists.intro _ (And.intro (by decide) (qx_M_mono (m_isPerson hS e1 x) ?_)))
  rintro _ _ ⟨rfl, rfl⟩
  refine And.intro (fun h5 => ?_) (fun h5 => ?_)
  · skip
    have h5 := bI_f h5
    refine Exists.intro ((-1)) (And.intro (by decide) ?_)
    exact ⟨rfl, rfl⟩
  · skip
    have h5 := bI_t h5
    refine Exists.intro w.toInt64 (And.intro rfl ?_)
    refine Exists.intro (lN 0) (And.intro rfl ?_)
    refine Exists.intro (lN 7) (And.intro (by decide) ?_)
    refine Exists.intro _ (And.intro (by decide) (qx_M_mono (m_in (v := w.toInt64) (l := (lN 0)) (h := (lN 7))) ?_))
    rintro _ _ ⟨rfl, rfl⟩
    refine And.intro (fun h17 => ?_) (fun h17 => ?_)
    · skip
      have h17 := bI_t h17
      rw [h5, h17] at hb; cases hb
    · skip
      have h17 := bI_f h17
      refine Exists.intro ((-1)) (And.intro (by decide) ?_)
      exact ⟨rfl, rfl⟩
theorem m_person_04 {G : qx_G} {σ : qx_S} {S : qS} (hS : qx_mi σ 207 = S) {pe : Nat} (e1 : S 1 = nI pe) (hpe : pe ≤ 10) {p w : Nat} (hp : p < pe) (hw : w < 5) : qx_M G qc_T 5 YX12_person [.ref 197, .int (nI p), .int (nI w)] σ (qr (S (10 + 5 * p + w)) σ) := by
  refine qx_M_in rfl (Nat.le_of_ble_eq_true rfl) ?_
  refine qy_wp_ok (c := CX12_person) (cuts := []) vX12_person wX12_person 2000 0 _ _ _ ?_
  refine And.intro rfl (Exists.intro _ (And.intro (by decide) (qx_M_mono (m_isPerson hS e1 (nI p)) ?_)))
  rintro _ _ ⟨rfl, rfl⟩
  refine And.intro (fun h5 => ?_) (fun h5 => ?_)
  · skip
    have h5 := bI_f h5
    exact absurd (h5.symm.trans (q_is_ok hp (by omega))) (by decide)
  · skip
    have h5 := bI_t h5
    refine Exists.intro ((nI w).toInt64) (And.intro rfl ?_)
    refine Exists.intro (lN 0) (And.intro rfl ?_)
    refine Exists.intro (lN 7) (And.intro (by decide) ?_)
    refine Exists.intro _ (And.intro (by decide) (qx_M_mono (m_in (v := ((nI w).toInt64)) (l := (lN 0)) (h := (lN 7))) ?_))
    rintro _ _ ⟨rfl, rfl⟩
    refine And.intro (fun h17 => ?_) (fun h17 => ?_)
    · skip
      have h17 := bI_t h17
      refine Exists.intro (nI 5) (And.intro rfl ?_)
      refine And.intro (fun h24 => ?_) (fun h24 => ?_)
      · skip
        have h24 := nI_leT (a := 5) (b := w) (by decide) (by omega) h24
        exact absurd h24 (by omega)
      · skip
        have h24 := nI_leF (a := 5) (b := w) (by decide) (by omega) h24
        refine And.intro rfl (Exists.intro _ (And.intro (by decide) (qx_M_mono (m_personOf (p := p) (k := w) (by omega) (by omega) (congrFun hS (10 + 5 * p + w))) ?_)))
        rintro _ _ ⟨rfl, rfl⟩
        exact ⟨rfl, rfl⟩
    · skip
      have h17 := bI_f h17
      exact absurd (h17.symm.trans (q_in_ok (by omega) (by omega) (by decide))) (by decide)
theorem m_person_5 {G : qx_G} {σ : qx_S} {S : qS} (hS : qx_mi σ 207 = S) {pe : Nat} (e1 : S 1 = nI pe) (hpe : pe ≤ 10) {p : Nat} (hp : p < pe) : qx_M G qc_T 5 YX12_person [.ref 197, .int (nI p), .int (nI 5)] σ (qr (q_sum (fun k => S (154 + 10 * p + k)) pe) σ) := by
  refine qx_M_in rfl (Nat.le_of_ble_eq_true rfl) ?_
  refine qy_wp_ok (c := CX12_person) (cuts := []) vX12_person wX12_person 2000 0 _ _ _ ?_
  refine And.intro rfl (Exists.intro _ (And.intro (by decide) (qx_M_mono (m_isPerson hS e1 (nI p)) ?_)))
  rintro _ _ ⟨rfl, rfl⟩
  refine And.intro (fun h5 => ?_) (fun h5 => ?_)
  · skip
    have h5 := bI_f h5
    exact absurd (h5.symm.trans (q_is_ok hp (by omega))) (by decide)
  · skip
    have h5 := bI_t h5
    refine Exists.intro (lN 5) (And.intro (by decide) ?_)
    refine Exists.intro (lN 0) (And.intro rfl ?_)
    refine Exists.intro (lN 7) (And.intro (by decide) ?_)
    refine Exists.intro _ (And.intro (by decide) (qx_M_mono (m_in (v := (lN 5)) (l := (lN 0)) (h := (lN 7))) ?_))
    rintro _ _ ⟨rfl, rfl⟩
    refine And.intro (fun h17 => ?_) (fun h17 => ?_)
    · skip
      have h17 := bI_t h17
      refine Exists.intro (nI 5) (And.intro rfl ?_)
      refine And.intro (fun h24 => ?_) (fun h24 => ?_)
      · skip
        refine Exists.intro (nI 5) (And.intro rfl ?_)
        refine And.intro (fun h36 => ?_) (fun h36 => ?_)
        · skip
          exact absurd (by decide) h36
        · skip
          refine And.intro rfl (Exists.intro _ (And.intro (by decide) (qx_M_mono (m_owesInAll (p := p) hS (by omega) (by omega) e1) ?_)))
          rintro _ _ ⟨rfl, rfl⟩
          exact ⟨rfl, rfl⟩
      · skip
        exact absurd (by decide) h24
    · skip
      have h17 := bI_f h17
      exact absurd (h17.symm.trans ((by decide : q_in64 (lN 5) (lN 0) (lN 7) = true))) (by decide)
theorem m_person_6 {G : qx_G} {σ : qx_S} {S : qS} (hS : qx_mi σ 207 = S) {pe : Nat} (e1 : S 1 = nI pe) (hpe : pe ≤ 10) {p : Nat} (hp : p < pe) : qx_M G qc_T 5 YX12_person [.ref 197, .int (nI p), .int (nI 6)] σ (qr (q_sum (fun k => S (154 + 10 * k + p)) pe) σ) := by
  refine qx_M_in rfl (Nat.le_of_ble_eq_true rfl) ?_
  refine qy_wp_ok (c := CX12_person) (cuts := []) vX12_person wX12_person 2000 0 _ _ _ ?_
  refine And.intro rfl (Exists.intro _ (And.intro (by decide) (qx_M_mono (m_isPerson hS e1 (nI p)) ?_)))
  rintro _ _ ⟨rfl, rfl⟩
  refine And.intro (fun h5 => ?_) (fun h5 => ?_)
  · skip
    have h5 := bI_f h5
    exact absurd (h5.symm.trans (q_is_ok hp (by omega))) (by decide)
  · skip
    have h5 := bI_t h5
    refine Exists.intro (lN 6) (And.intro (by decide) ?_)
    refine Exists.intro (lN 0) (And.intro rfl ?_)
    refine Exists.intro (lN 7) (And.intro (by decide) ?_)
    refine Exists.intro _ (And.intro (by decide) (qx_M_mono (m_in (v := (lN 6)) (l := (lN 0)) (h := (lN 7))) ?_))
    rintro _ _ ⟨rfl, rfl⟩
    refine And.intro (fun h17 => ?_) (fun h17 => ?_)
    · skip
      have h17 := bI_t h17
      refine Exists.intro (nI 5) (And.intro rfl ?_)
      refine And.intro (fun h24 => ?_) (fun h24 => ?_)
      · skip
        refine Exists.intro (nI 5) (And.intro rfl ?_)
        refine And.intro (fun h36 => ?_) (fun h36 => ?_)
        · skip
          refine Exists.intro (nI 6) (And.intro rfl ?_)
          refine And.intro (fun h50 => ?_) (fun h50 => ?_)
          · skip
            exact absurd (by decide) h50
          · skip
            refine And.intro rfl (Exists.intro _ (And.intro (by decide) (qx_M_mono (m_owedInAll (p := p) hS (by omega) (by omega) e1) ?_)))
            rintro _ _ ⟨rfl, rfl⟩
            exact ⟨rfl, rfl⟩
        · skip
          exact absurd h36 (by decide)
      · skip
        exact absurd (by decide) h24
    · skip
      have h17 := bI_f h17
      exact absurd (h17.symm.trans ((by decide : q_in64 (lN 6) (lN 0) (lN 7) = true))) (by decide)
theorem m_person_7 {G : qx_G} {σ : qx_S} {S : qS} {rf : Option qR} (hX : mX σ S rf none) (g : gS S) {p : Nat} (hp : p < s_n S 1) : qx_M G qc_T 5 YX12_person [.ref 197, .int (nI p), .int (nI 7)] σ (fun r s => r = some (.int (nI (if q_aw S rf none p (s_at S p) = true then 0 else 1))) ∧ ql lE σ s) := by
  have hS := hX.1
  have h10 := g.2.1.2
  refine qx_M_in rfl (Nat.le_of_ble_eq_true rfl) ?_
  refine qy_wp_ok (c := CX12_person) (cuts := []) vX12_person wX12_person 2000 0 _ _ _ ?_
  refine And.intro rfl (Exists.intro _ (And.intro (by decide) (qx_M_mono (m_isPerson hS g.2.1.1 (nI p)) ?_)))
  rintro _ _ ⟨rfl, rfl⟩
  refine And.intro (fun h5 => ?_) (fun h5 => ?_)
  · skip
    have h5 := bI_f h5
    exact absurd (h5.symm.trans (q_is_ok hp (by omega))) (by decide)
  · skip
    have h5 := bI_t h5
    refine Exists.intro (lN 7) (And.intro (by decide) ?_)
    refine Exists.intro (lN 0) (And.intro rfl ?_)
    refine Exists.intro (lN 7) (And.intro (by decide) ?_)
    refine Exists.intro _ (And.intro (by decide) (qx_M_mono (m_in (v := (lN 7)) (l := (lN 0)) (h := (lN 7))) ?_))
    rintro _ _ ⟨rfl, rfl⟩
    refine And.intro (fun h17 => ?_) (fun h17 => ?_)
    · skip
      have h17 := bI_t h17
      refine Exists.intro (nI 5) (And.intro rfl ?_)
      refine And.intro (fun h24 => ?_) (fun h24 => ?_)
      · skip
        refine Exists.intro (nI 5) (And.intro rfl ?_)
        refine And.intro (fun h36 => ?_) (fun h36 => ?_)
        · skip
          refine Exists.intro (nI 6) (And.intro rfl ?_)
          refine And.intro (fun h50 => ?_) (fun h50 => ?_)
          · skip
            refine And.intro rfl (Exists.intro _ (And.intro (by decide) (qx_M_mono (m_wishesAway hX g hp) ?_)))
            rintro _ σ1 ⟨rfl, fσ1⟩
            have hS_σ1 : qx_mi σ1 207 = S := (fσ1.row 207 (fun _ => rfl)).trans hS
            refine And.intro (fun h66 => ?_) (fun h66 => ?_)
            · skip
              have h66 := bI_f h66
              refine Exists.intro (nI 1) (And.intro rfl ?_)
              first | exact ⟨by rw [if_pos h66], fσ1⟩ | exact ⟨by rw [if_neg (by rw [h66]; decide)], fσ1⟩
            · skip
              have h66 := bI_t h66
              refine Exists.intro (nI 0) (And.intro rfl ?_)
              first | exact ⟨by rw [if_pos h66], fσ1⟩ | exact ⟨by rw [if_neg (by rw [h66]; decide)], fσ1⟩
          · skip
            exact absurd h50 (by decide)
        · skip
          exact absurd h36 (by decide)
      · skip
        exact absurd (by decide) h24
    · skip
      have h17 := bI_f h17
      exact absurd (h17.symm.trans ((by decide : q_in64 (lN 7) (lN 0) (lN 7) = true))) (by decide)
theorem m_wish_no {G : qx_G} {σ : qx_S} {S : qS} (hS : qx_mi σ 207 = S) {pe pl : Nat} (e1 : S 1 = nI pe) (e0 : S 0 = nI pl) {x q : Int32} (hb : (q_is x pe && q_is q pl) = false) : qx_M G qc_T 1 YX12_wish [.ref 197, .int x, .int q] σ (qr (-1) σ) := by
  refine qx_M_in rfl (Nat.le_of_ble_eq_true rfl) ?_
  refine qy_wp_ok (c := CX12_wish) (cuts := []) vX12_wish wX12_wish 2000 0 _ _ _ ?_
  refine And.intro rfl (Exists.intro _ (And.intro (by decide) (qx_M_mono (m_isPerson hS e1 x) ?_)))
  rintro _ _ ⟨rfl, rfl⟩
  refine And.intro (fun h5 => ?_) (fun h5 => ?_)
  · skip
    have h5 := bI_f h5
    refine Exists.intro ((-1)) (And.intro (by decide) ?_)
    exact ⟨rfl, rfl⟩
  · skip
    have h5 := bI_t h5
    refine And.intro rfl (Exists.intro _ (And.intro (by decide) (qx_M_mono (m_isPlace hS e0 q) ?_)))
    rintro _ _ ⟨rfl, rfl⟩
    refine And.intro (fun h13 => ?_) (fun h13 => ?_)
    · skip
      have h13 := bI_f h13
      refine Exists.intro ((-1)) (And.intro (by decide) ?_)
      exact ⟨rfl, rfl⟩
    · skip
      have h13 := bI_t h13
      rw [h5, h13] at hb; cases hb
theorem m_wish_ok {G : qx_G} {σ : qx_S} {S : qS} (hS : qx_mi σ 207 = S) {pe pl : Nat} (e1 : S 1 = nI pe) (e0 : S 0 = nI pl) (h1 : pe ≤ 10) (h0 : pl ≤ 8) {p q : Nat} (hp : p < pe) (hq : q < pl) : qx_M G qc_T 1 YX12_wish [.ref 197, .int (nI p), .int (nI q)] σ (qr (S (60 + 8 * p + q)) σ) := by
  refine qx_M_in rfl (Nat.le_of_ble_eq_true rfl) ?_
  refine qy_wp_ok (c := CX12_wish) (cuts := []) vX12_wish wX12_wish 2000 0 _ _ _ ?_
  refine And.intro rfl (Exists.intro _ (And.intro (by decide) (qx_M_mono (m_isPerson hS e1 (nI p)) ?_)))
  rintro _ _ ⟨rfl, rfl⟩
  refine And.intro (fun h5 => ?_) (fun h5 => ?_)
  · skip
    have h5 := bI_f h5
    exact absurd (h5.symm.trans (q_is_ok hp (by omega))) (by decide)
  · skip
    have h5 := bI_t h5
    refine And.intro rfl (Exists.intro _ (And.intro (by decide) (qx_M_mono (m_isPlace hS e0 (nI q)) ?_)))
    rintro _ _ ⟨rfl, rfl⟩
    refine And.intro (fun h13 => ?_) (fun h13 => ?_)
    · skip
      have h13 := bI_f h13
      exact absurd (h13.symm.trans (q_is_ok hq (by omega))) (by decide)
    · skip
      have h13 := bI_t h13
      refine And.intro rfl (Exists.intro _ (And.intro (by decide) (qx_M_mono (m_wishOf (p := p) (q := q) (by omega) (by omega) (congrFun hS (60 + 8 * p + q))) ?_)))
      rintro _ _ ⟨rfl, rfl⟩
      exact ⟨rfl, rfl⟩
theorem m_liking_no {G : qx_G} {σ : qx_S} {S : qS} (hS : qx_mi σ 207 = S) {pe pl : Nat} (e1 : S 1 = nI pe) (e0 : S 0 = nI pl) {x q : Int32} (hb : (q_is x pe && q_is q pl) = false) : qx_M G qc_T 4 YX12_liking [.ref 197, .int x, .int q] σ (qr (-1000) σ) := by
  refine qx_M_in rfl (Nat.le_of_ble_eq_true rfl) ?_
  refine qy_wp_ok (c := CX12_liking) (cuts := []) vX12_liking wX12_liking 2000 0 _ _ _ ?_
  refine And.intro rfl (Exists.intro _ (And.intro (by decide) (qx_M_mono (m_isPerson hS e1 x) ?_)))
  rintro _ _ ⟨rfl, rfl⟩
  refine And.intro (fun h5 => ?_) (fun h5 => ?_)
  · skip
    have h5 := bI_f h5
    refine Exists.intro ((-1000)) (And.intro (by decide) ?_)
    exact ⟨rfl, rfl⟩
  · skip
    have h5 := bI_t h5
    refine And.intro rfl (Exists.intro _ (And.intro (by decide) (qx_M_mono (m_isPlace hS e0 q) ?_)))
    rintro _ _ ⟨rfl, rfl⟩
    refine And.intro (fun h13 => ?_) (fun h13 => ?_)
    · skip
      have h13 := bI_f h13
      refine Exists.intro ((-1000)) (And.intro (by decide) ?_)
      exact ⟨rfl, rfl⟩
    · skip
      have h13 := bI_t h13
      rw [h5, h13] at hb; cases hb
theorem m_liking_ok {G : qx_G} {σ : qx_S} {S : qS} {rf : Option qR} (hX : mX σ S rf none) (g : gS S) {p q : Nat} (hp : p < s_n S 1) (hq : q < s_n S 0) : qx_M G qc_T 4 YX12_liking [.ref 197, .int (nI p), .int (nI q)] σ (fun r s => r = some (.int (q_lk S rf p (s_at S p) q)) ∧ ql lE σ s) := by
  have hS := hX.1
  have h10 := g.2.1.2
  have h8 := g.1.2
  refine qx_M_in rfl (Nat.le_of_ble_eq_true rfl) ?_
  refine qy_wp_ok (c := CX12_liking) (cuts := []) vX12_liking wX12_liking 2000 0 _ _ _ ?_
  refine And.intro rfl (Exists.intro _ (And.intro (by decide) (qx_M_mono (m_isPerson hS g.2.1.1 (nI p)) ?_)))
  rintro _ _ ⟨rfl, rfl⟩
  refine And.intro (fun h5 => ?_) (fun h5 => ?_)
  · skip
    have h5 := bI_f h5
    exact absurd (h5.symm.trans (q_is_ok hp (by omega))) (by decide)
  · skip
    have h5 := bI_t h5
    refine And.intro rfl (Exists.intro _ (And.intro (by decide) (qx_M_mono (m_isPlace hS g.1.1 (nI q)) ?_)))
    rintro _ _ ⟨rfl, rfl⟩
    refine And.intro (fun h13 => ?_) (fun h13 => ?_)
    · skip
      have h13 := bI_f h13
      exact absurd (h13.symm.trans (q_is_ok hq (by omega))) (by decide)
    · skip
      have h13 := bI_t h13
      refine And.intro rfl (Exists.intro _ (And.intro (by decide) (qx_M_mono (m_likes (p := p) (a := s_at S p) (q := q) hX (by omega) (by omega) (g.2.2 p (by omega)).1) ?_)))
      rintro _ σ1 ⟨rfl, fσ1⟩
      have hS_σ1 : qx_mi σ1 207 = S := (fσ1.row 207 (fun _ => rfl)).trans hS
      exact ⟨rfl, fσ1⟩
theorem m_desire_no {G : qx_G} {σ : qx_S} {S : qS} (hS : qx_mi σ 207 = S) {pe pl : Nat} (e1 : S 1 = nI pe) (e0 : S 0 = nI pl) {x q w : Int32} (hb : (q_is x pe && q_is q pl && q_in64 w.toInt64 (lN 0) (lN 99)) = false) : qx_M G qc_T 1 YX12_desire [.ref 197, .int x, .int q, .int w] σ (qr (-1) σ) := by
  refine qx_M_in rfl (Nat.le_of_ble_eq_true rfl) ?_
  refine qy_wp_ok (c := CX12_desire) (cuts := []) vX12_desire wX12_desire 2000 0 _ _ _ ?_
  refine And.intro rfl (Exists.intro _ (And.intro (by decide) (qx_M_mono (m_isPerson hS e1 x) ?_)))
  rintro _ _ ⟨rfl, rfl⟩
  refine And.intro (fun h5 => ?_) (fun h5 => ?_)
  · skip
    have h5 := bI_f h5
    refine Exists.intro ((-1)) (And.intro (by decide) ?_)
    exact ⟨rfl, rfl⟩
  · skip
    have h5 := bI_t h5
    refine And.intro rfl (Exists.intro _ (And.intro (by decide) (qx_M_mono (m_isPlace hS e0 q) ?_)))
    rintro _ _ ⟨rfl, rfl⟩
    refine And.intro (fun h13 => ?_) (fun h13 => ?_)
    · skip
      have h13 := bI_f h13
      refine Exists.intro ((-1)) (And.intro (by decide) ?_)
      exact ⟨rfl, rfl⟩
    · skip
      have h13 := bI_t h13
      refine Exists.intro w.toInt64 (And.intro rfl ?_)
      refine Exists.intro (lN 0) (And.intro rfl ?_)
      refine Exists.intro (lN 99) (And.intro (by decide) ?_)
      refine Exists.intro _ (And.intro (by decide) (qx_M_mono (m_in (v := w.toInt64) (l := (lN 0)) (h := (lN 99))) ?_))
      rintro _ _ ⟨rfl, rfl⟩
      refine And.intro (fun h25 => ?_) (fun h25 => ?_)
      · skip
        have h25 := bI_t h25
        rw [h5, h13, h25] at hb; cases hb
      · skip
        have h25 := bI_f h25
        refine Exists.intro ((-1)) (And.intro (by decide) ?_)
        exact ⟨rfl, rfl⟩
theorem m_desire_ok {G : qx_G} {σ : qx_S} {S : qS} (hS : qx_mi σ 207 = S) {pe pl : Nat} (e1 : S 1 = nI pe) (e0 : S 0 = nI pl) (h1 : pe ≤ 10) (h0 : pl ≤ 8) {p q w : Nat} (hp : p < pe) (hq : q < pl) (hw : w ≤ 99) : qx_M G qc_T 1 YX12_desire [.ref 197, .int (nI p), .int (nI q), .int (nI w)] σ (fun r s => r = some (.int (S (60 + 8 * p + q))) ∧ ql [(207, none)] σ s ∧ qx_mi s 207 = va_up S (60 + 8 * p + q) (nI w)) := by
  refine qx_M_in rfl (Nat.le_of_ble_eq_true rfl) ?_
  refine qy_wp_ok (c := CX12_desire) (cuts := []) vX12_desire wX12_desire 2000 0 _ _ _ ?_
  refine And.intro rfl (Exists.intro _ (And.intro (by decide) (qx_M_mono (m_isPerson hS e1 (nI p)) ?_)))
  rintro _ _ ⟨rfl, rfl⟩
  refine And.intro (fun h5 => ?_) (fun h5 => ?_)
  · skip
    have h5 := bI_f h5
    exact absurd (h5.symm.trans (q_is_ok hp (by omega))) (by decide)
  · skip
    have h5 := bI_t h5
    refine And.intro rfl (Exists.intro _ (And.intro (by decide) (qx_M_mono (m_isPlace hS e0 (nI q)) ?_)))
    rintro _ _ ⟨rfl, rfl⟩
    refine And.intro (fun h13 => ?_) (fun h13 => ?_)
    · skip
      have h13 := bI_f h13
      exact absurd (h13.symm.trans (q_is_ok hq (by omega))) (by decide)
    · skip
      have h13 := bI_t h13
      refine Exists.intro ((nI w).toInt64) (And.intro rfl ?_)
      refine Exists.intro (lN 0) (And.intro rfl ?_)
      refine Exists.intro (lN 99) (And.intro (by decide) ?_)
      refine Exists.intro _ (And.intro (by decide) (qx_M_mono (m_in (v := ((nI w).toInt64)) (l := (lN 0)) (h := (lN 99))) ?_))
      rintro _ _ ⟨rfl, rfl⟩
      refine And.intro (fun h25 => ?_) (fun h25 => ?_)
      · skip
        have h25 := bI_t h25
        refine And.intro rfl (Exists.intro _ (And.intro (by decide) (qx_M_mono (m_wishOf (p := p) (q := q) (by omega) (by omega) (congrFun hS (60 + 8 * p + q))) ?_)))
        rintro _ _ ⟨rfl, rfl⟩
        refine And.intro rfl (Exists.intro 207 (And.intro rfl ?_))
        refine Exists.intro (nI 60) (And.intro rfl ?_)
        refine Exists.intro (nI 8) (And.intro rfl ?_)
        refine Exists.intro (nI (8 * p)) (And.intro (pk_mul _ _) ?_)
        refine Exists.intro (nI (60 + 8 * p)) (And.intro (nI_add _ _) ?_)
        refine Exists.intro (nI (60 + 8 * p + q)) (And.intro (nI_add _ _) ?_)
        obtain ⟨σ1, eσ1⟩ : ∃ zs, zs = (qx_wi σ 207 (60 + 8 * p + q) (nI w)) := ⟨_, rfl⟩
        have fσ1 := qn_wi eσ1
        refine Exists.intro (60 + 8 * p + q) (Exists.intro σ1 (And.intro rfl (And.intro ⟨2788, rfl, by omega, by decide⟩ (And.intro eσ1.symm ?_))))
        exact ⟨rfl, fσ1, qn_rowS eσ1 hS⟩
      · skip
        have h25 := bI_f h25
        exact absurd (h25.symm.trans (q_in_ok (by omega) (by omega) (by decide))) (by decide)
theorem m_owes_no {G : qx_G} {σ : qx_S} {S : qS} (hS : qx_mi σ 207 = S) {pe : Nat} (e1 : S 1 = nI pe) {x y : Int32} (hb : (q_is x pe && q_is y pe && !decide (x = y)) = false) : qx_M G qc_T 1 YX12_owes [.ref 197, .int x, .int y] σ (qr (-1) σ) := by
  refine qx_M_in rfl (Nat.le_of_ble_eq_true rfl) ?_
  refine qy_wp_ok (c := CX12_owes) (cuts := []) vX12_owes wX12_owes 2000 0 _ _ _ ?_
  refine And.intro rfl (Exists.intro _ (And.intro (by decide) (qx_M_mono (m_isPerson hS e1 x) ?_)))
  rintro _ _ ⟨rfl, rfl⟩
  refine And.intro (fun h5 => ?_) (fun h5 => ?_)
  · skip
    have h5 := bI_f h5
    refine Exists.intro ((-1)) (And.intro (by decide) ?_)
    exact ⟨rfl, rfl⟩
  · skip
    have h5 := bI_t h5
    refine And.intro rfl (Exists.intro _ (And.intro (by decide) (qx_M_mono (m_isPerson hS e1 y) ?_)))
    rintro _ _ ⟨rfl, rfl⟩
    refine And.intro (fun h13 => ?_) (fun h13 => ?_)
    · skip
      have h13 := bI_f h13
      refine Exists.intro ((-1)) (And.intro (by decide) ?_)
      exact ⟨rfl, rfl⟩
    · skip
      have h13 := bI_t h13
      refine And.intro (fun h18 => ?_) (fun h18 => ?_)
      · skip
        refine Exists.intro ((-1)) (And.intro (by decide) ?_)
        exact ⟨rfl, rfl⟩
      · skip
        rw [h5, h13, decide_eq_false h18] at hb; cases hb
theorem m_owes_ok {G : qx_G} {σ : qx_S} {S : qS} (hS : qx_mi σ 207 = S) {pe : Nat} (e1 : S 1 = nI pe) (h1 : pe ≤ 10) {p q : Nat} (hp : p < pe) (hq : q < pe) (hne : p ≠ q) : qx_M G qc_T 1 YX12_owes [.ref 197, .int (nI p), .int (nI q)] σ (qr (S (154 + 10 * p + q)) σ) := by
  refine qx_M_in rfl (Nat.le_of_ble_eq_true rfl) ?_
  refine qy_wp_ok (c := CX12_owes) (cuts := []) vX12_owes wX12_owes 2000 0 _ _ _ ?_
  refine And.intro rfl (Exists.intro _ (And.intro (by decide) (qx_M_mono (m_isPerson hS e1 (nI p)) ?_)))
  rintro _ _ ⟨rfl, rfl⟩
  refine And.intro (fun h5 => ?_) (fun h5 => ?_)
  · skip
    have h5 := bI_f h5
    exact absurd (h5.symm.trans (q_is_ok (by omega) (by omega))) (by decide)
  · skip
    have h5 := bI_t h5
    refine And.intro rfl (Exists.intro _ (And.intro (by decide) (qx_M_mono (m_isPerson hS e1 (nI q)) ?_)))
    rintro _ _ ⟨rfl, rfl⟩
    refine And.intro (fun h13 => ?_) (fun h13 => ?_)
    · skip
      have h13 := bI_f h13
      exact absurd (h13.symm.trans (q_is_ok (by omega) (by omega))) (by decide)
    · skip
      have h13 := bI_t h13
      refine And.intro (fun h18 => ?_) (fun h18 => ?_)
      · skip
        have h18 := nI_eqT (a := p) (b := q) (by omega) (by omega) h18
        exact absurd h18 hne
      · skip
        have h18 := nI_neT (a := p) (b := q) (by omega) (by omega) h18
        refine And.intro rfl (Exists.intro _ (And.intro (by decide) (qx_M_mono (m_oweOf (a := p) (b := q) (by omega) (by omega) (congrFun hS (154 + 10 * p + q))) ?_)))
        rintro _ _ ⟨rfl, rfl⟩
        exact ⟨rfl, rfl⟩
theorem m_pay_no {G : qx_G} {σ : qx_S} {S : qS} (hS : qx_mi σ 207 = S) {pe : Nat} (e1 : S 1 = nI pe) {x y n : Int32} (hb : (q_is x pe && q_is y pe && !decide (x = y)) = false) : qx_M G qc_T 1 YX12_pay [.ref 197, .int x, .int y, .int n] σ (qr (-1) σ) := by
  refine qx_M_in rfl (Nat.le_of_ble_eq_true rfl) ?_
  refine qy_wp_ok (c := CX12_pay) (cuts := []) vX12_pay wX12_pay 2000 0 _ _ _ ?_
  refine And.intro rfl (Exists.intro _ (And.intro (by decide) (qx_M_mono (m_isPerson hS e1 x) ?_)))
  rintro _ _ ⟨rfl, rfl⟩
  refine And.intro (fun h5 => ?_) (fun h5 => ?_)
  · skip
    have h5 := bI_f h5
    refine Exists.intro ((-1)) (And.intro (by decide) ?_)
    exact ⟨rfl, rfl⟩
  · skip
    have h5 := bI_t h5
    refine And.intro rfl (Exists.intro _ (And.intro (by decide) (qx_M_mono (m_isPerson hS e1 y) ?_)))
    rintro _ _ ⟨rfl, rfl⟩
    refine And.intro (fun h13 => ?_) (fun h13 => ?_)
    · skip
      have h13 := bI_f h13
      refine Exists.intro ((-1)) (And.intro (by decide) ?_)
      exact ⟨rfl, rfl⟩
    · skip
      have h13 := bI_t h13
      refine And.intro (fun h18 => ?_) (fun h18 => ?_)
      · skip
        refine Exists.intro ((-1)) (And.intro (by decide) ?_)
        exact ⟨rfl, rfl⟩
      · skip
        rw [h5, h13, decide_eq_false h18] at hb; cases hb
theorem m_pay_no2 {G : qx_G} {σ : qx_S} {S : qS} (hS : qx_mi σ 207 = S) {pe : Nat} (e1 : S 1 = nI pe) (h1 : pe ≤ 10) {p q : Nat} (hp : p < pe) (hq : q < pe) (hne : p ≠ q) {n : Int32} (hn : n < nI 1 ∨ S (154 + 10 * p + q) < n) : qx_M G qc_T 1 YX12_pay [.ref 197, .int (nI p), .int (nI q), .int n] σ (qr (-1) σ) := by
  refine qx_M_in rfl (Nat.le_of_ble_eq_true rfl) ?_
  refine qy_wp_ok (c := CX12_pay) (cuts := []) vX12_pay wX12_pay 2000 0 _ _ _ ?_
  refine And.intro rfl (Exists.intro _ (And.intro (by decide) (qx_M_mono (m_isPerson hS e1 (nI p)) ?_)))
  rintro _ _ ⟨rfl, rfl⟩
  refine And.intro (fun h5 => ?_) (fun h5 => ?_)
  · skip
    have h5 := bI_f h5
    exact absurd (h5.symm.trans (q_is_ok (by omega) (by omega))) (by decide)
  · skip
    have h5 := bI_t h5
    refine And.intro rfl (Exists.intro _ (And.intro (by decide) (qx_M_mono (m_isPerson hS e1 (nI q)) ?_)))
    rintro _ _ ⟨rfl, rfl⟩
    refine And.intro (fun h13 => ?_) (fun h13 => ?_)
    · skip
      have h13 := bI_f h13
      exact absurd (h13.symm.trans (q_is_ok (by omega) (by omega))) (by decide)
    · skip
      have h13 := bI_t h13
      refine And.intro (fun h18 => ?_) (fun h18 => ?_)
      · skip
        have h18 := nI_eqT (a := p) (b := q) (by omega) (by omega) h18
        exact absurd h18 hne
      · skip
        have h18 := nI_neT (a := p) (b := q) (by omega) (by omega) h18
        refine Exists.intro (nI 1) (And.intro rfl ?_)
        refine And.intro (fun h23 => ?_) (fun h23 => ?_)
        · skip
          refine Exists.intro ((-1)) (And.intro (by decide) ?_)
          exact ⟨rfl, rfl⟩
        · skip
          refine And.intro rfl (Exists.intro _ (And.intro (by decide) (qx_M_mono (m_oweOf (a := p) (b := q) (by omega) (by omega) (congrFun hS (154 + 10 * p + q))) ?_)))
          rintro _ _ ⟨rfl, rfl⟩
          refine And.intro (fun h33 => ?_) (fun h33 => ?_)
          · skip
            rcases hn with y | y; exact absurd y h23; exact absurd y (Int32.not_lt.mpr h33)
          · skip
            refine Exists.intro ((-1)) (And.intro (by decide) ?_)
            exact ⟨rfl, rfl⟩
theorem m_pay_ok {G : qx_G} {σ : qx_S} {S : qS} (hS : qx_mi σ 207 = S) {pe : Nat} (e1 : S 1 = nI pe) (h1 : pe ≤ 10) {p q : Nat} (hp : p < pe) (hq : q < pe) (hne : p ≠ q) {n : Int32} (hn : ¬ (n < nI 1 ∨ S (154 + 10 * p + q) < n)) : qx_M G qc_T 1 YX12_pay [.ref 197, .int (nI p), .int (nI q), .int n] σ (fun r s => r = some (.int (S (154 + 10 * p + q) - n)) ∧ ql [(207, none)] σ s ∧ qx_mi s 207 = va_up S (154 + 10 * p + q) (S (154 + 10 * p + q) - n)) := by
  refine qx_M_in rfl (Nat.le_of_ble_eq_true rfl) ?_
  refine qy_wp_ok (c := CX12_pay) (cuts := []) vX12_pay wX12_pay 2000 0 _ _ _ ?_
  refine And.intro rfl (Exists.intro _ (And.intro (by decide) (qx_M_mono (m_isPerson hS e1 (nI p)) ?_)))
  rintro _ _ ⟨rfl, rfl⟩
  refine And.intro (fun h5 => ?_) (fun h5 => ?_)
  · skip
    have h5 := bI_f h5
    exact absurd (h5.symm.trans (q_is_ok (by omega) (by omega))) (by decide)
  · skip
    have h5 := bI_t h5
    refine And.intro rfl (Exists.intro _ (And.intro (by decide) (qx_M_mono (m_isPerson hS e1 (nI q)) ?_)))
    rintro _ _ ⟨rfl, rfl⟩
    refine And.intro (fun h13 => ?_) (fun h13 => ?_)
    · skip
      have h13 := bI_f h13
      exact absurd (h13.symm.trans (q_is_ok (by omega) (by omega))) (by decide)
    · skip
      have h13 := bI_t h13
      refine And.intro (fun h18 => ?_) (fun h18 => ?_)
      · skip
        have h18 := nI_eqT (a := p) (b := q) (by omega) (by omega) h18
        exact absurd h18 hne
      · skip
        have h18 := nI_neT (a := p) (b := q) (by omega) (by omega) h18
        refine Exists.intro (nI 1) (And.intro rfl ?_)
        refine And.intro (fun h23 => ?_) (fun h23 => ?_)
        · skip
          exact absurd (Or.inl h23) hn
        · skip
          refine And.intro rfl (Exists.intro _ (And.intro (by decide) (qx_M_mono (m_oweOf (a := p) (b := q) (by omega) (by omega) (congrFun hS (154 + 10 * p + q))) ?_)))
          rintro _ _ ⟨rfl, rfl⟩
          refine And.intro (fun h33 => ?_) (fun h33 => ?_)
          · skip
            refine And.intro rfl (Exists.intro 207 (And.intro rfl ?_))
            refine Exists.intro (nI 154) (And.intro rfl ?_)
            refine Exists.intro (nI 10) (And.intro rfl ?_)
            refine Exists.intro (nI (10 * p)) (And.intro (pk_mul _ _) ?_)
            refine Exists.intro (nI (154 + 10 * p)) (And.intro (nI_add _ _) ?_)
            refine Exists.intro (nI (154 + 10 * p + q)) (And.intro (nI_add _ _) ?_)
            refine Exists.intro (154 + 10 * p + q) (Exists.intro (S (154 + 10 * p + q)) (And.intro rfl (And.intro ⟨2788, rfl, by omega, by decide⟩ (And.intro (congrFun hS (154 + 10 * p + q)) ?_))))
            refine Exists.intro ((S (154 + 10 * p + q)) - n) (And.intro rfl ?_)
            obtain ⟨σ1, eσ1⟩ : ∃ zs, zs = (qx_wi σ 207 (154 + 10 * p + q) ((S (154 + 10 * p + q)) - n)) := ⟨_, rfl⟩
            have fσ1 := qn_wi eσ1
            refine Exists.intro (154 + 10 * p + q) (Exists.intro σ1 (And.intro rfl (And.intro ⟨2788, rfl, by omega, by decide⟩ (And.intro eσ1.symm ?_))))
            refine And.intro rfl (Exists.intro _ (And.intro (by decide) (qx_M_mono (m_oweOf (a := p) (b := q) (by omega) (by omega) (qn_eq eσ1)) ?_)))
            rintro _ _ ⟨rfl, rfl⟩
            exact ⟨rfl, fσ1, qn_rowS eσ1 hS⟩
          · skip
            exact absurd (Or.inr (Int32.not_le.mp h33)) hn
theorem m_dawn_no {G : qx_G} {σ : qx_S} {S : qS} (hS : qx_mi σ 207 = S) {pl : Nat} (e0 : S 0 = nI pl) (h0 : pl ≤ 8) {dy : Nat} (e3 : S 3 = nI dy) (hdy : dy ≤ 9999) (hb : pl = 0 ∨ dy = 9999) : qx_M G qc_T 1 YX12_dawn [.ref 197] σ (qr (-1) σ) := by
  refine qx_M_in rfl (Nat.le_of_ble_eq_true rfl) ?_
  refine qy_wp_ok (c := CX12_dawn) (cuts := []) vX12_dawn wX12_dawn 2000 0 _ _ _ ?_
  refine And.intro rfl (Exists.intro _ (And.intro (by decide) (qx_M_mono (m_isCountry hS e0 h0) ?_)))
  rintro _ _ ⟨rfl, rfl⟩
  refine And.intro (fun h4 => ?_) (fun h4 => ?_)
  · skip
    have h4 := bI_f h4
    refine Exists.intro ((-1)) (And.intro (by decide) ?_)
    exact ⟨rfl, rfl⟩
  · skip
    have h4 := bI_t h4
    refine And.intro rfl (Exists.intro 207 (And.intro rfl ?_))
    refine Exists.intro (nI 3) (And.intro rfl ?_)
    refine Exists.intro (3) (Exists.intro (nI dy) (And.intro rfl (And.intro ⟨2788, rfl, by decide, by decide⟩ (And.intro ((congrFun hS 3).trans e3) ?_))))
    refine Exists.intro (nI 9999) (And.intro rfl ?_)
    refine And.intro (fun h16 => ?_) (fun h16 => ?_)
    · skip
      have h16 := nI_neT (a := dy) (b := 9999) (by omega) (by decide) h16
      have h4 := of_decide_eq_true h4; omega
    · skip
      have h16 := nI_eqT (a := dy) (b := 9999) (by omega) (by decide) h16
      refine Exists.intro ((-1)) (And.intro (by decide) ?_)
      exact ⟨rfl, rfl⟩
theorem m_dawn_ok {G : qx_G} {σ : qx_S} {S : qS} (hS : qx_mi σ 207 = S) {pl : Nat} (e0 : S 0 = nI pl) (h0 : pl ≤ 8) {dy : Nat} (e3 : S 3 = nI dy) (hdy : dy < 9999) (hb : 0 < pl) : qx_M G qc_T 1 YX12_dawn [.ref 197] σ (fun r s => r = some (.int (nI (dy + 1))) ∧ ql [(207, none)] σ s ∧ qx_mi s 207 = va_up S 3 (nI (dy + 1))) := by
  refine qx_M_in rfl (Nat.le_of_ble_eq_true rfl) ?_
  refine qy_wp_ok (c := CX12_dawn) (cuts := []) vX12_dawn wX12_dawn 2000 0 _ _ _ ?_
  refine And.intro rfl (Exists.intro _ (And.intro (by decide) (qx_M_mono (m_isCountry hS e0 h0) ?_)))
  rintro _ _ ⟨rfl, rfl⟩
  refine And.intro (fun h4 => ?_) (fun h4 => ?_)
  · skip
    have h4 := bI_f h4
    exact absurd (h4.symm.trans (decide_eq_true hb)) (by decide)
  · skip
    have h4 := bI_t h4
    refine And.intro rfl (Exists.intro 207 (And.intro rfl ?_))
    refine Exists.intro (nI 3) (And.intro rfl ?_)
    refine Exists.intro (3) (Exists.intro (nI dy) (And.intro rfl (And.intro ⟨2788, rfl, by decide, by decide⟩ (And.intro ((congrFun hS 3).trans e3) ?_))))
    refine Exists.intro (nI 9999) (And.intro rfl ?_)
    refine And.intro (fun h16 => ?_) (fun h16 => ?_)
    · skip
      have h16 := nI_neT (a := dy) (b := 9999) (by omega) (by decide) h16
      refine And.intro rfl (Exists.intro 207 (And.intro rfl ?_))
      refine Exists.intro (nI 3) (And.intro rfl ?_)
      refine Exists.intro (3) (Exists.intro (nI dy) (And.intro rfl (And.intro ⟨2788, rfl, by decide, by decide⟩ (And.intro ((congrFun hS 3).trans e3) ?_))))
      refine Exists.intro (nI 1) (And.intro rfl ?_)
      refine Exists.intro (nI (dy + 1)) (And.intro (nI_add _ _) ?_)
      obtain ⟨σ1, eσ1⟩ : ∃ zs, zs = (qx_wi σ 207 3 (nI (dy + 1))) := ⟨_, rfl⟩
      have fσ1 := qn_wi eσ1
      refine Exists.intro (3) (Exists.intro σ1 (And.intro rfl (And.intro ⟨2788, rfl, by decide, by decide⟩ (And.intro eσ1.symm ?_))))
      refine And.intro rfl (Exists.intro 207 (And.intro rfl ?_))
      refine Exists.intro (nI 3) (And.intro rfl ?_)
      refine Exists.intro (3) (Exists.intro (nI (dy + 1)) (And.intro rfl (And.intro ⟨2788, rfl, by decide, by decide⟩ (And.intro (qn_eq eσ1) ?_))))
      exact ⟨rfl, fσ1, qn_rowS eσ1 hS⟩
    · skip
      have h16 := nI_eqT (a := dy) (b := 9999) (by omega) (by decide) h16
      exact absurd h16 (by omega)
theorem m_burn {G : qx_G} {σ : qx_S} {S : qS} (hS : qx_mi σ 207 = S) : qx_M G qc_T 0 YX12_burn [.ref 197] σ (fun r s => r = some (.int (S 5)) ∧ ql [(207, none)] σ s ∧ qx_mi s 207 = va_up S 5 (nI 0)) := by
  refine qx_M_in rfl (Nat.le_of_ble_eq_true rfl) ?_
  refine qy_wp_ok (c := CX12_burn) (cuts := []) vX12_burn wX12_burn 2000 0 _ _ _ ?_
  refine And.intro rfl (Exists.intro 207 (And.intro rfl ?_))
  refine Exists.intro (nI 5) (And.intro rfl ?_)
  refine Exists.intro (5) (Exists.intro (S 5) (And.intro rfl (And.intro ⟨2788, rfl, by decide, by decide⟩ (And.intro (congrFun hS 5) ?_))))
  refine And.intro rfl (Exists.intro 207 (And.intro rfl ?_))
  refine Exists.intro (nI 5) (And.intro rfl ?_)
  refine Exists.intro (nI 0) (And.intro rfl ?_)
  obtain ⟨σ1, eσ1⟩ : ∃ zs, zs = (qx_wi σ 207 5 (nI 0)) := ⟨_, rfl⟩
  have fσ1 := qn_wi eσ1
  refine Exists.intro (5) (Exists.intro σ1 (And.intro rfl (And.intro ⟨2788, rfl, by decide, by decide⟩ (And.intro eσ1.symm ?_))))
  exact ⟨rfl, fσ1, qn_rowS eσ1 hS⟩
theorem m_seed_no {G : qx_G} {σ : qx_S} {x : Int32} (hx : x < 0) : qx_M G qc_T 0 YX12_seed [.ref 197, .int x] σ (qr (-1) σ) := by
  refine qx_M_in rfl (Nat.le_of_ble_eq_true rfl) ?_
  refine qy_wp_ok (c := CX12_seed) (cuts := []) vX12_seed wX12_seed 2000 0 _ _ _ ?_
  refine And.intro (fun h1 => ?_) (fun h1 => ?_)
  · skip
    exact absurd hx (Int32.not_lt.mpr h1)
  · skip
    refine Exists.intro ((-1)) (And.intro (by decide) ?_)
    exact ⟨rfl, rfl⟩
theorem m_seed_ok {G : qx_G} {σ : qx_S} {S : qS} (hS : qx_mi σ 207 = S) {x : Int32} (hx : ¬ x < 0) : qx_M G qc_T 0 YX12_seed [.ref 197, .int x] σ (fun r s => r = some (.int (S 8)) ∧ ql [(207, none)] σ s ∧ qx_mi s 207 = va_up S 8 x) := by
  refine qx_M_in rfl (Nat.le_of_ble_eq_true rfl) ?_
  refine qy_wp_ok (c := CX12_seed) (cuts := []) vX12_seed wX12_seed 2000 0 _ _ _ ?_
  refine And.intro (fun h1 => ?_) (fun h1 => ?_)
  · skip
    refine And.intro rfl (Exists.intro 207 (And.intro rfl ?_))
    refine Exists.intro (nI 8) (And.intro rfl ?_)
    refine Exists.intro (8) (Exists.intro (S 8) (And.intro rfl (And.intro ⟨2788, rfl, by decide, by decide⟩ (And.intro (congrFun hS 8) ?_))))
    refine And.intro rfl (Exists.intro 207 (And.intro rfl ?_))
    refine Exists.intro (nI 8) (And.intro rfl ?_)
    obtain ⟨σ1, eσ1⟩ : ∃ zs, zs = (qx_wi σ 207 8 x) := ⟨_, rfl⟩
    have fσ1 := qn_wi eσ1
    refine Exists.intro (8) (Exists.intro σ1 (And.intro rfl (And.intro ⟨2788, rfl, by decide, by decide⟩ (And.intro eσ1.symm ?_))))
    exact ⟨rfl, fσ1, qn_rowS eσ1 hS⟩
  · skip
    exact absurd (Int32.not_lt.mp hx) h1
theorem m_found_no {G : qx_G} {σ : qx_S} {S : qS} (hS : qx_mi σ 207 = S) {pe pl : Nat} (e1 : S 1 = nI pe) (e0 : S 0 = nI pl) {x q : Int32} (hb : (q_is x pe && (decide (q = -1) || q_is q pl)) = false) : qx_M G qc_T 1 YX12_found [.ref 197, .int x, .int q] σ (qr (nI 0) σ) := by
  refine qx_M_in rfl (Nat.le_of_ble_eq_true rfl) ?_
  refine qy_wp_ok (c := CX12_found) (cuts := []) vX12_found wX12_found 2000 0 _ _ _ ?_
  refine And.intro rfl (Exists.intro _ (And.intro (by decide) (qx_M_mono (m_isPerson hS e1 x) ?_)))
  rintro _ _ ⟨rfl, rfl⟩
  refine And.intro (fun h5 => ?_) (fun h5 => ?_)
  · skip
    have h5 := bI_f h5
    refine Exists.intro (nI 0) (And.intro rfl ?_)
    refine And.intro (Or.inl rfl) ?_
    exact ⟨rfl, rfl⟩
  · skip
    have h5 := bI_t h5
    refine Exists.intro ((-1)) (And.intro (by decide) ?_)
    refine And.intro (fun h10 => ?_) (fun h10 => ?_)
    · skip
      rw [h5, decide_eq_true h10] at hb; cases hb
    · skip
      refine And.intro rfl (Exists.intro _ (And.intro (by decide) (qx_M_mono (m_isPlace hS e0 q) ?_)))
      rintro _ _ ⟨rfl, rfl⟩
      refine And.intro (fun h18 => ?_) (fun h18 => ?_)
      · skip
        have h18 := bI_t h18
        rw [h5, h18, Bool.or_true] at hb; cases hb
      · skip
        have h18 := bI_f h18
        refine Exists.intro (nI 0) (And.intro rfl ?_)
        refine And.intro (Or.inl rfl) ?_
        exact ⟨rfl, rfl⟩
theorem m_found_ok {G : qx_G} {σ : qx_S} {S : qS} (hS : qx_mi σ 207 = S) {pe pl : Nat} (e1 : S 1 = nI pe) (e0 : S 0 = nI pl) (hpe : pe ≤ 10) {p : Nat} (hp : p < pe) {q : Int32} (hb : (decide (q = -1) || q_is q pl) = true) : qx_M G qc_T 1 YX12_found [.ref 197, .int (nI p), .int q] σ (fun r s => r = some (.int (nI 1)) ∧ ql [(207, none)] σ s ∧ qx_mi s 207 = va_up S (338 + p) q) := by
  refine qx_M_in rfl (Nat.le_of_ble_eq_true rfl) ?_
  refine qy_wp_ok (c := CX12_found) (cuts := []) vX12_found wX12_found 2000 0 _ _ _ ?_
  refine And.intro rfl (Exists.intro _ (And.intro (by decide) (qx_M_mono (m_isPerson hS e1 (nI p)) ?_)))
  rintro _ _ ⟨rfl, rfl⟩
  refine And.intro (fun h5 => ?_) (fun h5 => ?_)
  · skip
    have h5 := bI_f h5
    exact absurd (h5.symm.trans (q_is_ok hp (by omega))) (by decide)
  · skip
    have h5 := bI_t h5
    refine Exists.intro ((-1)) (And.intro (by decide) ?_)
    refine And.intro (fun h10 => ?_) (fun h10 => ?_)
    · skip
      refine And.intro rfl (Exists.intro 207 (And.intro rfl ?_))
      refine Exists.intro (nI 338) (And.intro rfl ?_)
      refine Exists.intro (nI (338 + p)) (And.intro (nI_add _ _) ?_)
      obtain ⟨σ1, eσ1⟩ : ∃ zs, zs = (qx_wi σ 207 (338 + p) q) := ⟨_, rfl⟩
      have fσ1 := qn_wi eσ1
      refine Exists.intro (338 + p) (Exists.intro σ1 (And.intro rfl (And.intro ⟨2788, rfl, by omega, by decide⟩ (And.intro eσ1.symm ?_))))
      refine Exists.intro (nI 1) (And.intro rfl ?_)
      refine And.intro (Or.inr rfl) ?_
      exact ⟨rfl, fσ1, qn_rowS eσ1 hS⟩
    · skip
      refine And.intro rfl (Exists.intro _ (And.intro (by decide) (qx_M_mono (m_isPlace hS e0 q) ?_)))
      rintro _ _ ⟨rfl, rfl⟩
      refine And.intro (fun h18 => ?_) (fun h18 => ?_)
      · skip
        have h18 := bI_t h18
        refine And.intro rfl (Exists.intro 207 (And.intro rfl ?_))
        refine Exists.intro (nI 338) (And.intro rfl ?_)
        refine Exists.intro (nI (338 + p)) (And.intro (nI_add _ _) ?_)
        obtain ⟨σ1, eσ1⟩ : ∃ zs, zs = (qx_wi σ 207 (338 + p) q) := ⟨_, rfl⟩
        have fσ1 := qn_wi eσ1
        refine Exists.intro (338 + p) (Exists.intro σ1 (And.intro rfl (And.intro ⟨2788, rfl, by omega, by decide⟩ (And.intro eσ1.symm ?_))))
        refine Exists.intro (nI 1) (And.intro rfl ?_)
        refine And.intro (Or.inr rfl) ?_
        exact ⟨rfl, fσ1, qn_rowS eσ1 hS⟩
      · skip
        have h18 := bI_f h18
        rw [decide_eq_false h10, h18] at hb; cases hb

