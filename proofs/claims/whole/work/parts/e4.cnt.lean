/-! THE CLASS: counts; a rule comes in force -/
theorem c_count_0 {G : qx_G} {σ : qx_S} {S : qS} {rf : Option qR} {e : Nat} (hI : cI σ S rf e) : qx_M G qc_T 1 YX11_count [.ref 3, .int (nI 0)] σ (qr (S 0) σ) := by
  refine qx_M_in rfl (Nat.le_of_ble_eq_true rfl) ?_
  refine qy_wp_ok (c := CX11_count) (cuts := []) vX11_count wX11_count 2000 0 _ _ _ ?_
  refine And.intro (fun _ => ?_) (fun h => absurd rfl h)
  refine And.intro rfl (Exists.intro 15 (And.intro rfl ?_))
  refine And.intro rfl (Exists.intro 16 (And.intro rfl ?_))
  refine And.intro rfl (Exists.intro 4 (Exists.intro (S 0) (And.intro rfl (And.intro hI.2.1.1.1 ?_))))
  exact ⟨rfl, rfl⟩
theorem c_count_1 {G : qx_G} {σ : qx_S} {S : qS} {rf : Option qR} {e : Nat} (hI : cI σ S rf e) : qx_M G qc_T 1 YX11_count [.ref 3, .int (nI 1)] σ (qr (S 1) σ) := by
  refine qx_M_in rfl (Nat.le_of_ble_eq_true rfl) ?_
  refine qy_wp_ok (c := CX11_count) (cuts := []) vX11_count wX11_count 2000 0 _ _ _ ?_
  refine And.intro (fun h => absurd h (by decide)) (fun _ => ?_)
  refine And.intro (fun _ => ?_) (fun h => absurd rfl h)
  refine And.intro rfl (Exists.intro 15 (And.intro rfl ?_))
  refine And.intro rfl (Exists.intro 16 (And.intro rfl ?_))
  refine And.intro rfl (Exists.intro 5 (Exists.intro (S 1) (And.intro rfl (And.intro hI.2.1.1.2.1 ?_))))
  exact ⟨rfl, rfl⟩
theorem c_count_2 {G : qx_G} {σ : qx_S} {S : qS} {rf : Option qR} {e : Nat} (hI : cI σ S rf e) : qx_M G qc_T 1 YX11_count [.ref 3, .int (nI 2)] σ (qr (S 2) σ) := by
  refine qx_M_in rfl (Nat.le_of_ble_eq_true rfl) ?_
  refine qy_wp_ok (c := CX11_count) (cuts := []) vX11_count wX11_count 2000 0 _ _ _ ?_
  refine And.intro (fun h => absurd h (by decide)) (fun _ => ?_)
  refine And.intro (fun h => absurd h (by decide)) (fun _ => ?_)
  refine And.intro (fun _ => ?_) (fun h => absurd rfl h)
  refine And.intro rfl (Exists.intro 15 (And.intro rfl ?_))
  refine And.intro rfl (Exists.intro 16 (And.intro rfl ?_))
  refine And.intro rfl (Exists.intro 6 (Exists.intro (S 2) (And.intro rfl (And.intro hI.2.1.1.2.2.1 ?_))))
  exact ⟨rfl, rfl⟩
theorem c_count_3 {G : qx_G} {σ : qx_S} {v : Int32} (hv : qx_mi σ 3 15 = v) : qx_M G qc_T 1 YX11_count [.ref 3, .int (nI 3)] σ (qr v σ) := by
  refine qx_M_in rfl (Nat.le_of_ble_eq_true rfl) ?_
  refine qy_wp_ok (c := CX11_count) (cuts := []) vX11_count wX11_count 2000 0 _ _ _ ?_
  refine And.intro (fun h => absurd h (by decide)) (fun _ => ?_)
  refine And.intro (fun h => absurd h (by decide)) (fun _ => ?_)
  refine And.intro (fun h => absurd h (by decide)) (fun _ => ?_)
  refine And.intro (fun _ => ?_) (fun h => absurd rfl h)
  refine And.intro rfl (Exists.intro 15 (Exists.intro v (And.intro rfl (And.intro hv ?_))))
  exact ⟨rfl, rfl⟩
theorem c_count_4 {G : qx_G} {σ : qx_S} {S : qS} {rf : Option qR} {e : Nat} (hI : cI σ S rf e) : qx_M G qc_T 1 YX11_count [.ref 3, .int (nI 4)] σ (qr (S 7) σ) := by
  refine qx_M_in rfl (Nat.le_of_ble_eq_true rfl) ?_
  refine qy_wp_ok (c := CX11_count) (cuts := []) vX11_count wX11_count 2000 0 _ _ _ ?_
  refine And.intro (fun h => absurd h (by decide)) (fun _ => ?_)
  refine And.intro (fun h => absurd h (by decide)) (fun _ => ?_)
  refine And.intro (fun h => absurd h (by decide)) (fun _ => ?_)
  refine And.intro (fun h => absurd h (by decide)) (fun _ => ?_)
  refine And.intro (fun _ => ?_) (fun h => absurd rfl h)
  refine And.intro rfl (Exists.intro 15 (And.intro rfl ?_))
  refine And.intro rfl (Exists.intro 9 (Exists.intro (S 7) (And.intro rfl (And.intro hI.2.1.2.2.2.2.2.2.2.2.1 ?_))))
  exact ⟨rfl, rfl⟩
theorem c_count_5 {G : qx_G} {σ : qx_S} {S : qS} {rf : Option qR} {e : Nat} (hI : cI σ S rf e) : qx_M G qc_T 1 YX11_count [.ref 3, .int (nI 5)] σ (qr (S 3) σ) := by
  refine qx_M_in rfl (Nat.le_of_ble_eq_true rfl) ?_
  refine qy_wp_ok (c := CX11_count) (cuts := []) vX11_count wX11_count 2000 0 _ _ _ ?_
  refine And.intro (fun h => absurd h (by decide)) (fun _ => ?_)
  refine And.intro (fun h => absurd h (by decide)) (fun _ => ?_)
  refine And.intro (fun h => absurd h (by decide)) (fun _ => ?_)
  refine And.intro (fun h => absurd h (by decide)) (fun _ => ?_)
  refine And.intro (fun h => absurd h (by decide)) (fun _ => ?_)
  refine And.intro (fun _ => ?_) (fun h => absurd rfl h)
  refine And.intro rfl (Exists.intro 15 (And.intro rfl ?_))
  refine And.intro rfl (Exists.intro 21 (And.intro rfl ?_))
  refine And.intro rfl (Exists.intro 4 (Exists.intro (S 3) (And.intro rfl (And.intro hI.2.1.2.1.1 ?_))))
  exact ⟨rfl, rfl⟩
theorem c_count_6 {G : qx_G} {σ : qx_S} {S : qS} {rf : Option qR} {e : Nat} (hI : cI σ S rf e) : qx_M G qc_T 1 YX11_count [.ref 3, .int (nI 6)] σ (qr (S 4) σ) := by
  refine qx_M_in rfl (Nat.le_of_ble_eq_true rfl) ?_
  refine qy_wp_ok (c := CX11_count) (cuts := []) vX11_count wX11_count 2000 0 _ _ _ ?_
  refine And.intro (fun h => absurd h (by decide)) (fun _ => ?_)
  refine And.intro (fun h => absurd h (by decide)) (fun _ => ?_)
  refine And.intro (fun h => absurd h (by decide)) (fun _ => ?_)
  refine And.intro (fun h => absurd h (by decide)) (fun _ => ?_)
  refine And.intro (fun h => absurd h (by decide)) (fun _ => ?_)
  refine And.intro (fun h => absurd h (by decide)) (fun _ => ?_)
  refine And.intro (fun _ => ?_) (fun h => absurd rfl h)
  refine And.intro rfl (Exists.intro 15 (And.intro rfl ?_))
  refine And.intro rfl (Exists.intro 27 (And.intro rfl ?_))
  refine And.intro rfl (Exists.intro 1 (Exists.intro (S 4) (And.intro rfl (And.intro hI.2.1.2.2.2.1.1 ?_))))
  exact ⟨rfl, rfl⟩
theorem c_count_7 {G : qx_G} {σ : qx_S} {S : qS} {rf : Option qR} {e : Nat} (hI : cI σ S rf e) : qx_M G qc_T 1 YX11_count [.ref 3, .int (nI 7)] σ (qr (S 5) σ) := by
  refine qx_M_in rfl (Nat.le_of_ble_eq_true rfl) ?_
  refine qy_wp_ok (c := CX11_count) (cuts := []) vX11_count wX11_count 2000 0 _ _ _ ?_
  refine And.intro (fun h => absurd h (by decide)) (fun _ => ?_)
  refine And.intro (fun h => absurd h (by decide)) (fun _ => ?_)
  refine And.intro (fun h => absurd h (by decide)) (fun _ => ?_)
  refine And.intro (fun h => absurd h (by decide)) (fun _ => ?_)
  refine And.intro (fun h => absurd h (by decide)) (fun _ => ?_)
  refine And.intro (fun h => absurd h (by decide)) (fun _ => ?_)
  refine And.intro (fun h => absurd h (by decide)) (fun _ => ?_)
  refine And.intro (fun _ => ?_) (fun h => absurd rfl h)
  refine And.intro rfl (Exists.intro 15 (And.intro rfl ?_))
  refine And.intro rfl (Exists.intro 8 (Exists.intro (S 5) (And.intro rfl (And.intro hI.2.1.2.2.2.2.2.2.2.1 ?_))))
  exact ⟨rfl, rfl⟩
theorem c_count_8 {G : qx_G} {σ : qx_S} {S : qS} {rf : Option qR} {e : Nat} (hI : cI σ S rf e) : qx_M G qc_T 1 YX11_count [.ref 3, .int (nI 8)] σ (qr (S 9) σ) := by
  refine qx_M_in rfl (Nat.le_of_ble_eq_true rfl) ?_
  refine qy_wp_ok (c := CX11_count) (cuts := []) vX11_count wX11_count 2000 0 _ _ _ ?_
  refine And.intro (fun h => absurd h (by decide)) (fun _ => ?_)
  refine And.intro (fun h => absurd h (by decide)) (fun _ => ?_)
  refine And.intro (fun h => absurd h (by decide)) (fun _ => ?_)
  refine And.intro (fun h => absurd h (by decide)) (fun _ => ?_)
  refine And.intro (fun h => absurd h (by decide)) (fun _ => ?_)
  refine And.intro (fun h => absurd h (by decide)) (fun _ => ?_)
  refine And.intro (fun h => absurd h (by decide)) (fun _ => ?_)
  refine And.intro (fun h => absurd h (by decide)) (fun _ => ?_)
  refine And.intro (fun _ => ?_) (fun h => absurd rfl h)
  refine And.intro rfl (Exists.intro 15 (And.intro rfl ?_))
  refine And.intro rfl (Exists.intro 7 (Exists.intro (S 9) (And.intro rfl (And.intro hI.2.1.2.2.2.2.2.2.1 ?_))))
  exact ⟨rfl, rfl⟩
theorem c_count_11 {G : qx_G} {σ : qx_S} {S : qS} {rf : Option qR} {e : Nat} (hI : cI σ S rf e) : qx_M G qc_T 1 YX11_count [.ref 3, .int (nI 11)] σ (qr (S 6) σ) := by
  refine qx_M_in rfl (Nat.le_of_ble_eq_true rfl) ?_
  refine qy_wp_ok (c := CX11_count) (cuts := []) vX11_count wX11_count 2000 0 _ _ _ ?_
  refine And.intro (fun h => absurd h (by decide)) (fun _ => ?_)
  refine And.intro (fun h => absurd h (by decide)) (fun _ => ?_)
  refine And.intro (fun h => absurd h (by decide)) (fun _ => ?_)
  refine And.intro (fun h => absurd h (by decide)) (fun _ => ?_)
  refine And.intro (fun h => absurd h (by decide)) (fun _ => ?_)
  refine And.intro (fun h => absurd h (by decide)) (fun _ => ?_)
  refine And.intro (fun h => absurd h (by decide)) (fun _ => ?_)
  refine And.intro (fun h => absurd h (by decide)) (fun _ => ?_)
  refine And.intro (fun h => absurd h (by decide)) (fun _ => ?_)
  refine And.intro (fun h => absurd h (by decide)) (fun _ => ?_)
  refine And.intro (fun h => absurd h (by decide)) (fun _ => ?_)
  refine And.intro (fun _ => ?_) (fun h => absurd rfl h)
  refine And.intro rfl (Exists.intro 15 (And.intro rfl ?_))
  refine And.intro rfl (Exists.intro 21 (And.intro rfl ?_))
  refine And.intro rfl (Exists.intro 5 (Exists.intro (S 6) (And.intro rfl (And.intro hI.2.1.2.1.2.1 ?_))))
  exact ⟨rfl, rfl⟩
theorem c_count_12 {G : qx_G} {σ : qx_S} {S : qS} {rf : Option qR} {e : Nat} (hI : cI σ S rf e) : qx_M G qc_T 1 YX11_count [.ref 3, .int (nI 12)] σ (qr (S 8) σ) := by
  refine qx_M_in rfl (Nat.le_of_ble_eq_true rfl) ?_
  refine qy_wp_ok (c := CX11_count) (cuts := []) vX11_count wX11_count 2000 0 _ _ _ ?_
  refine And.intro (fun h => absurd h (by decide)) (fun _ => ?_)
  refine And.intro (fun h => absurd h (by decide)) (fun _ => ?_)
  refine And.intro (fun h => absurd h (by decide)) (fun _ => ?_)
  refine And.intro (fun h => absurd h (by decide)) (fun _ => ?_)
  refine And.intro (fun h => absurd h (by decide)) (fun _ => ?_)
  refine And.intro (fun h => absurd h (by decide)) (fun _ => ?_)
  refine And.intro (fun h => absurd h (by decide)) (fun _ => ?_)
  refine And.intro (fun h => absurd h (by decide)) (fun _ => ?_)
  refine And.intro (fun h => absurd h (by decide)) (fun _ => ?_)
  refine And.intro (fun h => absurd h (by decide)) (fun _ => ?_)
  refine And.intro (fun h => absurd h (by decide)) (fun _ => ?_)
  refine And.intro (fun h => absurd h (by decide)) (fun _ => ?_)
  refine And.intro (fun _ => ?_) (fun h => absurd rfl h)
  refine And.intro rfl (Exists.intro 15 (And.intro rfl ?_))
  refine And.intro rfl (Exists.intro 10 (Exists.intro (S 8) (And.intro rfl (And.intro hI.2.1.2.2.2.2.2.2.2.2.2 ?_))))
  exact ⟨rfl, rfl⟩
theorem c_count_13 {G : qx_G} {σ : qx_S} {v : Int32} (hv : qx_mi σ 4 4 = v) : qx_M G qc_T 1 YX11_count [.ref 3, .int (nI 13)] σ (qr v σ) := by
  refine qx_M_in rfl (Nat.le_of_ble_eq_true rfl) ?_
  refine qy_wp_ok (c := CX11_count) (cuts := []) vX11_count wX11_count 2000 0 _ _ _ ?_
  refine And.intro (fun h => absurd h (by decide)) (fun _ => ?_)
  refine And.intro (fun h => absurd h (by decide)) (fun _ => ?_)
  refine And.intro (fun h => absurd h (by decide)) (fun _ => ?_)
  refine And.intro (fun h => absurd h (by decide)) (fun _ => ?_)
  refine And.intro (fun h => absurd h (by decide)) (fun _ => ?_)
  refine And.intro (fun h => absurd h (by decide)) (fun _ => ?_)
  refine And.intro (fun h => absurd h (by decide)) (fun _ => ?_)
  refine And.intro (fun h => absurd h (by decide)) (fun _ => ?_)
  refine And.intro (fun h => absurd h (by decide)) (fun _ => ?_)
  refine And.intro (fun h => absurd h (by decide)) (fun _ => ?_)
  refine And.intro (fun h => absurd h (by decide)) (fun _ => ?_)
  refine And.intro (fun h => absurd h (by decide)) (fun _ => ?_)
  refine And.intro (fun h => absurd h (by decide)) (fun _ => ?_)
  refine And.intro (fun _ => ?_) (fun h => absurd rfl h)
  refine And.intro rfl (Exists.intro 4 (And.intro rfl ?_))
  refine And.intro rfl (Exists.intro 4 (Exists.intro v (And.intro rfl (And.intro hv ?_))))
  exact ⟨rfl, rfl⟩
theorem c_count_no {G : qx_G} {σ : qx_S} {x : Int32} (hx : ∀ w, w ≤ 13 → ¬ x = nI w) : qx_M G qc_T 1 YX11_count [.ref 3, .int x] σ (qr (-1) σ) := by
  refine qx_M_in rfl (Nat.le_of_ble_eq_true rfl) ?_
  refine qy_wp_ok (c := CX11_count) (cuts := []) vX11_count wX11_count 2000 0 _ _ _ ?_
  refine And.intro (fun h1 => ?_) (fun h1_0 => ?_)
  · skip
    have h1 : x = nI 0 := h1
    exact absurd h1 (hx 0 (by decide))
  have h1_0 : ¬ x = nI 0 := h1_0
  refine And.intro (fun h1 => ?_) (fun h1_1 => ?_)
  · skip
    have h1 : x = nI 1 := h1
    exact absurd h1 (hx 1 (by decide))
  have h1_1 : ¬ x = nI 1 := h1_1
  refine And.intro (fun h1 => ?_) (fun h1_2 => ?_)
  · skip
    have h1 : x = nI 2 := h1
    exact absurd h1 (hx 2 (by decide))
  have h1_2 : ¬ x = nI 2 := h1_2
  refine And.intro (fun h1 => ?_) (fun h1_3 => ?_)
  · skip
    have h1 : x = nI 3 := h1
    exact absurd h1 (hx 3 (by decide))
  have h1_3 : ¬ x = nI 3 := h1_3
  refine And.intro (fun h1 => ?_) (fun h1_4 => ?_)
  · skip
    have h1 : x = nI 4 := h1
    exact absurd h1 (hx 4 (by decide))
  have h1_4 : ¬ x = nI 4 := h1_4
  refine And.intro (fun h1 => ?_) (fun h1_5 => ?_)
  · skip
    have h1 : x = nI 5 := h1
    exact absurd h1 (hx 5 (by decide))
  have h1_5 : ¬ x = nI 5 := h1_5
  refine And.intro (fun h1 => ?_) (fun h1_6 => ?_)
  · skip
    have h1 : x = nI 6 := h1
    exact absurd h1 (hx 6 (by decide))
  have h1_6 : ¬ x = nI 6 := h1_6
  refine And.intro (fun h1 => ?_) (fun h1_7 => ?_)
  · skip
    have h1 : x = nI 7 := h1
    exact absurd h1 (hx 7 (by decide))
  have h1_7 : ¬ x = nI 7 := h1_7
  refine And.intro (fun h1 => ?_) (fun h1_8 => ?_)
  · skip
    have h1 : x = nI 8 := h1
    exact absurd h1 (hx 8 (by decide))
  have h1_8 : ¬ x = nI 8 := h1_8
  refine And.intro (fun h1 => ?_) (fun h1_9 => ?_)
  · skip
    have h1 : x = nI 9 := h1
    exact absurd h1 (hx 9 (by decide))
  have h1_9 : ¬ x = nI 9 := h1_9
  refine And.intro (fun h1 => ?_) (fun h1_10 => ?_)
  · skip
    have h1 : x = nI 10 := h1
    exact absurd h1 (hx 10 (by decide))
  have h1_10 : ¬ x = nI 10 := h1_10
  refine And.intro (fun h1 => ?_) (fun h1_11 => ?_)
  · skip
    have h1 : x = nI 11 := h1
    exact absurd h1 (hx 11 (by decide))
  have h1_11 : ¬ x = nI 11 := h1_11
  refine And.intro (fun h1 => ?_) (fun h1_12 => ?_)
  · skip
    have h1 : x = nI 12 := h1
    exact absurd h1 (hx 12 (by decide))
  have h1_12 : ¬ x = nI 12 := h1_12
  refine And.intro (fun h1 => ?_) (fun h1_13 => ?_)
  · skip
    have h1 : x = nI 13 := h1
    exact absurd h1 (hx 13 (by decide))
  have h1_13 : ¬ x = nI 13 := h1_13
  refine Exists.intro ((-1)) (And.intro (by decide) ?_)
  exact ⟨rfl, rfl⟩
theorem c_count_9 {G : qx_G} {σ : qx_S} {S : qS} {rf : Option qR} {e : Nat} (hI : cI σ S rf e) : qx_M G qc_T 1 YX11_count [.ref 3, .int (nI 9)] σ (qr (q_sum (fun p => q_sum (fun k => S (154 + 10 * p + k)) (s_n S 1)) (s_n S 1)) σ) := by
  have hpe := hI.1.pe
  have e1 : q_sum (fun p => if p < s_n S 1 then q_sum (fun k => S (154 + 10 * p + k)) (s_n S 1) else 0) 10 = q_sum (fun p => q_sum (fun k => S (154 + 10 * p + k)) (s_n S 1)) (s_n S 1) := by
    rw [q_sum_cut 10 hpe (fun k h1 h2 => if_neg (by omega))]
    exact q_sum_cg _ (fun k hk => if_pos hk)
  rw [← e1]
  refine qx_M_in rfl (Nat.le_of_ble_eq_true rfl) ?_
  refine qy_wp_ok (c := CX11_count) (cuts := []) vX11_count wX11_count 2000 0 _ _ _ ?_
  refine And.intro (fun h => absurd h (by decide)) (fun _ => ?_)
  refine And.intro (fun h => absurd h (by decide)) (fun _ => ?_)
  refine And.intro (fun h => absurd h (by decide)) (fun _ => ?_)
  refine And.intro (fun h => absurd h (by decide)) (fun _ => ?_)
  refine And.intro (fun h => absurd h (by decide)) (fun _ => ?_)
  refine And.intro (fun h => absurd h (by decide)) (fun _ => ?_)
  refine And.intro (fun h => absurd h (by decide)) (fun _ => ?_)
  refine And.intro (fun h => absurd h (by decide)) (fun _ => ?_)
  refine And.intro (fun h => absurd h (by decide)) (fun _ => ?_)
  refine And.intro (fun _ => ?_) (fun h => absurd rfl h)
  refine And.intro rfl (Exists.intro 15 (And.intro rfl ?_))
  refine And.intro rfl (Exists.intro 21 (And.intro rfl ?_))
  refine And.intro rfl (Exists.intro _ (And.intro (by decide) (qx_M_mono (c_debtInAll (f := fun p => if p < s_n S 1 then q_sum (fun k => S (154 + 10 * p + k)) (s_n S 1) else 0) (fun o ho => (hI.2.1.2.1.2.2.2.2 o ho).trans (hI.1.debt ho))) ?_)))
  rintro _ _ ⟨rfl, rfl⟩
  exact ⟨rfl, rfl⟩
/-- where one was found: nowhere, or at a place -/
def gFd (S : qS) : Prop := ∀ p, p < s_n S 1 → S (338 + p) = -1 ∨ ∃ v, v < 8 ∧ S (338 + p) = nI v
theorem l_foundP {G : qx_G} {σ : qx_S} {S : qS} {rf : Option qR} {e : Nat} (hI : cI σ S rf e) (hF : gFd S) : ∀ (m p : Nat), m + p = s_n S 1 → qx_K G qc_T 0 RX8 YX8_foundPeople 4 [.ref 15, .int (nI (q_fn S p)), .int (nI p)] [] σ (qr (nI (q_fn S (s_n S 1))) σ) := by
  intro m
  have hpe := hI.1.pe
  have e5 := hI.2.1.1.2.1.trans hI.1.1.2.1.2.1.1
  induction m with
  | zero =>
    intro p hp
    obtain rfl : p = s_n S 1 := by omega
    refine qy_wp_ok (c := CX8_foundPeople) (cuts := [4]) vX8_foundPeople wX8_foundPeople 2000 4 _ _ _ ?_
    refine And.intro rfl (Exists.intro 16 (And.intro rfl ?_))
    refine And.intro rfl (Exists.intro 5 (Exists.intro (nI (s_n S 1)) (And.intro rfl (And.intro e5 ?_))))
    refine And.intro (fun h12 => ?_) (fun h12 => ?_)
    · skip
      have h12 := nI_leT (a := s_n S 1) (b := s_n S 1) (by omega) (by omega) h12
      exact ⟨rfl, rfl⟩
    · skip
      have h12 := nI_leF (a := s_n S 1) (b := s_n S 1) (by omega) (by omega) h12
      exact absurd h12 (by omega)
  | succ m ih =>
    intro p hp
    have hp1 : p < s_n S 1 := by omega
    have u1 : S (338 + p) = -1 → q_fn S (p + 1) = q_fn S p := fun h => by
      show _ + (if _ then _ else _) = _
      rw [h, if_pos (by decide)]
      rfl
    have u2 : ¬ S (338 + p) = -1 → q_fn S (p + 1) = q_fn S p + 1 := fun h => by
      show _ + (if _ then _ else _) = _
      rcases hF p hp1 with z | ⟨v, hv, z⟩
      · exact absurd z h
      · rw [z, if_neg (nI_pos (by omega))]
    refine qy_wp_ok (c := CX8_foundPeople) (cuts := [4]) vX8_foundPeople wX8_foundPeople 2000 4 _ _ _ ?_
    refine And.intro rfl (Exists.intro 16 (And.intro rfl ?_))
    refine And.intro rfl (Exists.intro 5 (Exists.intro (nI (s_n S 1)) (And.intro rfl (And.intro e5 ?_))))
    refine And.intro (fun h12 => ?_) (fun h12 => ?_)
    · skip
      have h12 := nI_leT (a := s_n S 1) (b := p) (by omega) (by omega) h12
      exact absurd h12 (by omega)
    · skip
      have h12 := nI_leF (a := s_n S 1) (b := p) (by omega) (by omega) h12
      refine And.intro rfl (Exists.intro 30 (And.intro rfl ?_))
      refine Exists.intro (p) (Exists.intro (S (338 + p)) (And.intro rfl (And.intro ⟨10, rfl, by omega, by decide⟩ (And.intro (hI.2.1.2.2.2.2.2.1 p hp1) ?_))))
      refine Exists.intro ((-1)) (And.intro (by decide) ?_)
      refine And.intro (fun h22 => ?_) (fun h22 => ?_)
      · skip
        refine Exists.intro (nI (p + 1)) (And.intro (nI_add _ _) ?_)
        have z := ih (p + 1) (by omega)
        first | (rw [u1 h22] at z; exact z) | (rw [u2 h22] at z; exact z)
      · skip
        refine Exists.intro (nI (q_fn S p + 1)) (And.intro (nI_add _ _) ?_)
        refine Exists.intro (nI (p + 1)) (And.intro (nI_add _ _) ?_)
        have z := ih (p + 1) (by omega)
        first | (rw [u1 h22] at z; exact z) | (rw [u2 h22] at z; exact z)
theorem c_count_10 {G : qx_G} {σ : qx_S} {S : qS} {rf : Option qR} {e : Nat} (hI : cI σ S rf e) (hF : gFd S) : qx_M G qc_T 1 YX11_count [.ref 3, .int (nI 10)] σ (qr (nI (q_fn S (s_n S 1))) σ) := by
  have key : qx_M G qc_T 0 YX8_foundPeople [.ref 15] σ (qr (nI (q_fn S (s_n S 1))) σ) := by
    refine qx_M_in rfl (Nat.le_of_ble_eq_true rfl) ?_
    refine qy_wp_ok (c := CX8_foundPeople) (cuts := [4]) vX8_foundPeople wX8_foundPeople 2000 0 _ _ _ ?_
    refine Exists.intro (nI 0) (And.intro rfl ?_)
    refine Exists.intro (nI 0) (And.intro rfl ?_)
    exact l_foundP hI hF (s_n S 1) 0 (by omega)
  refine qx_M_in rfl (Nat.le_of_ble_eq_true rfl) ?_
  refine qy_wp_ok (c := CX11_count) (cuts := []) vX11_count wX11_count 2000 0 _ _ _ ?_
  refine And.intro (fun h => absurd h (by decide)) (fun _ => ?_)
  refine And.intro (fun h => absurd h (by decide)) (fun _ => ?_)
  refine And.intro (fun h => absurd h (by decide)) (fun _ => ?_)
  refine And.intro (fun h => absurd h (by decide)) (fun _ => ?_)
  refine And.intro (fun h => absurd h (by decide)) (fun _ => ?_)
  refine And.intro (fun h => absurd h (by decide)) (fun _ => ?_)
  refine And.intro (fun h => absurd h (by decide)) (fun _ => ?_)
  refine And.intro (fun h => absurd h (by decide)) (fun _ => ?_)
  refine And.intro (fun h => absurd h (by decide)) (fun _ => ?_)
  refine And.intro (fun h => absurd h (by decide)) (fun _ => ?_)
  refine And.intro (fun _ => ?_) (fun h => absurd rfl h)
  refine And.intro rfl (Exists.intro 15 (And.intro rfl ?_))
  refine And.intro rfl (Exists.intro _ (And.intro (by decide) (qx_M_mono (key) ?_)))
  rintro _ _ ⟨rfl, rfl⟩
  exact ⟨rfl, rfl⟩
/-- a rule comes in force -/
def cRv (σ : qx_S) (v : Option Nat) (rf : Option qR) : Prop := match rf with
  | none => v = none
  | some R => ∃ x, v = some x ∧ (191 ≤ x ∧ x + 6 ≤ σ.1) ∧ shR σ x ∧ uR σ x R ∧ q_wf R
theorem cI.nw {s1 s : qx_S} {S' : qS} {rf' : Option qR} {e pe0 : Nat} {v : Option Nat} {lk0 : Nat → Nat → Nat → Int32} {can0 : Nat → Nat → Nat → Nat → Bool} (g : gT S') (c : cSt s1 15 S') (h : cSh s1 15) (h6 : qx_mr s1 156 6 = some 21) (k1 : cK s1 e true pe0 lk0) (t1 : kTw s1 e pe0 can0) (h9 : 229 ≤ s1.1) (hv : inF s1 v) (hr : cRv s1 v rf') (es : s = qx_wi (qx_wr s1 156 7 v) 156 8 (nI (e + 1))) (he : e + 1 ≤ 1000) : cI s S' rf' (e + 1) := by
  have mi : ∀ y j, ¬ (y = 156 ∧ j = 8) → qx_mi s y j = qx_mi s1 y j := fun y j hy => by rw [es]; exact qw_ne (by omega)
  have mr : ∀ y j, ¬ (y = 156 ∧ j = 7) → qx_mr s y j = qx_mr s1 y j := fun y j hy => by rw [es]; exact qw_rne (by omega)
  have m7 : qx_mr s 156 7 = v := by rw [es]; exact qw_req (σ := s1) (a := 156) (j := 7) (v := v)
  have m8 : qx_mi s 156 8 = nI (e + 1) := by rw [es]; exact qw_eq
  have n1 : s.1 = s1.1 := by rw [es]; rfl
  have sh : ∀ y, qx_sh qc_T s y = qx_sh qc_T s1 y := fun y => by rw [es]; rfl
  refine ⟨g, c.fb g.1.1 g.b12 (fun y j h1 h2 => mi _ _ (by omega)), ?_, (mr _ _ (by decide)).trans h6, ?_, ?_, ⟨m8, ⟨by omega, he⟩, (mi _ _ (by decide)).trans k1.2.2.1, fun p a q hp ha hq => ?_⟩, ?_, by rw [n1]; exact h9⟩
  · obtain ⟨a1, a2, a3, a4, a5, a6, a7, a8, a9⟩ := h
    refine ⟨a1, a2, a3, a4, a5, a6, a7, fun i hi => ⟨(mr _ _ (by omega)).trans (a8 i hi).1, ?_⟩, fun i hi => ⟨(mr _ _ (by omega)).trans (a9 i hi).1, ?_⟩⟩
    · have w := (a8 i hi).2
      exact ⟨(sh _).trans w.1, (sh _).trans w.2.1, (sh _).trans w.2.2.1, (sh _).trans w.2.2.2.1, (sh _).trans w.2.2.2.2⟩
    · have w := (a9 i hi).2
      exact ⟨(sh _).trans w.1, (sh _).trans w.2⟩
  · cases rf' with
    | none => exact m7.trans hr
    | some R =>
      obtain ⟨x, x1, x2, x3, x4, x5⟩ := hr
      exact ⟨x, m7.trans x1, by rw [n1]; exact x2, uR.sh x3 (fun y _ _ => sh y), x4.lo (fun y hy _ j => mi _ _ (by omega)), x5⟩
  · rw [m7]
    rcases hv with ⟨a, b⟩ | ⟨f, nr, x, a1, a2, a3, a4, a5, a6⟩
    · exact Or.inl ⟨a, (mi _ _ (by decide)).trans b⟩
    · exact Or.inr ⟨f, nr, x, a1, (mi _ _ (by decide)).trans a2, (mi _ _ (by decide)).trans a3, a4, a5, (mr _ _ (by omega)).trans a6⟩
  · obtain ⟨v, w1, w2, w3⟩ := k1.2.2.2 p a q hp ha hq
    exact ⟨v, (mi _ _ (by omega)).trans w1, by omega, fun _ z => absurd z (by omega)⟩
  · rcases t1 with t1 | ⟨t, t1⟩
    · exact Or.inl ((mr _ _ (by decide)).trans t1)
    · refine Or.inr ⟨t, (mr _ _ (by decide)).trans t1.1, t1.2.1, by rw [n1]; exact t1.2.2.1, (sh _).trans t1.2.2.2.1, fun i j x y hi hj hx hy => ?_⟩
      obtain ⟨v, w1, w2, w3⟩ := t1.2.2.2.2 i j x y hi hj hx hy
      have := t1.2.1
      exact ⟨v, (mi _ _ (by omega)).trans w1, by omega, fun _ _ z => absurd z (by omega)⟩
/-- the rules that are kept -/
def cRl (σ : qx_S) (nr : Nat) (Rs : Nat → qR) : Prop := qx_mi σ 3 15 = nI nr ∧ nr ≤ 6 ∧ ∀ i, i < nr → ∃ y, qx_mr σ 14 i = some y ∧ (191 ≤ y ∧ y + 6 ≤ σ.1) ∧ shR σ y ∧ uR σ y (Rs i) ∧ q_wf (Rs i)
theorem cRl.fr {σ s : qx_S} {nr : Nat} {Rs : Nat → qR} {l : List (Nat × Option Nat)} (h : cRl σ nr Rs) (f : ql l σ s) (hl : kLow l = true) (h3 : pL l 3 15 = false) : cRl s nr Rs := by
  refine ⟨(f.i _ _ h3).trans h.1, h.2.1, fun i hi => ?_⟩
  obtain ⟨y, y1, y2, y3, y4, y5⟩ := h.2.2 i hi
  exact ⟨y, (f.r _ _).trans y1, by rw [f.1]; exact y2, y3.fr f, y4.lo (fun z hz _ j => f.i _ _ (kLow_ne hl (by omega))), y5⟩
/-- the rule that x names -/
def q_rf (nr : Nat) (Rs : Nat → qR) (x : Int32) : Option qR := if q_is x nr = true then some (Rs x.toNatClampNeg) else none
theorem c_force_no {G : qx_G} {σ : qx_S} {nr : Nat} {Rs : Nat → qR} (hR : cRl σ nr Rs) {x : Int32} (hx : ¬ x = -1) (hx2 : q_is x nr = false) : qx_M G qc_T 2 YX11_force [.ref 3, .int x] σ (qr (-2) σ) := by
  have h6 := hR.2.1
  have u : ¬ x < -1 → x < nI nr → False := fun h1 h2 => by
    unfold q_is at hx2
    rw [decide_eq_true h2, Bool.and_true] at hx2
    have h3 := of_decide_eq_false hx2
    have k1 : ¬ x.toInt < (-1 : Int32).toInt := fun z => h1 (Int32.lt_iff_toInt_lt.mpr z)
    have k2 : x.toInt < (0 : Int32).toInt := Int32.lt_iff_toInt_lt.mp (Int32.not_le.mp h3)
    have e1 : (-1 : Int32).toInt = -1 := by decide
    have e0 : (0 : Int32).toInt = 0 := by decide
    exact hx (Int32.toInt_inj.mp (by omega))
  refine qx_M_in rfl (Nat.le_of_ble_eq_true rfl) ?_
  refine qy_wp_ok (c := CX11_force) (cuts := []) vX11_force wX11_force 2000 0 _ _ _ ?_
  refine Exists.intro ((-1)) (And.intro (by decide) ?_)
  refine And.intro (fun h2 => ?_) (fun h2 => ?_)
  · skip
    refine Exists.intro ((-2)) (And.intro (by decide) ?_)
    exact ⟨rfl, rfl⟩
  · skip
    refine And.intro rfl (Exists.intro 15 (Exists.intro (nI nr) (And.intro rfl (And.intro hR.1 ?_))))
    refine And.intro (fun h10 => ?_) (fun h10 => ?_)
    · skip
      exact absurd h10 (fun z => u h2 z)
    · skip
      refine Exists.intro ((-2)) (And.intro (by decide) ?_)
      exact ⟨rfl, rfl⟩
theorem c_force_ok {G : qx_G} {σ : qx_S} {S : qS} {rf : Option qR} {e nr : Nat} {Rs : Nat → qR} (hI : cI σ S rf e) (he : e + 1 ≤ 1000) (hR : cRl σ nr Rs) {x : Int32} (hx : x = -1 ∨ q_is x nr = true) : qx_M G qc_T 2 YX11_force [.ref 3, .int x] σ (fun r s => r = some (.int (S 7)) ∧ (∃ v, s = qx_wi (qx_wr (qx_wi σ 15 9 x) 156 7 v) 156 8 (nI (e + 1))) ∧ cI s (va_up S 7 x) (q_rf nr Rs x) (e + 1)) := by
  have h6 := hR.2.1
  have ne : ∀ i, ¬ i = 7 → va_up S 7 x i = S i := fun i hi => va_up_ne _ _ hi
  have c6 := hI.1.c6
  have g' : gT (va_up S 7 x) := hI.1.ot (hI.1.2.2.1.cg (fun i hi => ne _ (by omega))) (hI.1.2.2.2.1.cg (fun i hi => ne _ (by omega))) (fun i hi => ne _ (by omega))
  have u1 : x < -1 → False := fun h1 => by
    rcases hx with z | z
    · rw [z] at h1
      exact absurd h1 (by decide)
    · obtain ⟨k, hk, z⟩ := q_is_t z (by omega)
      rw [z] at h1
      have := Int32.lt_iff_toInt_lt.mp h1
      rw [nI_toInt (by omega)] at this
      have e1 : (-1 : Int32).toInt = -1 := by decide
      omega
  have u2 : ¬ x < nI nr → False := fun h1 => by
    rcases hx with z | z
    · rw [z] at h1
      refine h1 (Int32.lt_iff_toInt_lt.mpr ?_)
      rw [nI_toInt (by omega)]
      have e1 : (-1 : Int32).toInt = -1 := by decide
      omega
    · obtain ⟨k, hk, z⟩ := q_is_t z (by omega)
      rw [z] at h1
      exact h1 ((nI_ltI (by omega) (by omega)).mpr hk)
  have key : ∀ s1, s1 = qx_wi σ 15 9 x → ∃ v, inF s1 v ∧ cRv s1 v (q_rf nr Rs x) := by
    intro s1 e1
    have f := qn_wif e1
    have R1 := hR.fr f rfl rfl
    cases hb : q_is x nr with
    | false =>
      have z := hx.resolve_right (by rw [hb]; decide)
      refine ⟨none, Or.inl ⟨rfl, (qn_eq e1).trans z⟩, ?_⟩
      unfold q_rf
      rw [hb]
      exact rfl
    | true =>
      obtain ⟨k, hk, z⟩ := q_is_t hb (by omega)
      obtain ⟨y, y1, y2, y3, y4, y5⟩ := R1.2.2 k hk
      refine ⟨some y, Or.inr ⟨k, nr, y, rfl, (qn_eq e1).trans z, R1.1, h6, hk, y1⟩, ?_⟩
      unfold q_rf
      rw [hb, z, nI_clamp (by omega)]
      exact ⟨y, rfl, y2, y3, y4, y5⟩
  refine qx_M_in rfl (Nat.le_of_ble_eq_true rfl) ?_
  refine qy_wp_ok (c := CX11_force) (cuts := []) vX11_force wX11_force 2000 0 _ _ _ ?_
  refine Exists.intro ((-1)) (And.intro (by decide) ?_)
  refine And.intro (fun h2 => ?_) (fun h2 => ?_)
  · skip
    exact absurd h2 (fun z => u1 z)
  · skip
    refine And.intro rfl (Exists.intro 15 (Exists.intro (nI nr) (And.intro rfl (And.intro hR.1 ?_))))
    refine And.intro (fun h10 => ?_) (fun h10 => ?_)
    · skip
      refine And.intro rfl (Exists.intro 15 (And.intro rfl ?_))
      refine And.intro rfl (Exists.intro 9 (Exists.intro (S 7) (And.intro rfl (And.intro hI.2.1.2.2.2.2.2.2.2.2.1 ?_))))
      refine And.intro rfl (Exists.intro 15 (And.intro rfl ?_))
      obtain ⟨σ1, eσ1⟩ : ∃ zs, zs = (qx_wi σ 15 9 x) := ⟨_, rfl⟩
      have fσ1 := qn_wif eσ1
      refine And.intro rfl (Exists.intro 9 (Exists.intro σ1 (And.intro rfl (And.intro eσ1.symm ?_))))
      refine And.intro rfl (Exists.intro _ (And.intro (by decide) (qx_M_mono (c_stirV ((fσ1.i _ _ rfl).trans hI.K.1) (key _ eσ1).choose_spec.1) ?_)))
      rintro _ μ ⟨rfl, eμ⟩
      refine ⟨rfl, ⟨_, by rw [← eσ1]; exact eμ⟩, cI.nw g' (hI.2.1.ot hI.1 (hI.2.1.2.2.2.1.tr (ne _ (by omega)) (fun z j _ _ => qn_ne eσ1 (Or.inl (by omega))) (fun j hj => ne _ (by omega))) (cTo.tr hI.2.1.2.2.2.2.1 hI.1.2.2.2.1 (fun y j _ _ => qn_ne eσ1 (Or.inl (by omega))) (fun i hi => ne _ (by omega))) (fun p hp => (qn_ne eσ1 (Or.inl (by decide))).trans ((hI.2.1.2.2.2.2.2.1 p hp).trans (ne _ (by omega)).symm)) ((qn_ne eσ1 (Or.inr (by decide))).trans (hI.2.1.2.2.2.2.2.2.2.1.trans (ne _ (by omega)).symm)) ((qn_eq eσ1).trans (va_up_self _ _ _).symm) ((qn_ne eσ1 (Or.inr (by decide))).trans (hI.2.1.2.2.2.2.2.2.2.2.2.trans (ne _ (by omega)).symm)) (fun y j hy => qn_ne eσ1 (by omega)) (fun i hi => ne _ (by omega))) (hI.2.2.1.fr fσ1) ((fσ1.r _ _).trans hI.2.2.2.1) (hI.K.fr fσ1 (fun _ => rfl) rfl rfl) (hI.T.fr fσ1 rfl) (by rw [fσ1.1]; exact hI.2.2.2.2.2.2.2.2) (key _ eσ1).choose_spec.1 (key _ eσ1).choose_spec.2 eμ he⟩
    · skip
      exact absurd h10 (fun z => u2 z)

