/-! THE REFERENCE: DOCTORS, all sets -/
def q_oI (b : Option Nat) : Int32 := match b with
  | none => -1
  | some s => nI s
def q_d1 (sf : Nat → Nat) (calls : Nat) : Nat → Nat → Option Nat → Option Nat
  | 0, _, b => b
  | m + 1, s, b => q_d1 sf calls m (s + 1) (match b with
    | none => if sf s < calls then none else some s
    | some b' => if sf s < calls ∨ q_bc b' ≤ q_bc s then some b' else some s)
def q_d2 (sf : Nat → Nat) (just : Nat) : Nat → Nat → Int32 × Int32 → Int32 × Int32
  | 0, _, b => b
  | m + 1, s, b => q_d2 sf just m (s + 1) (if q_bc s ≠ just ∨ nI (sf s) ≤ b.2 then b else (nI s, nI (sf s)))
theorem q_bits_le : ∀ (f s : Nat), q_bits f s ≤ f
  | 0, _ => Nat.le_refl _
  | f + 1, s => by
    unfold q_bits
    split
    · omega
    · have := q_bits_le f (s &&& (s - 1))
      omega
theorem q_bc_le (s : Nat) : q_bc s ≤ s := q_bits_le s s
theorem l_dr1 {G : qx_G} {σ : qx_S} {S : qS} {rf : Option qR} (g : gS S) (hL : iL S) (hS : qx_mi σ 207 = S) (hv : ∀ i, i < s_n S 2 → qx_mi σ 225 i = nI (q_sv S rf (s_n S (140 + i))) ∧ q_sv S rf (s_n S (140 + i)) < 256) : ∀ (m s : Nat) (b : Option Nat) (mo : Int32), m = 2 ^ s_n S 0 - s → s ≤ 2 ^ s_n S 0 → (∀ b', b = some b' → b' < 256) →
    qx_K G qc_T 6 RX12 YX12_doctors 60 [.ref 197, .int (-1), .int (-1), .int (q_oI b), .int mo, .int (nI s), .retAddr 0] [] σ (qr (q_oI (q_d1 (q_sf S rf) (s_n S 2) (2 ^ s_n S 0 - s) s b)) σ) := by
  have g8 := g.1.2
  have l8 := hL.2.1
  have h256 : 2 ^ s_n S 0 ≤ 256 := Nat.pow_le_pow_right (by decide) g8
  intro m
  induction m using Nat.strongRecOn with
  | _ m ih =>
    intro s b mo hm hs hb
    rcases Nat.lt_or_ge s (2 ^ s_n S 0) with hlt | hge
    · have e1 : 2 ^ s_n S 0 - s = (2 ^ s_n S 0 - (s + 1)) + 1 := by omega
      have hsf : q_sf S rf s ≤ s_n S 2 := q_so_le _ _ _
      have hbs := q_bc_le s
      rw [e1]
      have st : ∀ b2 mo2, q_d1 (q_sf S rf) (s_n S 2) (2 ^ s_n S 0 - (s + 1) + 1) s b = q_d1 (q_sf S rf) (s_n S 2) (2 ^ s_n S 0 - (s + 1)) (s + 1) b2 → (∀ b', b2 = some b' → b' < 256) → qx_K G qc_T 6 RX12 YX12_doctors 60 [.ref 197, .int (-1), .int (-1), .int (q_oI b2), .int mo2, .int (nI (s + 1)), .retAddr 0] [] σ (qr (q_oI (q_d1 (q_sf S rf) (s_n S 2) (2 ^ s_n S 0 - (s + 1) + 1) s b)) σ) := by
        intro b2 mo2 e2 h2
        rw [e2]
        exact ih _ (by omega) (s + 1) b2 mo2 rfl (by omega) h2
      cases b with
      | none =>
        have u1 : q_sf S rf s < s_n S 2 → q_d1 (q_sf S rf) (s_n S 2) (2 ^ s_n S 0 - (s + 1) + 1) s none = q_d1 (q_sf S rf) (s_n S 2) (2 ^ s_n S 0 - (s + 1)) (s + 1) none := fun z => by show q_d1 _ _ _ _ (if _ then _ else _) = _; rw [if_pos z]
        have u2 : ¬ q_sf S rf s < s_n S 2 → q_d1 (q_sf S rf) (s_n S 2) (2 ^ s_n S 0 - (s + 1) + 1) s none = q_d1 (q_sf S rf) (s_n S 2) (2 ^ s_n S 0 - (s + 1)) (s + 1) (some s) := fun z => by show q_d1 _ _ _ _ (if _ then _ else _) = _; rw [if_neg z]
        refine qy_wp_ok (c := CX12_doctors) (cuts := [60]) vX12_doctors wX12_doctors 2000 60 _ _ _ ?_
        refine Exists.intro (nI 1) (And.intro rfl ?_)
        refine And.intro rfl (Exists.intro 207 (And.intro rfl ?_))
        refine Exists.intro (nI 0) (And.intro rfl ?_)
        refine Exists.intro (0) (Exists.intro (nI (s_n S 0)) (And.intro rfl (And.intro ⟨2788, rfl, by decide, by decide⟩ (And.intro ((congrFun hS 0).trans g.1.1) ?_))))
        refine Exists.intro (nI (2 ^ (s_n S 0))) (And.intro (nI_sh1 (by omega)) ?_)
        refine And.intro (fun h70 => ?_) (fun h70 => ?_)
        · skip
          have h70 := nI_leT (a := 2 ^ (s_n S 0)) (b := s) (by omega) (by omega) h70
          exact absurd h70 (by omega)
        · skip
          have h70 := nI_leF (a := 2 ^ (s_n S 0)) (b := s) (by omega) (by omega) h70
          refine And.intro rfl (Exists.intro _ (And.intro (by decide) (qx_M_mono (m_servedOf (v := fun c => q_sv S rf (s_n S (140 + c))) ((congrFun hS 2).trans hL.1) hL.2.1 hv (by omega)) ?_)))
          rintro _ _ ⟨rfl, rfl⟩
          refine Exists.intro ((-1)) (And.intro (by decide) ?_)
          refine And.intro (fun h83 => ?_) (fun h83 => ?_)
          · skip
            exact absurd (by decide) h83
          · skip
            refine And.intro rfl (Exists.intro 207 (And.intro rfl ?_))
            refine Exists.intro (nI 2) (And.intro rfl ?_)
            refine Exists.intro (2) (Exists.intro (nI (s_n S 2)) (And.intro rfl (And.intro ⟨2788, rfl, by decide, by decide⟩ (And.intro ((congrFun hS 2).trans hL.1) ?_))))
            refine And.intro (fun h94 => ?_) (fun h94 => ?_)
            · skip
              have h94 := nI_ltT (a := q_sf S rf s) (b := s_n S 2) (by omega) (by omega) h94
              refine Exists.intro (nI (s + 1)) (And.intro (nI_add _ _) ?_)
              refine qx_K_le (ls := [.ref 197, .int (-1), .int (-1), .int (-1), .int mo, .int (nI (s + 1)), .retAddr 0]) ⟨Or.inr rfl, Or.inr rfl, Or.inr rfl, Or.inr rfl, Or.inr rfl, Or.inr rfl, Or.inl rfl, trivial⟩ ?_
              first | exact st none mo (u1 h94) (fun b' e => by cases e) | exact st (some s) _ (u2 (by omega)) (fun b' e => by cases e; omega)
            · skip
              have h94 := nI_ltF (a := q_sf S rf s) (b := s_n S 2) (by omega) (by omega) h94
              refine And.intro (fun h98 => ?_) (fun h98 => ?_)
              · skip
                refine Exists.intro (nI (s + 1)) (And.intro (nI_add _ _) ?_)
                refine qx_K_le (ls := [.ref 197, .int (-1), .int (-1), .int (nI s), .int (nI (q_sf S rf s)), .int (nI (s + 1)), .retAddr 0]) ⟨Or.inr rfl, Or.inr rfl, Or.inr rfl, Or.inr rfl, Or.inr rfl, Or.inr rfl, Or.inl rfl, trivial⟩ ?_
                first | exact st none mo (u1 h94) (fun b' e => by cases e) | exact st (some s) _ (u2 (by omega)) (fun b' e => by cases e; omega)
              · skip
                exact absurd (by decide) h98
      | some b0 =>
        have hb0 := hb b0 rfl
        have hbb := q_bc_le b0
        have u1 : (q_sf S rf s < s_n S 2 ∨ q_bc b0 ≤ q_bc s) → q_d1 (q_sf S rf) (s_n S 2) (2 ^ s_n S 0 - (s + 1) + 1) s (some b0) = q_d1 (q_sf S rf) (s_n S 2) (2 ^ s_n S 0 - (s + 1)) (s + 1) (some b0) := fun z => by show q_d1 _ _ _ _ (if _ then _ else _) = _; rw [if_pos z]
        have u2 : ¬ (q_sf S rf s < s_n S 2 ∨ q_bc b0 ≤ q_bc s) → q_d1 (q_sf S rf) (s_n S 2) (2 ^ s_n S 0 - (s + 1) + 1) s (some b0) = q_d1 (q_sf S rf) (s_n S 2) (2 ^ s_n S 0 - (s + 1)) (s + 1) (some s) := fun z => by show q_d1 _ _ _ _ (if _ then _ else _) = _; rw [if_neg z]
        refine qy_wp_ok (c := CX12_doctors) (cuts := [60]) vX12_doctors wX12_doctors 2000 60 _ _ _ ?_
        refine Exists.intro (nI 1) (And.intro rfl ?_)
        refine And.intro rfl (Exists.intro 207 (And.intro rfl ?_))
        refine Exists.intro (nI 0) (And.intro rfl ?_)
        refine Exists.intro (0) (Exists.intro (nI (s_n S 0)) (And.intro rfl (And.intro ⟨2788, rfl, by decide, by decide⟩ (And.intro ((congrFun hS 0).trans g.1.1) ?_))))
        refine Exists.intro (nI (2 ^ (s_n S 0))) (And.intro (nI_sh1 (by omega)) ?_)
        refine And.intro (fun h70 => ?_) (fun h70 => ?_)
        · skip
          have h70 := nI_leT (a := 2 ^ (s_n S 0)) (b := s) (by omega) (by omega) h70
          exact absurd h70 (by omega)
        · skip
          have h70 := nI_leF (a := 2 ^ (s_n S 0)) (b := s) (by omega) (by omega) h70
          refine And.intro rfl (Exists.intro _ (And.intro (by decide) (qx_M_mono (m_servedOf (v := fun c => q_sv S rf (s_n S (140 + c))) ((congrFun hS 2).trans hL.1) hL.2.1 hv (by omega)) ?_)))
          rintro _ _ ⟨rfl, rfl⟩
          refine Exists.intro ((-1)) (And.intro (by decide) ?_)
          refine And.intro (fun h83 => ?_) (fun h83 => ?_)
          · skip
            exact absurd (by decide) h83
          · skip
            refine And.intro rfl (Exists.intro 207 (And.intro rfl ?_))
            refine Exists.intro (nI 2) (And.intro rfl ?_)
            refine Exists.intro (2) (Exists.intro (nI (s_n S 2)) (And.intro rfl (And.intro ⟨2788, rfl, by decide, by decide⟩ (And.intro ((congrFun hS 2).trans hL.1) ?_))))
            refine And.intro (fun h94 => ?_) (fun h94 => ?_)
            · skip
              have h94 := nI_ltT (a := q_sf S rf s) (b := s_n S 2) (by omega) (by omega) h94
              refine Exists.intro (nI (s + 1)) (And.intro (nI_add _ _) ?_)
              refine qx_K_le (ls := [.ref 197, .int (-1), .int (-1), .int (nI b0), .int mo, .int (nI (s + 1)), .retAddr 0]) ⟨Or.inr rfl, Or.inr rfl, Or.inr rfl, Or.inr rfl, Or.inr rfl, Or.inr rfl, Or.inl rfl, trivial⟩ ?_
              first | exact st (some b0) mo (u1 (Or.inl h94)) hb | exact st (some b0) mo (u1 (Or.inr h110)) hb | exact st (some s) _ (u2 (by omega)) (fun b' e => by cases e; omega)
            · skip
              have h94 := nI_ltF (a := q_sf S rf s) (b := s_n S 2) (by omega) (by omega) h94
              refine And.intro (fun h98 => ?_) (fun h98 => ?_)
              · skip
                have h98 := nI_ltT (a := b0) (b := 0) (by omega) (by decide) h98
                exact absurd h98 (by omega)
              · skip
                have h98 := nI_ltF (a := b0) (b := 0) (by omega) (by decide) h98
                refine Exists.intro _ (And.intro (by decide) (qx_M_mono (m_bits (s := s) (by omega)) ?_))
                rintro _ _ ⟨rfl, rfl⟩
                refine Exists.intro _ (And.intro (by decide) (qx_M_mono (m_bits (s := b0) (by omega)) ?_))
                rintro _ _ ⟨rfl, rfl⟩
                refine And.intro (fun h110 => ?_) (fun h110 => ?_)
                · skip
                  have h110 := nI_ltT (a := q_bc s) (b := q_bc b0) (by omega) (by omega) h110
                  refine Exists.intro (nI (s + 1)) (And.intro (nI_add _ _) ?_)
                  refine qx_K_le (ls := [.ref 197, .int (-1), .int (-1), .int (nI s), .int (nI (q_sf S rf s)), .int (nI (s + 1)), .retAddr 0]) ⟨Or.inr rfl, Or.inr rfl, Or.inr rfl, Or.inr rfl, Or.inr rfl, Or.inr rfl, Or.inl rfl, trivial⟩ ?_
                  first | exact st (some b0) mo (u1 (Or.inl h94)) hb | exact st (some b0) mo (u1 (Or.inr h110)) hb | exact st (some s) _ (u2 (by omega)) (fun b' e => by cases e; omega)
                · skip
                  have h110 := nI_ltF (a := q_bc s) (b := q_bc b0) (by omega) (by omega) h110
                  refine Exists.intro (nI (s + 1)) (And.intro (nI_add _ _) ?_)
                  refine qx_K_le (ls := [.ref 197, .int (-1), .int (-1), .int (nI b0), .int mo, .int (nI (s + 1)), .retAddr 0]) ⟨Or.inr rfl, Or.inr rfl, Or.inr rfl, Or.inr rfl, Or.inr rfl, Or.inr rfl, Or.inl rfl, trivial⟩ ?_
                  first | exact st (some b0) mo (u1 (Or.inl h94)) hb | exact st (some b0) mo (u1 (Or.inr h110)) hb | exact st (some s) _ (u2 (by omega)) (fun b' e => by cases e; omega)
    · obtain rfl : s = 2 ^ s_n S 0 := by omega
      rw [Nat.sub_self]
      refine qy_wp_ok (c := CX12_doctors) (cuts := [60]) vX12_doctors wX12_doctors 2000 60 _ _ _ ?_
      refine Exists.intro (nI 1) (And.intro rfl ?_)
      refine And.intro rfl (Exists.intro 207 (And.intro rfl ?_))
      refine Exists.intro (nI 0) (And.intro rfl ?_)
      refine Exists.intro (0) (Exists.intro (nI (s_n S 0)) (And.intro rfl (And.intro ⟨2788, rfl, by decide, by decide⟩ (And.intro ((congrFun hS 0).trans g.1.1) ?_))))
      refine Exists.intro (nI (2 ^ (s_n S 0))) (And.intro (nI_sh1 (by omega)) ?_)
      refine And.intro (fun h70 => ?_) (fun h70 => ?_)
      · skip
        have h70 := nI_leT (a := 2 ^ (s_n S 0)) (b := 2 ^ s_n S 0) (by omega) (by omega) h70
        exact ⟨rfl, rfl⟩
      · skip
        have h70 := nI_leF (a := 2 ^ (s_n S 0)) (b := 2 ^ s_n S 0) (by omega) (by omega) h70
        exact absurd h70 (by omega)
theorem l_dr2 {G : qx_G} {σ : qx_S} {S : qS} {rf : Option qR} (g : gS S) (hL : iL S) (hS : qx_mi σ 207 = S) (hv : ∀ i, i < s_n S 2 → qx_mi σ 225 i = nI (q_sv S rf (s_n S (140 + i))) ∧ q_sv S rf (s_n S (140 + i)) < 256) {n just : Nat} (hn : n ≤ 8) (hj : just ≤ 8) : ∀ (m s : Nat) (b mo : Int32), m = 2 ^ s_n S 0 - s → s ≤ 2 ^ s_n S 0 →
    qx_K G qc_T 6 RX12 YX12_doctors 60 [.ref 197, .int (nI n), .int (nI just), .int b, .int mo, .int (nI s), .retAddr 0] [] σ (qr (q_d2 (q_sf S rf) just (2 ^ s_n S 0 - s) s (b, mo)).1 σ) := by
  have g8 := g.1.2
  have l8 := hL.2.1
  have h256 : 2 ^ s_n S 0 ≤ 256 := Nat.pow_le_pow_right (by decide) g8
  intro m
  induction m using Nat.strongRecOn with
  | _ m ih =>
    intro s b mo hm hs
    rcases Nat.lt_or_ge s (2 ^ s_n S 0) with hlt | hge
    · have e1 : 2 ^ s_n S 0 - s = (2 ^ s_n S 0 - (s + 1)) + 1 := by omega
      have hsf : q_sf S rf s ≤ s_n S 2 := q_so_le _ _ _
      have hbs := q_bc_le s
      rw [e1]
      have u1 : (q_bc s ≠ just ∨ nI (q_sf S rf s) ≤ mo) → q_d2 (q_sf S rf) just (2 ^ s_n S 0 - (s + 1) + 1) s (b, mo) = q_d2 (q_sf S rf) just (2 ^ s_n S 0 - (s + 1)) (s + 1) (b, mo) := fun z => by show q_d2 _ _ _ _ (if _ then _ else _) = _; rw [if_pos z]
      have u2 : ¬ (q_bc s ≠ just ∨ nI (q_sf S rf s) ≤ mo) → q_d2 (q_sf S rf) just (2 ^ s_n S 0 - (s + 1) + 1) s (b, mo) = q_d2 (q_sf S rf) just (2 ^ s_n S 0 - (s + 1)) (s + 1) (nI s, nI (q_sf S rf s)) := fun z => by show q_d2 _ _ _ _ (if _ then _ else _) = _; rw [if_neg z]
      refine qy_wp_ok (c := CX12_doctors) (cuts := [60]) vX12_doctors wX12_doctors 2000 60 _ _ _ ?_
      refine Exists.intro (nI 1) (And.intro rfl ?_)
      refine And.intro rfl (Exists.intro 207 (And.intro rfl ?_))
      refine Exists.intro (nI 0) (And.intro rfl ?_)
      refine Exists.intro (0) (Exists.intro (nI (s_n S 0)) (And.intro rfl (And.intro ⟨2788, rfl, by decide, by decide⟩ (And.intro ((congrFun hS 0).trans g.1.1) ?_))))
      refine Exists.intro (nI (2 ^ (s_n S 0))) (And.intro (nI_sh1 (by omega)) ?_)
      refine And.intro (fun h70 => ?_) (fun h70 => ?_)
      · skip
        have h70 := nI_leT (a := 2 ^ (s_n S 0)) (b := s) (by omega) (by omega) h70
        exact absurd h70 (by omega)
      · skip
        have h70 := nI_leF (a := 2 ^ (s_n S 0)) (b := s) (by omega) (by omega) h70
        refine And.intro rfl (Exists.intro _ (And.intro (by decide) (qx_M_mono (m_servedOf (v := fun c => q_sv S rf (s_n S (140 + c))) ((congrFun hS 2).trans hL.1) hL.2.1 hv (by omega)) ?_)))
        rintro _ _ ⟨rfl, rfl⟩
        refine Exists.intro ((-1)) (And.intro (by decide) ?_)
        refine And.intro (fun h83 => ?_) (fun h83 => ?_)
        · skip
          refine Exists.intro _ (And.intro (by decide) (qx_M_mono (m_bits (s := s) (by omega)) ?_))
          rintro _ _ ⟨rfl, rfl⟩
          refine And.intro (fun h122 => ?_) (fun h122 => ?_)
          · skip
            have h122 := nI_neT (a := q_bc s) (b := just) (by omega) (by omega) h122
            refine Exists.intro (nI (s + 1)) (And.intro (nI_add _ _) ?_)
            refine qx_K_le (ls := [.ref 197, .int (nI n), .int (nI just), .int b, .int mo, .int (nI (s + 1)), .retAddr 0]) ⟨Or.inr rfl, Or.inr rfl, Or.inr rfl, Or.inr rfl, Or.inr rfl, Or.inr rfl, Or.inl rfl, trivial⟩ ?_
            first | (rw [u1 (Or.inl h122)]; exact ih _ (by omega) (s + 1) b mo rfl (by omega)) | (rw [u2 (fun z => z.elim (fun y => y h122) (fun y => absurd y (Int32.not_le.mpr h129)))]; exact ih _ (by omega) (s + 1) _ _ rfl (by omega)) | (rw [u1 (Or.inr (Int32.not_lt.mp h129))]; exact ih _ (by omega) (s + 1) b mo rfl (by omega))
          · skip
            have h122 := nI_eqT (a := q_bc s) (b := just) (by omega) (by omega) h122
            refine And.intro (fun h129 => ?_) (fun h129 => ?_)
            · skip
              refine Exists.intro (nI (s + 1)) (And.intro (nI_add _ _) ?_)
              refine qx_K_le (ls := [.ref 197, .int (nI n), .int (nI just), .int (nI s), .int (nI (q_sf S rf s)), .int (nI (s + 1)), .retAddr 0]) ⟨Or.inr rfl, Or.inr rfl, Or.inr rfl, Or.inr rfl, Or.inr rfl, Or.inr rfl, Or.inl rfl, trivial⟩ ?_
              first | (rw [u1 (Or.inl h122)]; exact ih _ (by omega) (s + 1) b mo rfl (by omega)) | (rw [u2 (fun z => z.elim (fun y => y h122) (fun y => absurd y (Int32.not_le.mpr h129)))]; exact ih _ (by omega) (s + 1) _ _ rfl (by omega)) | (rw [u1 (Or.inr (Int32.not_lt.mp h129))]; exact ih _ (by omega) (s + 1) b mo rfl (by omega))
            · skip
              refine Exists.intro (nI (s + 1)) (And.intro (nI_add _ _) ?_)
              refine qx_K_le (ls := [.ref 197, .int (nI n), .int (nI just), .int b, .int mo, .int (nI (s + 1)), .retAddr 0]) ⟨Or.inr rfl, Or.inr rfl, Or.inr rfl, Or.inr rfl, Or.inr rfl, Or.inr rfl, Or.inl rfl, trivial⟩ ?_
              first | (rw [u1 (Or.inl h122)]; exact ih _ (by omega) (s + 1) b mo rfl (by omega)) | (rw [u2 (fun z => z.elim (fun y => y h122) (fun y => absurd y (Int32.not_le.mpr h129)))]; exact ih _ (by omega) (s + 1) _ _ rfl (by omega)) | (rw [u1 (Or.inr (Int32.not_lt.mp h129))]; exact ih _ (by omega) (s + 1) b mo rfl (by omega))
        · skip
          exact absurd h83 (nI_ne_m1 (by omega))
    · obtain rfl : s = 2 ^ s_n S 0 := by omega
      rw [Nat.sub_self]
      refine qy_wp_ok (c := CX12_doctors) (cuts := [60]) vX12_doctors wX12_doctors 2000 60 _ _ _ ?_
      refine Exists.intro (nI 1) (And.intro rfl ?_)
      refine And.intro rfl (Exists.intro 207 (And.intro rfl ?_))
      refine Exists.intro (nI 0) (And.intro rfl ?_)
      refine Exists.intro (0) (Exists.intro (nI (s_n S 0)) (And.intro rfl (And.intro ⟨2788, rfl, by decide, by decide⟩ (And.intro ((congrFun hS 0).trans g.1.1) ?_))))
      refine Exists.intro (nI (2 ^ (s_n S 0))) (And.intro (nI_sh1 (by omega)) ?_)
      refine And.intro (fun h70 => ?_) (fun h70 => ?_)
      · skip
        have h70 := nI_leT (a := 2 ^ (s_n S 0)) (b := 2 ^ s_n S 0) (by omega) (by omega) h70
        exact ⟨rfl, rfl⟩
      · skip
        have h70 := nI_leF (a := 2 ^ (s_n S 0)) (b := 2 ^ s_n S 0) (by omega) (by omega) h70
        exact absurd h70 (by omega)
theorem m_doctors_no {G : qx_G} {σ : qx_S} {S : qS} (hS : qx_mi σ 207 = S) {pl : Nat} (e0 : S 0 = nI pl) (h0 : pl ≤ 8) {x : Int32} (hb : (decide (0 < pl) && (decide (x = -1) || q_in64 x.toInt64 (lN 0) (lN 8))) = false) : qx_M G qc_T 6 YX12_doctors [.ref 197, .int x] σ (qr (-2) σ) := by
  refine qx_M_in rfl (Nat.le_of_ble_eq_true rfl) ?_
  refine qy_wp_ok (c := CX12_doctors) (cuts := [60]) vX12_doctors wX12_doctors 2000 0 _ _ _ ?_
  refine And.intro rfl (Exists.intro _ (And.intro (by decide) (qx_M_mono (m_isCountry hS e0 h0) ?_)))
  rintro _ _ ⟨rfl, rfl⟩
  refine And.intro (fun h4 => ?_) (fun h4 => ?_)
  · skip
    have h4 := bI_f h4
    refine Exists.intro ((-2)) (And.intro (by decide) ?_)
    exact ⟨rfl, rfl⟩
  · skip
    have h4 := bI_t h4
    refine Exists.intro ((-1)) (And.intro (by decide) ?_)
    refine And.intro (fun h9 => ?_) (fun h9 => ?_)
    · skip
      rw [h4, decide_eq_true h9] at hb; cases hb
    · skip
      refine Exists.intro x.toInt64 (And.intro rfl ?_)
      refine Exists.intro (lN 0) (And.intro rfl ?_)
      refine Exists.intro (lN 8) (And.intro (by decide) ?_)
      refine Exists.intro _ (And.intro (by decide) (qx_M_mono (m_in (v := x.toInt64) (l := (lN 0)) (h := (lN 8))) ?_))
      rintro _ _ ⟨rfl, rfl⟩
      refine And.intro (fun h21 => ?_) (fun h21 => ?_)
      · skip
        have h21 := bI_t h21
        rw [h4, h21, Bool.or_true] at hb; cases hb
      · skip
        have h21 := bI_f h21
        refine Exists.intro ((-2)) (And.intro (by decide) ?_)
        exact ⟨rfl, rfl⟩
theorem m_doctors_m1 {G : qx_G} {σ : qx_S} {S : qS} {rf : Option qR} (hX : mX σ S rf none) (g : gS S) (hL : iL S) (hc : 0 < s_n S 0) : qx_M G qc_T 6 YX12_doctors [.ref 197, .int (-1)] σ (fun r z => r = some (.int (q_oI (q_d1 (q_sf S rf) (s_n S 2) (2 ^ s_n S 0) 0 none))) ∧ ql lDo σ z) := by
  have hS := hX.1
  have g8 := g.1.2
  have hf : ql lDo σ σ := qf.rf
  refine qx_M_in rfl (Nat.le_of_ble_eq_true rfl) ?_
  refine qy_wp_ok (c := CX12_doctors) (cuts := [60]) vX12_doctors wX12_doctors 2000 0 _ _ _ ?_
  refine And.intro rfl (Exists.intro _ (And.intro (by decide) (qx_M_mono (m_isCountry hS g.1.1 g.1.2) ?_)))
  rintro _ _ ⟨rfl, rfl⟩
  refine And.intro (fun h4 => ?_) (fun h4 => ?_)
  · skip
    have h4 := bI_f h4
    exact absurd (h4.symm.trans (decide_eq_true hc)) (by decide)
  · skip
    have h4 := bI_t h4
    refine Exists.intro ((-1)) (And.intro (by decide) ?_)
    refine And.intro (fun h9 => ?_) (fun h9 => ?_)
    · skip
      refine And.intro rfl (Exists.intro _ (And.intro (by decide) (qx_M_mono (m_marksCalls hX g hL) ?_)))
      rintro _ σ1 ⟨rfl, fσ1, aσ1, bσ1⟩
      have hf_σ1 : ql lDo σ σ1 := hf.tr (fσ1.mn rfl)
      refine And.intro rfl (Exists.intro 207 (And.intro rfl ?_))
      refine Exists.intro (nI 0) (And.intro rfl ?_)
      refine Exists.intro (0) (Exists.intro (nI (s_n S 0)) (And.intro rfl (And.intro ⟨2788, rfl, by decide, by decide⟩ (And.intro ((congrFun aσ1.1 0).trans g.1.1) ?_))))
      refine And.intro (fun h38 => ?_) (fun h38 => ?_)
      · skip
        refine Exists.intro ((-1)) (And.intro (by decide) ?_)
        refine Exists.intro ((-1)) (And.intro (by decide) ?_)
        refine Exists.intro (nI 0) (And.intro rfl ?_)
        exact qx_K_mono (l_dr1 g hL aσ1.1 (fun i hi => ⟨bσ1 i hi, q_sv_lt (Nat.lt_of_lt_of_le (hL.2.2 i hi).2 g8) g8⟩) _ 0 none _ rfl (Nat.zero_le _) (fun b' e => by cases e)) (fun r z y => ⟨y.1, y.2 ▸ fσ1⟩)
      · skip
        exact absurd (Int32.le_trans (by decide) (nI_pos' (by omega))) h38
    · skip
      exact absurd (by decide) h9
theorem m_doctors_ok {G : qx_G} {σ : qx_S} {S : qS} {rf : Option qR} (hX : mX σ S rf none) (g : gS S) (hL : iL S) (hc : 0 < s_n S 0) {n : Nat} (hn : n ≤ 8) : qx_M G qc_T 6 YX12_doctors [.ref 197, .int (nI n)] σ (fun r z => r = some (.int (q_d2 (q_sf S rf) (if s_n S 0 < n then s_n S 0 else n) (2 ^ s_n S 0) 0 (-1, -1)).1) ∧ ql lDo σ z) := by
  have hS := hX.1
  have g8 := g.1.2
  have hf : ql lDo σ σ := qf.rf
  refine qx_M_in rfl (Nat.le_of_ble_eq_true rfl) ?_
  refine qy_wp_ok (c := CX12_doctors) (cuts := [60]) vX12_doctors wX12_doctors 2000 0 _ _ _ ?_
  refine And.intro rfl (Exists.intro _ (And.intro (by decide) (qx_M_mono (m_isCountry hS g.1.1 g.1.2) ?_)))
  rintro _ _ ⟨rfl, rfl⟩
  refine And.intro (fun h4 => ?_) (fun h4 => ?_)
  · skip
    have h4 := bI_f h4
    exact absurd (h4.symm.trans (decide_eq_true hc)) (by decide)
  · skip
    have h4 := bI_t h4
    refine Exists.intro ((-1)) (And.intro (by decide) ?_)
    refine And.intro (fun h9 => ?_) (fun h9 => ?_)
    · skip
      exact absurd h9 (nI_ne_m1 (by omega))
    · skip
      refine Exists.intro ((nI n).toInt64) (And.intro rfl ?_)
      refine Exists.intro (lN 0) (And.intro rfl ?_)
      refine Exists.intro (lN 8) (And.intro (by decide) ?_)
      refine Exists.intro _ (And.intro (by decide) (qx_M_mono (m_in (v := ((nI n).toInt64)) (l := (lN 0)) (h := (lN 8))) ?_))
      rintro _ _ ⟨rfl, rfl⟩
      refine And.intro (fun h21 => ?_) (fun h21 => ?_)
      · skip
        have h21 := bI_t h21
        refine And.intro rfl (Exists.intro _ (And.intro (by decide) (qx_M_mono (m_marksCalls hX g hL) ?_)))
        rintro _ σ1 ⟨rfl, fσ1, aσ1, bσ1⟩
        have hf_σ1 : ql lDo σ σ1 := hf.tr (fσ1.mn rfl)
        refine And.intro rfl (Exists.intro 207 (And.intro rfl ?_))
        refine Exists.intro (nI 0) (And.intro rfl ?_)
        refine Exists.intro (0) (Exists.intro (nI (s_n S 0)) (And.intro rfl (And.intro ⟨2788, rfl, by decide, by decide⟩ (And.intro ((congrFun aσ1.1 0).trans g.1.1) ?_))))
        refine And.intro (fun h38 => ?_) (fun h38 => ?_)
        · skip
          have h38 := nI_leT (a := n) (b := s_n S 0) (by omega) (by omega) h38
          refine Exists.intro ((-1)) (And.intro (by decide) ?_)
          refine Exists.intro ((-1)) (And.intro (by decide) ?_)
          refine Exists.intro (nI 0) (And.intro rfl ?_)
          first | exact qx_K_mono (l_dr2 g hL aσ1.1 (fun i hi => ⟨bσ1 i hi, q_sv_lt (Nat.lt_of_lt_of_le (hL.2.2 i hi).2 g8) g8⟩) hn hn _ 0 _ _ rfl (Nat.zero_le _)) (fun r z y => ⟨by rw [if_neg (Nat.not_lt.mpr h38)]; exact y.1, y.2 ▸ fσ1⟩) | exact qx_K_mono (l_dr2 g hL aσ1.1 (fun i hi => ⟨bσ1 i hi, q_sv_lt (Nat.lt_of_lt_of_le (hL.2.2 i hi).2 g8) g8⟩) hn g8 _ 0 _ _ rfl (Nat.zero_le _)) (fun r z y => ⟨by rw [if_pos h38]; exact y.1, y.2 ▸ fσ1⟩)
        · skip
          have h38 := nI_leF (a := n) (b := s_n S 0) (by omega) (by omega) h38
          refine And.intro rfl (Exists.intro 207 (And.intro rfl ?_))
          refine Exists.intro (nI 0) (And.intro rfl ?_)
          refine Exists.intro (0) (Exists.intro (nI (s_n S 0)) (And.intro rfl (And.intro ⟨2788, rfl, by decide, by decide⟩ (And.intro ((congrFun aσ1.1 0).trans g.1.1) ?_))))
          refine Exists.intro ((-1)) (And.intro (by decide) ?_)
          refine Exists.intro ((-1)) (And.intro (by decide) ?_)
          refine Exists.intro (nI 0) (And.intro rfl ?_)
          first | exact qx_K_mono (l_dr2 g hL aσ1.1 (fun i hi => ⟨bσ1 i hi, q_sv_lt (Nat.lt_of_lt_of_le (hL.2.2 i hi).2 g8) g8⟩) hn hn _ 0 _ _ rfl (Nat.zero_le _)) (fun r z y => ⟨by rw [if_neg (Nat.not_lt.mpr h38)]; exact y.1, y.2 ▸ fσ1⟩) | exact qx_K_mono (l_dr2 g hL aσ1.1 (fun i hi => ⟨bσ1 i hi, q_sv_lt (Nat.lt_of_lt_of_le (hL.2.2 i hi).2 g8) g8⟩) hn g8 _ 0 _ _ rfl (Nat.zero_le _)) (fun r z y => ⟨by rw [if_pos h38]; exact y.1, y.2 ▸ fσ1⟩)
      · skip
        have h21 := bI_f h21
        exact absurd (h21.symm.trans (q_in_ok (by omega) (by omega) (by decide))) (by decide)

