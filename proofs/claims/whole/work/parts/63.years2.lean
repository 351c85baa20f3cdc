/-! THE REFERENCE: YEARS -/
abbrev lY : List (Nat × Option Nat) := [(205, none), (206, none), (197, some 18), (208, none), (197, some 24), (207, none), (226, none), (197, some 50)]
theorem mX.sR {σ σ' : qx_S} {S S' : qS} {rf : Option qR} (h : mX σ S rf none) (hf : ql [(207, none)] σ σ') (hS : qx_mi σ' 207 = S') (s : sR S S') : mX σ' S' rf none := h.at hf hS (s 1 (by omega)) (s 7 (by omega))
def q_gl (S : qS) (rf : Option qR) : Nat → Nat
  | 0 => 0
  | p + 1 => q_gl S rf p + (if q_aw S rf none p (s_at S p) = true then 0 else 1)
/-- years: x, rings, coal, glad -/
abbrev q_Z : Type := Nat × Nat × Int32 × Nat
def q_ys (rf : Option qR) (n : Nat) (S : qS) : Nat → q_Z → q_Z
  | 0, z => z
  | m + 1, z => q_ys rf n S m ((q_yn rf n (S, z.1, z.2.1, z.2.2.1)).2.1, (q_yn rf n (S, z.1, z.2.1, z.2.2.1)).2.2.1, (q_yn rf n (S, z.1, z.2.1, z.2.2.1)).2.2.2, z.2.2.2 + q_gl (q_yn rf n (S, z.1, z.2.1, z.2.2.1)).1 rf (s_n S 1))
theorem q_gl_le (S : qS) (rf : Option qR) : ∀ n, q_gl S rf n ≤ n
  | 0 => Nat.le_refl _
  | n + 1 => by
    have := q_gl_le S rf n
    show _ + (if _ then _ else _) ≤ _
    split <;> omega
theorem l_yk {G : qx_G} {σ0 : qx_S} {S : qS} {m n w : Nat} {Φ : qx_F} : ∀ (d k : Nat) (σ : qx_S), d = 348 - k → k ≤ 348 → ql lY σ0 σ → qx_mi σ 207 = S → (∀ i, i < k → qx_mi σ 226 i = S i) →
    (∀ s, ql lY σ0 s → ql [(226, none)] σ s → (∀ i, i < 348 → qx_mi s 226 i = S i) → qx_K G qc_T 7 RX12 YX12_years 99 [.ref 197, .int (nI m), .int (nI n), .int (nI w), .int (nI 0), .int (nI 0), .int (nI 0), .retAddr 0, .retAddr 0, .retAddr 0, .retAddr 0] [] s Φ) →
    qx_K G qc_T 7 RX12 YX12_years 71 [.ref 197, .int (nI m), .int (nI n), .int (nI w), .int (nI 0), .int (nI 0), .int (nI 0), .int (nI k), .retAddr 0, .retAddr 0, .retAddr 0] [] σ Φ := by
  intro d
  induction d using Nat.strongRecOn with
  | _ d ih =>
    intro k σ hm hk hf hS hj hcont
    rcases Nat.lt_or_ge k 348 with hlt | hge
    · skip
      refine qy_wp_ok (c := CX12_years) (cuts := [71, 99]) vX12_years wX12_years 2000 71 _ _ _ ?_
      refine Exists.intro (nI 348) (And.intro rfl ?_)
      refine And.intro (fun h76 => ?_) (fun h76 => ?_)
      · skip
        have h76 := nI_leT (a := 348) (b := k) (by decide) (by omega) h76
        exact absurd h76 (by omega)
      · skip
        have h76 := nI_leF (a := 348) (b := k) (by decide) (by omega) h76
        refine And.intro rfl (Exists.intro 226 (And.intro rfl ?_))
        refine And.intro rfl (Exists.intro 207 (And.intro rfl ?_))
        refine Exists.intro (k) (Exists.intro (S k) (And.intro rfl (And.intro ⟨2788, rfl, by omega, by decide⟩ (And.intro (congrFun hS k) ?_))))
        obtain ⟨σ1, eσ1⟩ : ∃ zs, zs = (qx_wi σ 226 k (S k)) := ⟨_, rfl⟩
        have fσ1 := qn_wi eσ1
        refine Exists.intro (k) (Exists.intro σ1 (And.intro rfl (And.intro ⟨348, rfl, by omega, by decide⟩ (And.intro eσ1.symm ?_))))
        have hS_σ1 : qx_mi σ1 207 = S := (fσ1.row 207 (fun _ => rfl)).trans hS
        have hf_σ1 : ql lY σ0 σ1 := hf.tr (fσ1.mn rfl)
        refine Exists.intro (nI (k + 1)) (And.intro (nI_add _ _) ?_)
        refine ih _ (by omega) (k + 1) _ rfl (by omega) hf_σ1 hS_σ1 (fun j h => ?_) (fun s y1 y2 y3 => hcont s y1 (fσ1.tr y2) y3)
        rcases Nat.lt_or_ge j k with z | z
        · exact (qn_ne eσ1 (Or.inr (by omega))).trans (hj j z)
        · obtain rfl : j = k := by omega
          exact qn_eq eσ1
    · obtain rfl : k = 348 := by omega
      refine qy_wp_ok (c := CX12_years) (cuts := [71, 99]) vX12_years wX12_years 2000 71 _ _ _ ?_
      refine Exists.intro (nI 348) (And.intro rfl ?_)
      refine And.intro (fun h76 => ?_) (fun h76 => ?_)
      · skip
        refine qx_K_le (ls := [.ref 197, .int (nI m), .int (nI n), .int (nI w), .int (nI 0), .int (nI 0), .int (nI 0), .retAddr 0, .retAddr 0, .retAddr 0, .retAddr 0]) ⟨Or.inr rfl, Or.inr rfl, Or.inr rfl, Or.inr rfl, Or.inr rfl, Or.inr rfl, Or.inr rfl, Or.inl rfl, Or.inr rfl, Or.inr rfl, Or.inr rfl, trivial⟩ ?_
        exact hcont _ hf qf.rf hj
      · skip
        exact absurd (by decide) h76
theorem l_yr {G : qx_G} {σ0 : qx_S} {S : qS} {m n w r c y : Nat} {co : Int32} {Φ : qx_F} {T : qS} (hT : ∀ i, 348 ≤ i → T i = S i) : ∀ (d k : Nat) (σ : qx_S), d = 348 - k → k ≤ 348 → ql lY σ0 σ → (qx_mi σ 207 = fun i => if i < k then S i else T i) → (∀ i, i < 348 → qx_mi σ 226 i = S i) →
    (∀ s, ql lY σ0 s → ql [(207, none)] σ s → qx_mi s 207 = S → (∀ i, i < 348 → qx_mi s 226 i = S i) → qx_K G qc_T 7 RX12 YX12_years 250 [.ref 197, .int (nI m), .int (nI n), .int (nI w), .int (nI r), .int co, .int (nI c), .int (nI y), .retAddr 0, .retAddr 0, .retAddr 0] [] s Φ) →
    qx_K G qc_T 7 RX12 YX12_years 222 [.ref 197, .int (nI m), .int (nI n), .int (nI w), .int (nI r), .int co, .int (nI c), .int (nI y), .int (nI k), .retAddr 0, .retAddr 0] [] σ Φ := by
  intro d
  induction d using Nat.strongRecOn with
  | _ d ih =>
    intro k σ hm hk hf hS hj hcont
    rcases Nat.lt_or_ge k 348 with hlt | hge
    · skip
      refine qy_wp_ok (c := CX12_years) (cuts := [222, 250]) vX12_years wX12_years 2000 222 _ _ _ ?_
      refine Exists.intro (nI 348) (And.intro rfl ?_)
      refine And.intro (fun h227 => ?_) (fun h227 => ?_)
      · skip
        have h227 := nI_leT (a := 348) (b := k) (by decide) (by omega) h227
        exact absurd h227 (by omega)
      · skip
        have h227 := nI_leF (a := 348) (b := k) (by decide) (by omega) h227
        refine And.intro rfl (Exists.intro 207 (And.intro rfl ?_))
        refine And.intro rfl (Exists.intro 226 (And.intro rfl ?_))
        refine Exists.intro (k) (Exists.intro (S k) (And.intro rfl (And.intro ⟨348, rfl, by omega, by decide⟩ (And.intro (hj k hlt) ?_))))
        obtain ⟨σ1, eσ1⟩ : ∃ zs, zs = (qx_wi σ 207 k (S k)) := ⟨_, rfl⟩
        have fσ1 := qn_wi eσ1
        refine Exists.intro (k) (Exists.intro σ1 (And.intro rfl (And.intro ⟨2788, rfl, by omega, by decide⟩ (And.intro eσ1.symm ?_))))
        have hf_σ1 : ql lY σ0 σ1 := hf.tr (fσ1.mn rfl)
        refine Exists.intro (nI (k + 1)) (And.intro (nI_add _ _) ?_)
        refine ih _ (by omega) (k + 1) _ rfl (by omega) hf_σ1 ((qn_rowS eσ1 hS).trans ?_) (fun j h => (fσ1.i _ _ rfl).trans (hj j h)) (fun s y1 y2 y3 y4 => hcont s y1 (fσ1.tr y2) y3 y4)
        refine up_ext (if_pos (by omega)) (fun j hj' => ?_)
        show (if j < k + 1 then S j else T j) = if j < k then S j else T j
        by_cases z : j < k
        · rw [if_pos z, if_pos (by omega)]
        · rw [if_neg z, if_neg (by omega)]
    · obtain rfl : k = 348 := by omega
      have hS2 : qx_mi σ 207 = S := by
        rw [hS]
        funext i
        by_cases z : i < 348
        · exact if_pos z
        · exact (if_neg z).trans (hT i (by omega))
      refine qy_wp_ok (c := CX12_years) (cuts := [222, 250]) vX12_years wX12_years 2000 222 _ _ _ ?_
      refine Exists.intro (nI 348) (And.intro rfl ?_)
      refine And.intro (fun h227 => ?_) (fun h227 => ?_)
      · skip
        refine qx_K_le (ls := [.ref 197, .int (nI m), .int (nI n), .int (nI w), .int (nI r), .int co, .int (nI c), .int (nI y), .retAddr 0, .retAddr 0, .retAddr 0]) ⟨Or.inr rfl, Or.inr rfl, Or.inr rfl, Or.inr rfl, Or.inr rfl, Or.inr rfl, Or.inr rfl, Or.inr rfl, Or.inl rfl, Or.inr rfl, Or.inr rfl, trivial⟩ ?_
        exact hcont _ hf qf.rf hS2 hj
      · skip
        exact absurd (by decide) h227
theorem l_yg {G : qx_G} {σ0 : qx_S} {S : qS} {rf : Option qR} (g : gS S) {m n w r y gl : Nat} {co : Int32} {Φ : qx_F} : ∀ (d p : Nat) (σ : qx_S), d = s_n S 1 - p → p ≤ s_n S 1 → ql lE σ0 σ → mX σ S rf none →
    (∀ s, ql lE σ0 s → mX s S rf none → qx_K G qc_T 7 RX12 YX12_years 219 [.ref 197, .int (nI m), .int (nI n), .int (nI w), .int (nI r), .int co, .int (nI (gl + q_gl S rf (s_n S 1))), .int (nI y), .retAddr 0, .retAddr 0, .retAddr 0] [] s Φ) →
    qx_K G qc_T 7 RX12 YX12_years 183 [.ref 197, .int (nI m), .int (nI n), .int (nI w), .int (nI r), .int co, .int (nI (gl + q_gl S rf p)), .int (nI y), .int (nI p), .retAddr 0, .retAddr 0] [] σ Φ := by
  have h10 := g.2.1.2
  intro d
  induction d using Nat.strongRecOn with
  | _ d ih =>
    intro p σ hm hp hf hX hcont
    rcases Nat.lt_or_ge p (s_n S 1) with hlt | hge
    · have u1 : q_aw S rf none p (s_at S p) = true → gl + q_gl S rf (p + 1) = gl + q_gl S rf p + 0 := fun z => by show gl + (_ + (if _ then _ else _)) = _; rw [if_pos z]; rfl
      have u2 : q_aw S rf none p (s_at S p) = false → gl + q_gl S rf (p + 1) = gl + q_gl S rf p + 1 := fun z => by show gl + (_ + (if _ then _ else _)) = _; rw [if_neg (by rw [z]; decide)]; rfl
      refine qy_wp_ok (c := CX12_years) (cuts := [183, 219]) vX12_years wX12_years 2000 183 _ _ _ ?_
      refine And.intro rfl (Exists.intro 207 (And.intro rfl ?_))
      refine Exists.intro (nI 1) (And.intro rfl ?_)
      refine Exists.intro (1) (Exists.intro (nI (s_n S 1)) (And.intro rfl (And.intro ⟨2788, rfl, by decide, by decide⟩ (And.intro ((congrFun hX.1 1).trans g.2.1.1) ?_))))
      refine And.intro (fun h191 => ?_) (fun h191 => ?_)
      · skip
        have h191 := nI_leT (a := s_n S 1) (b := p) (by omega) (by omega) h191
        exact absurd h191 (by omega)
      · skip
        have h191 := nI_leF (a := s_n S 1) (b := p) (by omega) (by omega) h191
        refine And.intro rfl (Exists.intro _ (And.intro (by decide) (qx_M_mono (m_wishesAway (p := p) hX g (by omega)) ?_)))
        rintro _ σ1 ⟨rfl, fσ1⟩
        have hf_σ1 : ql lE σ0 σ1 := hf.tr fσ1
        have hX_σ1 : mX σ1 S rf none := hX.fr fσ1 rfl
        refine And.intro (fun h202 => ?_) (fun h202 => ?_)
        · skip
          have h202 := bI_f h202
          refine Exists.intro (nI 1) (And.intro rfl ?_)
          refine Exists.intro (nI (gl + q_gl S rf p + 1)) (And.intro (nI_add _ _) ?_)
          refine Exists.intro (nI (p + 1)) (And.intro (nI_add _ _) ?_)
          first | (rw [← u1 h202]; exact ih _ (by omega) (p + 1) _ rfl (by omega) hf_σ1 hX_σ1 hcont) | (rw [← u2 h202]; exact ih _ (by omega) (p + 1) _ rfl (by omega) hf_σ1 hX_σ1 hcont)
        · skip
          have h202 := bI_t h202
          refine Exists.intro (nI 0) (And.intro rfl ?_)
          refine Exists.intro (nI (gl + q_gl S rf p + 0)) (And.intro (nI_add _ _) ?_)
          refine Exists.intro (nI (p + 1)) (And.intro (nI_add _ _) ?_)
          first | (rw [← u1 h202]; exact ih _ (by omega) (p + 1) _ rfl (by omega) hf_σ1 hX_σ1 hcont) | (rw [← u2 h202]; exact ih _ (by omega) (p + 1) _ rfl (by omega) hf_σ1 hX_σ1 hcont)
    · obtain rfl : p = s_n S 1 := by omega
      refine qy_wp_ok (c := CX12_years) (cuts := [183, 219]) vX12_years wX12_years 2000 183 _ _ _ ?_
      refine And.intro rfl (Exists.intro 207 (And.intro rfl ?_))
      refine Exists.intro (nI 1) (And.intro rfl ?_)
      refine Exists.intro (1) (Exists.intro (nI (s_n S 1)) (And.intro rfl (And.intro ⟨2788, rfl, by decide, by decide⟩ (And.intro ((congrFun hX.1 1).trans g.2.1.1) ?_))))
      refine And.intro (fun h191 => ?_) (fun h191 => ?_)
      · skip
        have h191 := nI_leT (a := s_n S 1) (b := s_n S 1) (by omega) (by omega) h191
        refine qx_K_le (ls := [.ref 197, .int (nI m), .int (nI n), .int (nI w), .int (nI r), .int co, .int (nI (gl + q_gl S rf (s_n S 1))), .int (nI y), .retAddr 0, .retAddr 0, .retAddr 0]) ⟨Or.inr rfl, Or.inr rfl, Or.inr rfl, Or.inr rfl, Or.inr rfl, Or.inr rfl, Or.inr rfl, Or.inr rfl, Or.inl rfl, Or.inr rfl, Or.inr rfl, trivial⟩ ?_
        exact hcont _ hf hX
      · skip
        have h191 := nI_leF (a := s_n S 1) (b := s_n S 1) (by omega) (by omega) h191
        exact absurd h191 (by omega)
theorem q_yn_s (rf : Option qR) (n : Nat) (y : q_Y) : q_yn rf (n + 1) y = q_yn rf n (q_y1 rf y) := q_iter_s (q_y1 rf) n y
theorem q_dw_lt (x : Nat) {pe : Nat} (h : 0 < pe) : q_dw x pe < pe := Nat.mod_lt _ h
theorem q_y1_no {rf : Option qR} {S : qS} {x r : Nat} {co : Int32} (h : q_dw (q_dx x) (s_n S 1) = q_dw (q_dx (q_dx x)) (s_n S 1) ∨ q_can S rf (q_dw (q_dx x) (s_n S 1)) (q_dw (q_dx (q_dx x)) (s_n S 1)) = false) : q_y1 rf (S, x, r, co) = (S, q_dx (q_dx x), r, co) := if_pos h
theorem q_y1_yes {rf : Option qR} {S : qS} {x r : Nat} {co : Int32} (h : ¬ (q_dw (q_dx x) (s_n S 1) = q_dw (q_dx (q_dx x)) (s_n S 1) ∨ q_can S rf (q_dw (q_dx x) (s_n S 1)) (q_dw (q_dx (q_dx x)) (s_n S 1)) = false)) : q_y1 rf (S, x, r, co) = (q_dn (q_dw (q_dx x) (s_n S 1)) (q_dw (q_dx (q_dx x)) (s_n S 1)) S, q_dx (q_dx x), r + 1, co + (q_chc (q_two (q_dw (q_dx x) (s_n S 1)) (q_dw (q_dx (q_dx x)) (s_n S 1))) 2 2 0 S 0).2) := if_neg h
theorem l_yn {G : qx_G} {σ0 : qx_S} {S0 : qS} {rf : Option qR} {m n w gl y : Nat} (hn : n ≤ 200) {Φ : qx_F} : ∀ (d k : Nat) (σ : qx_S) (S : qS) (x r : Nat) (co : Int32), d = n - k → k ≤ n → 0 < s_n S 1 → x < 2147483648 → r < 100000 + k → ql lY σ0 σ → mX σ S rf none → gS S → sR S0 S → qx_ml σ 197 50 = lN x → (∀ i, i < 348 → qx_mi σ 226 i = S0 i) →
    (∀ s, ql lY σ0 s → mX s (q_yn rf (n - k) (S, x, r, co)).1 rf none → gS (q_yn rf (n - k) (S, x, r, co)).1 → sR S0 (q_yn rf (n - k) (S, x, r, co)).1 → qx_ml s 197 50 = lN (q_yn rf (n - k) (S, x, r, co)).2.1 → (q_yn rf (n - k) (S, x, r, co)).2.1 < 2147483648 → (∀ i, i < 348 → qx_mi s 226 i = S0 i) → qx_K G qc_T 7 RX12 YX12_years 180 [.ref 197, .int (nI m), .int (nI n), .int (nI w), .int (nI (q_yn rf (n - k) (S, x, r, co)).2.2.1), .int (q_yn rf (n - k) (S, x, r, co)).2.2.2, .int (nI gl), .int (nI y), .retAddr 0, .retAddr 0, .retAddr 0] [] s Φ) →
    qx_K G qc_T 7 RX12 YX12_years 111 [.ref 197, .int (nI m), .int (nI n), .int (nI w), .int (nI r), .int co, .int (nI gl), .int (nI y), .int (nI k), .retAddr 0, .retAddr 0] [] σ Φ := by
  intro d
  induction d using Nat.strongRecOn with
  | _ d ih =>
    intro k σ S x r co hm hk hpe hx hrb hf hX g hs0 ex hj hcont
    have h10 := g.2.1.2
    rcases Nat.lt_or_ge k n with hlt | hge
    · have e1 : n - k = (n - (k + 1)) + 1 := by omega
      rw [e1] at hcont
      rw [q_yn_s] at hcont
      have hx1 := q_dx_lt x
      have hx2 := q_dx_lt (q_dx x)
      have ha : q_dw (q_dx x) (s_n S 1) < s_n S 1 := q_dw_lt _ hpe
      have hb : q_dw (q_dx (q_dx x)) (s_n S 1) < s_n S 1 := q_dw_lt _ hpe
      have no : (q_dw (q_dx x) (s_n S 1) = q_dw (q_dx (q_dx x)) (s_n S 1) ∨ q_can S rf (q_dw (q_dx x) (s_n S 1)) (q_dw (q_dx (q_dx x)) (s_n S 1)) = false) → ∀ s, ql lY σ0 s → mX s S rf none → qx_ml s 197 50 = lN (q_dx (q_dx x)) → (∀ i, i < 348 → qx_mi s 226 i = S0 i) → qx_K G qc_T 7 RX12 YX12_years 111 [.ref 197, .int (nI m), .int (nI n), .int (nI w), .int (nI r), .int co, .int (nI gl), .int (nI y), .int (nI (k + 1)), .retAddr 0, .retAddr 0] [] s Φ := by
        intro z s y1 y2 y3 y4
        rw [q_y1_no z] at hcont
        exact ih _ (by omega) (k + 1) s S _ r co rfl (by omega) hpe hx2 (by omega) y1 y2 g hs0 y3 y4 hcont
      refine qy_wp_ok (c := CX12_years) (cuts := [111, 180]) vX12_years wX12_years 2000 111 _ _ _ ?_
      refine And.intro (fun h114 => ?_) (fun h114 => ?_)
      · skip
        have h114 := nI_leT (a := n) (b := k) (by omega) (by omega) h114
        exact absurd h114 (by omega)
      · skip
        have h114 := nI_leF (a := n) (b := k) (by omega) (by omega) h114
        refine And.intro rfl (Exists.intro 207 (And.intro rfl ?_))
        refine Exists.intro (nI 1) (And.intro rfl ?_)
        refine Exists.intro (1) (Exists.intro (nI (s_n S 1)) (And.intro rfl (And.intro ⟨2788, rfl, by decide, by decide⟩ (And.intro ((congrFun hX.1 1).trans g.2.1.1) ?_))))
        refine And.intro rfl (Exists.intro _ (And.intro (by decide) (qx_M_mono (m_draw hx ex hpe h10) ?_)))
        rintro _ σ1 ⟨rfl, fσ1, aσ1⟩
        have hf_σ1 : ql lY σ0 σ1 := hf.tr (fσ1.mn rfl)
        have hX_σ1 : mX σ1 S rf none := hX.fr fσ1 rfl
        have hj_σ1 : ∀ i, i < 348 → qx_mi σ1 226 i = S0 i := (fun i hi => (fσ1.i _ _ rfl).trans (hj i hi))
        refine And.intro rfl (Exists.intro 207 (And.intro rfl ?_))
        refine Exists.intro (nI 1) (And.intro rfl ?_)
        refine Exists.intro (1) (Exists.intro (nI (s_n S 1)) (And.intro rfl (And.intro ⟨2788, rfl, by decide, by decide⟩ (And.intro ((congrFun hX_σ1.1 1).trans g.2.1.1) ?_))))
        refine And.intro rfl (Exists.intro _ (And.intro (by decide) (qx_M_mono (m_draw hx1 aσ1 hpe h10) ?_)))
        rintro _ σ2 ⟨rfl, fσ2, aσ2⟩
        have hf_σ2 : ql lY σ0 σ2 := hf_σ1.tr (fσ2.mn rfl)
        have hX_σ2 : mX σ2 S rf none := hX_σ1.fr fσ2 rfl
        have hj_σ2 : ∀ i, i < 348 → qx_mi σ2 226 i = S0 i := (fun i hi => (fσ2.i _ _ rfl).trans (hj_σ1 i hi))
        refine And.intro (fun h145 => ?_) (fun h145 => ?_)
        · skip
          have h145 := nI_eqT (a := q_dw (q_dx x) (s_n S 1)) (b := q_dw (q_dx (q_dx x)) (s_n S 1)) (by omega) (by omega) h145
          refine Exists.intro (nI (k + 1)) (And.intro (nI_add _ _) ?_)
          refine qx_K_le (ls := [.ref 197, .int (nI m), .int (nI n), .int (nI w), .int (nI r), .int co, .int (nI gl), .int (nI y), .int (nI (k + 1)), .retAddr 0, .retAddr 0]) ⟨Or.inr rfl, Or.inr rfl, Or.inr rfl, Or.inr rfl, Or.inr rfl, Or.inr rfl, Or.inr rfl, Or.inr rfl, Or.inr rfl, Or.inl rfl, Or.inl rfl, trivial⟩ ?_
          first | exact no (Or.inl h145) _ hf_σ2 hX_σ2 aσ2 hj_σ2 | exact no (Or.inr h156) _ hf_σ2 hX_σ2 ((fσ3.l _ _ rfl).trans aσ2) hj_σ2 | (rw [q_y1_yes (fun z => z.elim h145 (fun y => absurd (y.symm.trans h156) (by decide)))] at hcont; have dn := q_dn_ok g ha hb; have n1 : s_n (q_dn (q_dw (q_dx x) (s_n S 1)) (q_dw (q_dx (q_dx x)) (s_n S 1)) S) 1 = s_n S 1 := congrArg Int32.toNatClampNeg (dn.1 1 (by omega)); exact ih _ (by omega) (k + 1) _ (q_dn (q_dw (q_dx x) (s_n S 1)) (q_dw (q_dx (q_dx x)) (s_n S 1)) S) _ _ _ rfl (by omega) (Nat.lt_of_lt_of_eq hpe n1.symm) hx2 (by omega) hf_σ2 (mX.sR (((hX.fr fσ1 rfl).fr fσ2 rfl).fr fσ3 rfl) fσ4 gσ4 dn.1) dn.2 (hs0.tr dn.1) ((fσ4.l _ _ rfl).trans ((fσ3.l _ _ rfl).trans aσ2)) hj_σ2 hcont)
        · skip
          have h145 := nI_neT (a := q_dw (q_dx x) (s_n S 1)) (b := q_dw (q_dx (q_dx x)) (s_n S 1)) (by omega) (by omega) h145
          refine And.intro rfl (Exists.intro _ (And.intro (by decide) (qx_M_mono (m_canChange hX_σ2 g ha hb) ?_)))
          rintro _ σ3 ⟨rfl, fσ3, gσ3⟩
          have hf_σ3 : ql lY σ0 σ3 := hf_σ2.tr (fσ3.mn rfl)
          have hX_σ3 : mX σ3 S rf none := hX_σ2.fr fσ3 rfl
          have hj_σ3 : ∀ i, i < 348 → qx_mi σ3 226 i = S0 i := (fun i hi => (fσ3.i _ _ rfl).trans (hj_σ2 i hi))
          refine And.intro (fun h156 => ?_) (fun h156 => ?_)
          · skip
            have h156 := bI_t h156
            refine And.intro rfl (Exists.intro _ (And.intro (by decide) (qx_M_mono (m_changes (rg := q_two (q_dw (q_dx x) (s_n S 1)) (q_dw (q_dx (q_dx x)) (s_n S 1))) hX_σ3.1 (by decide) (by decide) (fun k _ => q_two_lt (by omega) (by omega) k) gσ3) ?_)))
            rintro _ σ4 ⟨rfl, fσ4, gσ4⟩
            have hf_σ4 : ql lY σ0 σ4 := hf_σ3.tr (fσ4.mn rfl)
            have hj_σ4 : ∀ i, i < 348 → qx_mi σ4 226 i = S0 i := (fun i hi => (fσ4.i _ _ rfl).trans (hj_σ3 i hi))
            refine Exists.intro (co + ((q_chc (q_two (q_dw (q_dx x) (s_n S 1)) (q_dw (q_dx (q_dx x)) (s_n S 1))) 2 2 0 S 0).2)) (And.intro rfl ?_)
            refine Exists.intro (nI (r + 1)) (And.intro (nI_add _ _) ?_)
            refine Exists.intro (nI (k + 1)) (And.intro (nI_add _ _) ?_)
            refine qx_K_le (ls := [.ref 197, .int (nI m), .int (nI n), .int (nI w), .int (nI (r + 1)), .int (co + ((q_chc (q_two (q_dw (q_dx x) (s_n S 1)) (q_dw (q_dx (q_dx x)) (s_n S 1))) 2 2 0 S 0).2)), .int (nI gl), .int (nI y), .int (nI (k + 1)), .retAddr 0, .retAddr 0]) ⟨Or.inr rfl, Or.inr rfl, Or.inr rfl, Or.inr rfl, Or.inr rfl, Or.inr rfl, Or.inr rfl, Or.inr rfl, Or.inr rfl, Or.inl rfl, Or.inl rfl, trivial⟩ ?_
            first | exact no (Or.inl h145) _ hf_σ4 ?hX aσ2 hj_σ4 | exact no (Or.inr h156) _ hf_σ4 ?hX ((fσ3.l _ _ rfl).trans aσ2) hj_σ4 | (rw [q_y1_yes (fun z => z.elim h145 (fun y => absurd (y.symm.trans h156) (by decide)))] at hcont; have dn := q_dn_ok g ha hb; have n1 : s_n (q_dn (q_dw (q_dx x) (s_n S 1)) (q_dw (q_dx (q_dx x)) (s_n S 1)) S) 1 = s_n S 1 := congrArg Int32.toNatClampNeg (dn.1 1 (by omega)); exact ih _ (by omega) (k + 1) _ (q_dn (q_dw (q_dx x) (s_n S 1)) (q_dw (q_dx (q_dx x)) (s_n S 1)) S) _ _ _ rfl (by omega) (Nat.lt_of_lt_of_eq hpe n1.symm) hx2 (by omega) hf_σ4 (mX.sR (((hX.fr fσ1 rfl).fr fσ2 rfl).fr fσ3 rfl) fσ4 gσ4 dn.1) dn.2 (hs0.tr dn.1) ((fσ4.l _ _ rfl).trans ((fσ3.l _ _ rfl).trans aσ2)) hj_σ4 hcont)
          · skip
            have h156 := bI_f h156
            refine Exists.intro (nI (k + 1)) (And.intro (nI_add _ _) ?_)
            refine qx_K_le (ls := [.ref 197, .int (nI m), .int (nI n), .int (nI w), .int (nI r), .int co, .int (nI gl), .int (nI y), .int (nI (k + 1)), .retAddr 0, .retAddr 0]) ⟨Or.inr rfl, Or.inr rfl, Or.inr rfl, Or.inr rfl, Or.inr rfl, Or.inr rfl, Or.inr rfl, Or.inr rfl, Or.inr rfl, Or.inl rfl, Or.inl rfl, trivial⟩ ?_
            first | exact no (Or.inl h145) _ hf_σ3 hX_σ3 aσ2 hj_σ3 | exact no (Or.inr h156) _ hf_σ3 hX_σ3 ((fσ3.l _ _ rfl).trans aσ2) hj_σ3 | (rw [q_y1_yes (fun z => z.elim h145 (fun y => absurd (y.symm.trans h156) (by decide)))] at hcont; have dn := q_dn_ok g ha hb; have n1 : s_n (q_dn (q_dw (q_dx x) (s_n S 1)) (q_dw (q_dx (q_dx x)) (s_n S 1)) S) 1 = s_n S 1 := congrArg Int32.toNatClampNeg (dn.1 1 (by omega)); exact ih _ (by omega) (k + 1) _ (q_dn (q_dw (q_dx x) (s_n S 1)) (q_dw (q_dx (q_dx x)) (s_n S 1)) S) _ _ _ rfl (by omega) (Nat.lt_of_lt_of_eq hpe n1.symm) hx2 (by omega) hf_σ3 (mX.sR (((hX.fr fσ1 rfl).fr fσ2 rfl).fr fσ3 rfl) fσ4 gσ4 dn.1) dn.2 (hs0.tr dn.1) ((fσ4.l _ _ rfl).trans ((fσ3.l _ _ rfl).trans aσ2)) hj_σ3 hcont)
    · obtain rfl : k = n := by omega
      rw [Nat.sub_self] at hcont
      refine qy_wp_ok (c := CX12_years) (cuts := [111, 180]) vX12_years wX12_years 2000 111 _ _ _ ?_
      refine And.intro (fun h114 => ?_) (fun h114 => ?_)
      · skip
        have h114 := nI_leT (a := k) (b := k) (by omega) (by omega) h114
        refine qx_K_le (ls := [.ref 197, .int (nI m), .int (nI k), .int (nI w), .int (nI r), .int co, .int (nI gl), .int (nI y), .retAddr 0, .retAddr 0, .retAddr 0]) ⟨Or.inr rfl, Or.inr rfl, Or.inr rfl, Or.inr rfl, Or.inr rfl, Or.inr rfl, Or.inr rfl, Or.inr rfl, Or.inl rfl, Or.inr rfl, Or.inr rfl, trivial⟩ ?_
        exact hcont _ hf hX g hs0 ex hx hj
      · skip
        have h114 := nI_leF (a := k) (b := k) (by omega) (by omega) h114
        exact absurd h114 (by omega)

