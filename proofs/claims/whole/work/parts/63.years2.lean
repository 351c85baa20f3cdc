/-! THE REFERENCE: YEARS -/
abbrev lY : List (Nat × Option Nat) := [(205, none), (206, none), (197, some 18), (208, none), (197, some 24), (207, none), (226, none), (197, some 50)]
theorem mX.sR {σ σ' : qx_S} {S S' : qS} {rf : Option qR} (h : mX σ S rf none) (hf : ql [(207, none)] σ σ') (hS : qx_mi σ' 207 = S') (s : sR S S') : mX σ' S' rf none := h.at hf hS (s 1 (by omega)) (s 7 (by omega))
def q_gl (S : qS) (rf : Option qR) : Nat → Nat
  | 0 => 0
  | p + 1 => q_gl S rf p + (if q_aw S rf none p (s_at S p) = true then 0 else 1)
/-- years: x, rings, coal, glad -/
abbrev q_Z : Type := Nat × Nat × Int32 × Nat
def q_y2 (rf : Option qR) (n : Nat) (S : qS) (z : q_Z) : q_Z := ((q_yn rf n (S, z.1, z.2.1, z.2.2.1)).2.1, (q_yn rf n (S, z.1, z.2.1, z.2.2.1)).2.2.1, (q_yn rf n (S, z.1, z.2.1, z.2.2.1)).2.2.2, z.2.2.2 + q_gl (q_yn rf n (S, z.1, z.2.1, z.2.2.1)).1 rf (s_n S 1))
def q_ys (rf : Option qR) (n : Nat) (S : qS) (m : Nat) (z : q_Z) : q_Z := q_iter (q_y2 rf n S) m z
theorem q_gl_le (S : qS) (rf : Option qR) : ∀ n, q_gl S rf n ≤ n
  | 0 => Nat.le_refl _
  | n + 1 => by
    have := q_gl_le S rf n
    show _ + (if _ then _ else _) ≤ _
    split <;> omega
theorem l_yk {G : qx_G} {σ0 : qx_S} {S : qS} {m n w : Nat} {Φ : qx_F} : ∀ (d k : Nat) (σ : qx_S), d = 348 - k → k ≤ 348 → ql lY σ0 σ → qx_mi σ 207 = S → (∀ i, i < k → qx_mi σ 226 i = S i) →
    (∀ s, ql lY σ0 s → ql [(226, none)] σ s → (∀ i, i < 348 → qx_mi s 226 i = S i) → qx_K G qc_T 7 RX12 YX12_years 99 [.ref 197, .int (nI m), .int (nI n), .int (nI w), .int (nI 0), .int (nI 0), .int (nI 0), .retAddr 0, .retAddr 0, .retAddr 0, .retAddr 0] [] s Φ) →
    qx_K G qc_T 7 RX12 YX12_years 71 [.ref 197, .int (nI m), .int (nI n), .int (nI w), .int (nI 0), .int (nI 0), .int (nI 0), .int (nI k), .retAddr 0, .retAddr 0, .retAddr 0] [] σ Φ := by
  intro d
  induction d using Nat.strongRecOn with
  | _ d ih =>
    intro k σ hm hk hf hS hj hcont
    rcases Nat.lt_or_ge k 348 with hlt | hge
    · skip
      refine qy_wp_ok (c := CX12_years) (cuts := [71, 99]) vX12_years wX12_years 2000 71 _ _ _ ?_
      refine Exists.intro (nI 348) (And.intro rfl ?_)
      refine And.intro (fun h76 => ?_) (fun h76 => ?_)
      · skip
        have h76 := nI_leT (a := 348) (b := k) (by decide) (by omega) h76
        exact absurd h76 (by omega)
      · skip
        have h76 := nI_leF (a := 348) (b := k) (by decide) (by omega) h76
        refine And.intro rfl (Exists.intro 226 (And.intro rfl ?_))
        refine And.intro rfl (Exists.intro 207 (And.intro rfl ?_))
        refine Exists.intro (k) (Exists.intro (S k) (And.intro rfl (And.intro ⟨2788, rfl, by omega, by decide⟩ (And.intro (congrFun hS k) ?_))))
        obtain ⟨σ1, eσ1⟩ : ∃ zs, zs = (qx_wi σ 226 k (S k)) := ⟨_, rfl⟩
        have fσ1 := qn_wi eσ1
        refine Exists.intro (k) (Exists.intro σ1 (And.intro rfl (And.intro ⟨348, rfl, by omega, by decide⟩ (And.intro eσ1.symm ?_))))
        have hS_σ1 : qx_mi σ1 207 = S := (fσ1.row 207 (fun _ => rfl)).trans hS
        have hf_σ1 : ql lY σ0 σ1 := hf.tr (fσ1.mn rfl)
        refine Exists.intro (nI (k + 1)) (And.intro (nI_add _ _) ?_)
        refine ih _ (by omega) (k + 1) _ rfl (by omega) hf_σ1 hS_σ1 (fun j h => ?_) (fun s y1 y2 y3 => hcont s y1 (fσ1.tr y2) y3)
        rcases Nat.lt_or_ge j k with z | z
        · exact (qn_ne eσ1 (Or.inr (by omega))).trans (hj j z)
        · obtain rfl : j = k := by omega
          exact qn_eq eσ1
    · obtain rfl : k = 348 := by omega
      refine qy_wp_ok (c := CX12_years) (cuts := [71, 99]) vX12_years wX12_years 2000 71 _ _ _ ?_
      refine Exists.intro (nI 348) (And.intro rfl ?_)
      refine And.intro (fun h76 => ?_) (fun h76 => ?_)
      · skip
        refine qx_K_le (ls := [.ref 197, .int (nI m), .int (nI n), .int (nI w), .int (nI 0), .int (nI 0), .int (nI 0), .retAddr 0, .retAddr 0, .retAddr 0, .retAddr 0]) ⟨Or.inr rfl, Or.inr rfl, Or.inr rfl, Or.inr rfl, Or.inr rfl, Or.inr rfl, Or.inr rfl, Or.inl rfl, Or.inr rfl, Or.inr rfl, Or.inr rfl, trivial⟩ ?_
        exact hcont _ hf qf.rf hj
      · skip
        exact absurd (by decide) h76
theorem l_yr {G : qx_G} {σ0 : qx_S} {S : qS} {m n w r c y : Nat} {co : Int32} {Φ : qx_F} {T : qS} (hT : ∀ i, 348 ≤ i → T i = S i) : ∀ (d k : Nat) (σ : qx_S), d = 348 - k → k ≤ 348 → ql lY σ0 σ → (qx_mi σ 207 = fun i => if i < k then S i else T i) → (∀ i, i < 348 → qx_mi σ 226 i = S i) →
    (∀ s, ql lY σ0 s → ql [(207, none)] σ s → qx_mi s 207 = S → (∀ i, i < 348 → qx_mi s 226 i = S i) → qx_K G qc_T 7 RX12 YX12_years 250 [.ref 197, .int (nI m), .int (nI n), .int (nI w), .int (nI r), .int co, .int (nI c), .int (nI y), .retAddr 0, .retAddr 0, .retAddr 0] [] s Φ) →
    qx_K G qc_T 7 RX12 YX12_years 222 [.ref 197, .int (nI m), .int (nI n), .int (nI w), .int (nI r), .int co, .int (nI c), .int (nI y), .int (nI k), .retAddr 0, .retAddr 0] [] σ Φ := by
  intro d
  induction d using Nat.strongRecOn with
  | _ d ih =>
    intro k σ hm hk hf hS hj hcont
    rcases Nat.lt_or_ge k 348 with hlt | hge
    · skip
      refine qy_wp_ok (c := CX12_years) (cuts := [222, 250]) vX12_years wX12_years 2000 222 _ _ _ ?_
      refine Exists.intro (nI 348) (And.intro rfl ?_)
      refine And.intro (fun h227 => ?_) (fun h227 => ?_)
      · skip
        have h227 := nI_leT (a := 348) (b := k) (by decide) (by omega) h227
        exact absurd h227 (by omega)
      · skip
        have h227 := nI_leF (a := 348) (b := k) (by decide) (by omega) h227
        refine And.intro rfl (Exists.intro 207 (And.intro rfl ?_))
        refine And.intro rfl (Exists.intro 226 (And.intro rfl ?_))
        refine Exists.intro (k) (Exists.intro (S k) (And.intro rfl (And.intro ⟨348, rfl, by omega, by decide⟩ (And.intro (hj k hlt) ?_))))
        obtain ⟨σ1, eσ1⟩ : ∃ zs, zs = (qx_wi σ 207 k (S k)) := ⟨_, rfl⟩
        have fσ1 := qn_wi eσ1
        refine Exists.intro (k) (Exists.intro σ1 (And.intro rfl (And.intro ⟨2788, rfl, by omega, by decide⟩ (And.intro eσ1.symm ?_))))
        have hf_σ1 : ql lY σ0 σ1 := hf.tr (fσ1.mn rfl)
        refine Exists.intro (nI (k + 1)) (And.intro (nI_add _ _) ?_)
        refine ih _ (by omega) (k + 1) _ rfl (by omega) hf_σ1 ((qn_rowS eσ1 hS).trans ?_) (fun j h => (fσ1.i _ _ rfl).trans (hj j h)) (fun s y1 y2 y3 y4 => hcont s y1 (fσ1.tr y2) y3 y4)
        refine up_ext (if_pos (by omega)) (fun j hj' => ?_)
        show (if j < k + 1 then S j else T j) = if j < k then S j else T j
        by_cases z : j < k
        · rw [if_pos z, if_pos (by omega)]
        · rw [if_neg z, if_neg (by omega)]
    · obtain rfl : k = 348 := by omega
      have hS2 : qx_mi σ 207 = S := by
        rw [hS]
        funext i
        by_cases z : i < 348
        · exact if_pos z
        · exact (if_neg z).trans (hT i (by omega))
      refine qy_wp_ok (c := CX12_years) (cuts := [222, 250]) vX12_years wX12_years 2000 222 _ _ _ ?_
      refine Exists.intro (nI 348) (And.intro rfl ?_)
      refine And.intro (fun h227 => ?_) (fun h227 => ?_)
      · skip
        refine qx_K_le (ls := [.ref 197, .int (nI m), .int (nI n), .int (nI w), .int (nI r), .int co, .int (nI c), .int (nI y), .retAddr 0, .retAddr 0, .retAddr 0]) ⟨Or.inr rfl, Or.inr rfl, Or.inr rfl, Or.inr rfl, Or.inr rfl, Or.inr rfl, Or.inr rfl, Or.inr rfl, Or.inl rfl, Or.inr rfl, Or.inr rfl, trivial⟩ ?_
        exact hcont _ hf qf.rf hS2 hj
      · skip
        exact absurd (by decide) h227
theorem l_yg {G : qx_G} {σ0 : qx_S} {S : qS} {rf : Option qR} (g : gS S) {m n w r y gl : Nat} {co : Int32} {Φ : qx_F} : ∀ (d p : Nat) (σ : qx_S), d = s_n S 1 - p → p ≤ s_n S 1 → ql lE σ0 σ → mX σ S rf none →
    (∀ s, ql lE σ0 s → mX s S rf none → qx_K G qc_T 7 RX12 YX12_years 219 [.ref 197, .int (nI m), .int (nI n), .int (nI w), .int (nI r), .int co, .int (nI (gl + q_gl S rf (s_n S 1))), .int (nI y), .retAddr 0, .retAddr 0, .retAddr 0] [] s Φ) →
    qx_K G qc_T 7 RX12 YX12_years 183 [.ref 197, .int (nI m), .int (nI n), .int (nI w), .int (nI r), .int co, .int (nI (gl + q_gl S rf p)), .int (nI y), .int (nI p), .retAddr 0, .retAddr 0] [] σ Φ := by
  have h10 := g.2.1.2
  intro d
  induction d using Nat.strongRecOn with
  | _ d ih =>
    intro p σ hm hp hf hX hcont
    rcases Nat.lt_or_ge p (s_n S 1) with hlt | hge
    · have u1 : q_aw S rf none p (s_at S p) = true → gl + q_gl S rf (p + 1) = gl + q_gl S rf p + 0 := fun z => by show gl + (_ + (if _ then _ else _)) = _; rw [if_pos z]; rfl
      have u2 : q_aw S rf none p (s_at S p) = false → gl + q_gl S rf (p + 1) = gl + q_gl S rf p + 1 := fun z => by show gl + (_ + (if _ then _ else _)) = _; rw [if_neg (by rw [z]; decide)]; rfl
      refine qy_wp_ok (c := CX12_years) (cuts := [183, 219]) vX12_years wX12_years 2000 183 _ _ _ ?_
      refine And.intro rfl (Exists.intro 207 (And.intro rfl ?_))
      refine Exists.intro (nI 1) (And.intro rfl ?_)
      refine Exists.intro (1) (Exists.intro (nI (s_n S 1)) (And.intro rfl (And.intro ⟨2788, rfl, by decide, by decide⟩ (And.intro ((congrFun hX.1 1).trans g.2.1.1) ?_))))
      refine And.intro (fun h191 => ?_) (fun h191 => ?_)
      · skip
        have h191 := nI_leT (a := s_n S 1) (b := p) (by omega) (by omega) h191
        exact absurd h191 (by omega)
      · skip
        have h191 := nI_leF (a := s_n S 1) (b := p) (by omega) (by omega) h191
        refine And.intro rfl (Exists.intro _ (And.intro (by decide) (qx_M_mono (m_wishesAway (p := p) hX g (by omega)) ?_)))
        rintro _ σ1 ⟨rfl, fσ1⟩
        have hf_σ1 : ql lE σ0 σ1 := hf.tr fσ1
        have hX_σ1 : mX σ1 S rf none := hX.fr fσ1 rfl
        refine And.intro (fun h202 => ?_) (fun h202 => ?_)
        · skip
          have h202 := bI_f h202
          refine Exists.intro (nI 1) (And.intro rfl ?_)
          refine Exists.intro (nI (gl + q_gl S rf p + 1)) (And.intro (nI_add _ _) ?_)
          refine Exists.intro (nI (p + 1)) (And.intro (nI_add _ _) ?_)
          first | (rw [← u1 h202]; exact ih _ (by omega) (p + 1) _ rfl (by omega) hf_σ1 hX_σ1 hcont) | (rw [← u2 h202]; exact ih _ (by omega) (p + 1) _ rfl (by omega) hf_σ1 hX_σ1 hcont)
        · skip
          have h202 := bI_t h202
          refine Exists.intro (nI 0) (And.intro rfl ?_)
          refine Exists.intro (nI (gl + q_gl S rf p + 0)) (And.intro (nI_add _ _) ?_)
          refine Exists.intro (nI (p + 1)) (And.intro (nI_add _ _) ?_)
          first | (rw [← u1 h202]; exact ih _ (by omega) (p + 1) _ rfl (by omega) hf_σ1 hX_σ1 hcont) | (rw [← u2 h202]; exact ih _ (by omega) (p + 1) _ rfl (by omega) hf_σ1 hX_σ1 hcont)
    · obtain rfl : p = s_n S 1 := by omega
      refine qy_wp_ok (c := CX12_years) (cuts := [183, 219]) vX12_years wX12_years 2000 183 _ _ _ ?_
      refine And.intro rfl (Exists.intro 207 (And.intro rfl ?_))
      refine Exists.intro (nI 1) (And.intro rfl ?_)
      refine Exists.intro (1) (Exists.intro (nI (s_n S 1)) (And.intro rfl (And.intro ⟨2788, rfl, by decide, by decide⟩ (And.intro ((congrFun hX.1 1).trans g.2.1.1) ?_))))
      refine And.intro (fun h191 => ?_) (fun h191 => ?_)
      · skip
        have h191 := nI_leT (a := s_n S 1) (b := s_n S 1) (by omega) (by omega) h191
        refine qx_K_le (ls := [.ref 197, .int (nI m), .int (nI n), .int (nI w), .int (nI r), .int co, .int (nI (gl + q_gl S rf (s_n S 1))), .int (nI y), .retAddr 0, .retAddr 0, .retAddr 0]) ⟨Or.inr rfl, Or.inr rfl, Or.inr rfl, Or.inr rfl, Or.inr rfl, Or.inr rfl, Or.inr rfl, Or.inr rfl, Or.inl rfl, Or.inr rfl, Or.inr rfl, trivial⟩ ?_
        exact hcont _ hf hX
      · skip
        have h191 := nI_leF (a := s_n S 1) (b := s_n S 1) (by omega) (by omega) h191
        exact absurd h191 (by omega)
theorem q_yn_s (rf : Option qR) (n : Nat) (y : q_Y) : q_yn rf (n + 1) y = q_yn rf n (q_y1 rf y) := q_iter_s (q_y1 rf) n y
theorem q_dw_lt (x : Nat) {pe : Nat} (h : 0 < pe) : q_dw x pe < pe := Nat.mod_lt _ h
theorem q_y1_no {rf : Option qR} {S : qS} {x r : Nat} {co : Int32} (h : q_dw (q_dx x) (s_n S 1) = q_dw (q_dx (q_dx x)) (s_n S 1) ∨ q_can S rf (q_dw (q_dx x) (s_n S 1)) (q_dw (q_dx (q_dx x)) (s_n S 1)) = false) : q_y1 rf (S, x, r, co) = (S, q_dx (q_dx x), r, co) := if_pos h
theorem q_y1_yes {rf : Option qR} {S : qS} {x r : Nat} {co : Int32} (h : ¬ (q_dw (q_dx x) (s_n S 1) = q_dw (q_dx (q_dx x)) (s_n S 1) ∨ q_can S rf (q_dw (q_dx x) (s_n S 1)) (q_dw (q_dx (q_dx x)) (s_n S 1)) = false)) : q_y1 rf (S, x, r, co) = (q_dn (q_dw (q_dx x) (s_n S 1)) (q_dw (q_dx (q_dx x)) (s_n S 1)) S, q_dx (q_dx x), r + 1, co + (q_chc (q_two (q_dw (q_dx x) (s_n S 1)) (q_dw (q_dx (q_dx x)) (s_n S 1))) 2 2 0 S 0).2) := if_neg h
theorem l_yn {G : qx_G} {σ0 : qx_S} {S0 : qS} {rf : Option qR} {m n w gl y : Nat} (hn : n ≤ 200) {Φ : qx_F} : ∀ (d k : Nat) (σ : qx_S) (S : qS) (x r : Nat) (co : Int32), d = n - k → k ≤ n → 0 < s_n S 1 → x < 2147483648 → r < 100000 + k → ql lY σ0 σ → mX σ S rf none → gS S → sR S0 S → qx_ml σ 197 50 = lN x → (∀ i, i < 348 → qx_mi σ 226 i = S0 i) →
    (∀ s, ql lY σ0 s → mX s (q_yn rf (n - k) (S, x, r, co)).1 rf none → gS (q_yn rf (n - k) (S, x, r, co)).1 → sR S0 (q_yn rf (n - k) (S, x, r, co)).1 → qx_ml s 197 50 = lN (q_yn rf (n - k) (S, x, r, co)).2.1 → (q_yn rf (n - k) (S, x, r, co)).2.1 < 2147483648 → (∀ i, i < 348 → qx_mi s 226 i = S0 i) → qx_K G qc_T 7 RX12 YX12_years 180 [.ref 197, .int (nI m), .int (nI n), .int (nI w), .int (nI (q_yn rf (n - k) (S, x, r, co)).2.2.1), .int (q_yn rf (n - k) (S, x, r, co)).2.2.2, .int (nI gl), .int (nI y), .retAddr 0, .retAddr 0, .retAddr 0] [] s Φ) →
    qx_K G qc_T 7 RX12 YX12_years 111 [.ref 197, .int (nI m), .int (nI n), .int (nI w), .int (nI r), .int co, .int (nI gl), .int (nI y), .int (nI k), .retAddr 0, .retAddr 0] [] σ Φ := by
  intro d
  induction d using Nat.strongRecOn with
  | _ d ih =>
    intro k σ S x r co hm hk hpe hx hrb hf hX g hs0 ex hj hcont
    have h10 := g.2.1.2
    rcases Nat.lt_or_ge k n with hlt | hge
    · have e1 : n - k = (n - (k + 1)) + 1 := by omega
      rw [e1] at hcont
      rw [q_yn_s] at hcont
      have hx1 := q_dx_lt x
      have hx2 := q_dx_lt (q_dx x)
      have ha : q_dw (q_dx x) (s_n S 1) < s_n S 1 := q_dw_lt _ hpe
      have hb : q_dw (q_dx (q_dx x)) (s_n S 1) < s_n S 1 := q_dw_lt _ hpe
      have no : (q_dw (q_dx x) (s_n S 1) = q_dw (q_dx (q_dx x)) (s_n S 1) ∨ q_can S rf (q_dw (q_dx x) (s_n S 1)) (q_dw (q_dx (q_dx x)) (s_n S 1)) = false) → ∀ s, ql lY σ0 s → mX s S rf none → qx_ml s 197 50 = lN (q_dx (q_dx x)) → (∀ i, i < 348 → qx_mi s 226 i = S0 i) → qx_K G qc_T 7 RX12 YX12_years 111 [.ref 197, .int (nI m), .int (nI n), .int (nI w), .int (nI r), .int co, .int (nI gl), .int (nI y), .int (nI (k + 1)), .retAddr 0, .retAddr 0] [] s Φ := by
        intro z s y1 y2 y3 y4
        rw [q_y1_no z] at hcont
        exact ih _ (by omega) (k + 1) s S _ r co rfl (by omega) hpe hx2 (by omega) y1 y2 g hs0 y3 y4 hcont
      refine qy_wp_ok (c := CX12_years) (cuts := [111, 180]) vX12_years wX12_years 2000 111 _ _ _ ?_
      refine And.intro (fun h114 => ?_) (fun h114 => ?_)
      · skip
        have h114 := nI_leT (a := n) (b := k) (by omega) (by omega) h114
        exact absurd h114 (by omega)
      · skip
        have h114 := nI_leF (a := n) (b := k) (by omega) (by omega) h114
        refine And.intro rfl (Exists.intro 207 (And.intro rfl ?_))
        refine Exists.intro (nI 1) (And.intro rfl ?_)
        refine Exists.intro (1) (Exists.intro (nI (s_n S 1)) (And.intro rfl (And.intro ⟨2788, rfl, by decide, by decide⟩ (And.intro ((congrFun hX.1 1).trans g.2.1.1) ?_))))
        refine And.intro rfl (Exists.intro _ (And.intro (by decide) (qx_M_mono (m_draw hx ex hpe h10) ?_)))
        rintro _ σ1 ⟨rfl, fσ1, aσ1⟩
        have hf_σ1 : ql lY σ0 σ1 := hf.tr (fσ1.mn rfl)
        have hX_σ1 : mX σ1 S rf none := hX.fr fσ1 rfl
        have hj_σ1 : ∀ i, i < 348 → qx_mi σ1 226 i = S0 i := (fun i hi => (fσ1.i _ _ rfl).trans (hj i hi))
        refine And.intro rfl (Exists.intro 207 (And.intro rfl ?_))
        refine Exists.intro (nI 1) (And.intro rfl ?_)
        refine Exists.intro (1) (Exists.intro (nI (s_n S 1)) (And.intro rfl (And.intro ⟨2788, rfl, by decide, by decide⟩ (And.intro ((congrFun hX_σ1.1 1).trans g.2.1.1) ?_))))
        refine And.intro rfl (Exists.intro _ (And.intro (by decide) (qx_M_mono (m_draw hx1 aσ1 hpe h10) ?_)))
        rintro _ σ2 ⟨rfl, fσ2, aσ2⟩
        have hf_σ2 : ql lY σ0 σ2 := hf_σ1.tr (fσ2.mn rfl)
        have hX_σ2 : mX σ2 S rf none := hX_σ1.fr fσ2 rfl
        have hj_σ2 : ∀ i, i < 348 → qx_mi σ2 226 i = S0 i := (fun i hi => (fσ2.i _ _ rfl).trans (hj_σ1 i hi))
        refine And.intro (fun h145 => ?_) (fun h145 => ?_)
        · skip
          have h145 := nI_eqT (a := q_dw (q_dx x) (s_n S 1)) (b := q_dw (q_dx (q_dx x)) (s_n S 1)) (by omega) (by omega) h145
          refine Exists.intro (nI (k + 1)) (And.intro (nI_add _ _) ?_)
          refine qx_K_le (ls := [.ref 197, .int (nI m), .int (nI n), .int (nI w), .int (nI r), .int co, .int (nI gl), .int (nI y), .int (nI (k + 1)), .retAddr 0, .retAddr 0]) ⟨Or.inr rfl, Or.inr rfl, Or.inr rfl, Or.inr rfl, Or.inr rfl, Or.inr rfl, Or.inr rfl, Or.inr rfl, Or.inr rfl, Or.inl rfl, Or.inl rfl, trivial⟩ ?_
          first | exact no (Or.inl h145) _ hf_σ2 hX_σ2 aσ2 hj_σ2 | exact no (Or.inr h156) _ hf_σ2 hX_σ2 ((fσ3.l _ _ rfl).trans aσ2) hj_σ2 | (rw [q_y1_yes (fun z => z.elim h145 (fun y => absurd (y.symm.trans h156) (by decide)))] at hcont; have dn := q_dn_ok g ha hb; have n1 : s_n (q_dn (q_dw (q_dx x) (s_n S 1)) (q_dw (q_dx (q_dx x)) (s_n S 1)) S) 1 = s_n S 1 := congrArg Int32.toNatClampNeg (dn.1 1 (by omega)); exact ih _ (by omega) (k + 1) _ (q_dn (q_dw (q_dx x) (s_n S 1)) (q_dw (q_dx (q_dx x)) (s_n S 1)) S) _ _ _ rfl (by omega) (Nat.lt_of_lt_of_eq hpe n1.symm) hx2 (by omega) hf_σ2 (mX.sR (((hX.fr fσ1 rfl).fr fσ2 rfl).fr fσ3 rfl) fσ4 gσ4 dn.1) dn.2 (hs0.tr dn.1) ((fσ4.l _ _ rfl).trans ((fσ3.l _ _ rfl).trans aσ2)) hj_σ2 hcont)
        · skip
          have h145 := nI_neT (a := q_dw (q_dx x) (s_n S 1)) (b := q_dw (q_dx (q_dx x)) (s_n S 1)) (by omega) (by omega) h145
          refine And.intro rfl (Exists.intro _ (And.intro (by decide) (qx_M_mono (m_canChange hX_σ2 g ha hb) ?_)))
          rintro _ σ3 ⟨rfl, fσ3, gσ3⟩
          have hf_σ3 : ql lY σ0 σ3 := hf_σ2.tr (fσ3.mn rfl)
          have hX_σ3 : mX σ3 S rf none := hX_σ2.fr fσ3 rfl
          have hj_σ3 : ∀ i, i < 348 → qx_mi σ3 226 i = S0 i := (fun i hi => (fσ3.i _ _ rfl).trans (hj_σ2 i hi))
          refine And.intro (fun h156 => ?_) (fun h156 => ?_)
          · skip
            have h156 := bI_t h156
            refine And.intro rfl (Exists.intro _ (And.intro (by decide) (qx_M_mono (m_changes (rg := q_two (q_dw (q_dx x) (s_n S 1)) (q_dw (q_dx (q_dx x)) (s_n S 1))) hX_σ3.1 (by decide) (by decide) (fun k _ => q_two_lt (by omega) (by omega) k) gσ3) ?_)))
            rintro _ σ4 ⟨rfl, fσ4, gσ4⟩
            have hf_σ4 : ql lY σ0 σ4 := hf_σ3.tr (fσ4.mn rfl)
            have hj_σ4 : ∀ i, i < 348 → qx_mi σ4 226 i = S0 i := (fun i hi => (fσ4.i _ _ rfl).trans (hj_σ3 i hi))
            refine Exists.intro (co + ((q_chc (q_two (q_dw (q_dx x) (s_n S 1)) (q_dw (q_dx (q_dx x)) (s_n S 1))) 2 2 0 S 0).2)) (And.intro rfl ?_)
            refine Exists.intro (nI (r + 1)) (And.intro (nI_add _ _) ?_)
            refine Exists.intro (nI (k + 1)) (And.intro (nI_add _ _) ?_)
            refine qx_K_le (ls := [.ref 197, .int (nI m), .int (nI n), .int (nI w), .int (nI (r + 1)), .int (co + ((q_chc (q_two (q_dw (q_dx x) (s_n S 1)) (q_dw (q_dx (q_dx x)) (s_n S 1))) 2 2 0 S 0).2)), .int (nI gl), .int (nI y), .int (nI (k + 1)), .retAddr 0, .retAddr 0]) ⟨Or.inr rfl, Or.inr rfl, Or.inr rfl, Or.inr rfl, Or.inr rfl, Or.inr rfl, Or.inr rfl, Or.inr rfl, Or.inr rfl, Or.inl rfl, Or.inl rfl, trivial⟩ ?_
            first | exact no (Or.inl h145) _ hf_σ4 ?hX aσ2 hj_σ4 | exact no (Or.inr h156) _ hf_σ4 ?hX ((fσ3.l _ _ rfl).trans aσ2) hj_σ4 | (rw [q_y1_yes (fun z => z.elim h145 (fun y => absurd (y.symm.trans h156) (by decide)))] at hcont; have dn := q_dn_ok g ha hb; have n1 : s_n (q_dn (q_dw (q_dx x) (s_n S 1)) (q_dw (q_dx (q_dx x)) (s_n S 1)) S) 1 = s_n S 1 := congrArg Int32.toNatClampNeg (dn.1 1 (by omega)); exact ih _ (by omega) (k + 1) _ (q_dn (q_dw (q_dx x) (s_n S 1)) (q_dw (q_dx (q_dx x)) (s_n S 1)) S) _ _ _ rfl (by omega) (Nat.lt_of_lt_of_eq hpe n1.symm) hx2 (by omega) hf_σ4 (mX.sR (((hX.fr fσ1 rfl).fr fσ2 rfl).fr fσ3 rfl) fσ4 gσ4 dn.1) dn.2 (hs0.tr dn.1) ((fσ4.l _ _ rfl).trans ((fσ3.l _ _ rfl).trans aσ2)) hj_σ4 hcont)
          · skip
            have h156 := bI_f h156
            refine Exists.intro (nI (k + 1)) (And.intro (nI_add _ _) ?_)
            refine qx_K_le (ls := [.ref 197, .int (nI m), .int (nI n), .int (nI w), .int (nI r), .int co, .int (nI gl), .int (nI y), .int (nI (k + 1)), .retAddr 0, .retAddr 0]) ⟨Or.inr rfl, Or.inr rfl, Or.inr rfl, Or.inr rfl, Or.inr rfl, Or.inr rfl, Or.inr rfl, Or.inr rfl, Or.inr rfl, Or.inl rfl, Or.inl rfl, trivial⟩ ?_
            first | exact no (Or.inl h145) _ hf_σ3 hX_σ3 aσ2 hj_σ3 | exact no (Or.inr h156) _ hf_σ3 hX_σ3 ((fσ3.l _ _ rfl).trans aσ2) hj_σ3 | (rw [q_y1_yes (fun z => z.elim h145 (fun y => absurd (y.symm.trans h156) (by decide)))] at hcont; have dn := q_dn_ok g ha hb; have n1 : s_n (q_dn (q_dw (q_dx x) (s_n S 1)) (q_dw (q_dx (q_dx x)) (s_n S 1)) S) 1 = s_n S 1 := congrArg Int32.toNatClampNeg (dn.1 1 (by omega)); exact ih _ (by omega) (k + 1) _ (q_dn (q_dw (q_dx x) (s_n S 1)) (q_dw (q_dx (q_dx x)) (s_n S 1)) S) _ _ _ rfl (by omega) (Nat.lt_of_lt_of_eq hpe n1.symm) hx2 (by omega) hf_σ3 (mX.sR (((hX.fr fσ1 rfl).fr fσ2 rfl).fr fσ3 rfl) fσ4 gσ4 dn.1) dn.2 (hs0.tr dn.1) ((fσ4.l _ _ rfl).trans ((fσ3.l _ _ rfl).trans aσ2)) hj_σ3 hcont)
    · obtain rfl : k = n := by omega
      rw [Nat.sub_self] at hcont
      refine qy_wp_ok (c := CX12_years) (cuts := [111, 180]) vX12_years wX12_years 2000 111 _ _ _ ?_
      refine And.intro (fun h114 => ?_) (fun h114 => ?_)
      · skip
        have h114 := nI_leT (a := k) (b := k) (by omega) (by omega) h114
        refine qx_K_le (ls := [.ref 197, .int (nI m), .int (nI k), .int (nI w), .int (nI r), .int co, .int (nI gl), .int (nI y), .retAddr 0, .retAddr 0, .retAddr 0]) ⟨Or.inr rfl, Or.inr rfl, Or.inr rfl, Or.inr rfl, Or.inr rfl, Or.inr rfl, Or.inr rfl, Or.inr rfl, Or.inl rfl, Or.inr rfl, Or.inr rfl, trivial⟩ ?_
        exact hcont _ hf hX g hs0 ex hx hj
      · skip
        have h114 := nI_leF (a := k) (b := k) (by omega) (by omega) h114
        exact absurd h114 (by omega)
theorem q_ys_s (rf : Option qR) (n : Nat) (S : qS) (m : Nat) (z : q_Z) : q_ys rf n S (m + 1) z = q_ys rf n S m (q_y2 rf n S z) := q_iter_s _ m z
theorem q_iter_le {α : Type} (f : α → α) (μ : α → Nat) (hf : ∀ y, μ (f y) ≤ μ y + 1) : ∀ (n : Nat) (y : α), μ (q_iter f n y) ≤ μ y + n
  | 0, _ => Nat.le_refl _
  | n + 1, y => by
    have h := q_iter_le f μ hf n (f y)
    have h2 := hf y
    rw [q_iter_s]
    omega
theorem q_y1_r (rf : Option qR) (S : qS) (x r : Nat) (co : Int32) : (q_y1 rf (S, x, r, co)).2.2.1 ≤ r + 1 := by
  by_cases h : q_dw (q_dx x) (s_n S 1) = q_dw (q_dx (q_dx x)) (s_n S 1) ∨ q_can S rf (q_dw (q_dx x) (s_n S 1)) (q_dw (q_dx (q_dx x)) (s_n S 1)) = false
  · rw [q_y1_no h]
    exact Nat.le_succ r
  · rw [q_y1_yes h]
    exact Nat.le_refl (r + 1)
theorem q_yn_r (rf : Option qR) (n : Nat) (y : q_Y) : (q_yn rf n y).2.2.1 ≤ y.2.2.1 + n := q_iter_le (q_y1 rf) (fun y => y.2.2.1) (fun y => q_y1_r rf y.1 y.2.1 y.2.2.1 y.2.2.2) n y
theorem l_yy {G : qx_G} {σ0 : qx_S} {S : qS} {rf : Option qR} (g : gS S) (hpe : 0 < s_n S 1) {m n w : Nat} (hm20 : m ≤ 20) (hn : n ≤ 200) (hw : w ≤ 2) : ∀ (d y : Nat) (σ : qx_S) (x r gl : Nat) (co : Int32), d = m - y → y ≤ m → x < 2147483648 → r ≤ 200 * y → gl ≤ 10 * y → ql lY σ0 σ → mX σ S rf none → qx_ml σ 197 50 = lN x → (∀ i, i < 348 → qx_mi σ 226 i = S i) →
    qx_K G qc_T 7 RX12 YX12_years 102 [.ref 197, .int (nI m), .int (nI n), .int (nI w), .int (nI r), .int co, .int (nI gl), .int (nI y), .retAddr 0, .retAddr 0, .retAddr 0] [] σ (fun q s => q = some (.int (if w = 0 then nI (q_ys rf n S (m - y) (x, r, co, gl)).2.1 else if w = 1 then (q_ys rf n S (m - y) (x, r, co, gl)).2.2.1 else nI (q_ys rf n S (m - y) (x, r, co, gl)).2.2.2)) ∧ ql lY σ0 s ∧ mX s S rf none) := by
  have h10 := g.2.1.2
  intro d
  induction d using Nat.strongRecOn with
  | _ d ih =>
    intro y σ x r gl co hd hy hx hr hgl hf hX ex hj
    rcases Nat.lt_or_ge y m with hlt | hge
    · have e1 : m - y = (m - (y + 1)) + 1 := by omega
      rw [e1, q_ys_s]
      have hr2 := q_yn_r rf n (S, x, r, co)
      have hr3 : (q_yn rf n (S, x, r, co)).2.2.1 ≤ r + n := hr2
      refine qy_wp_ok (c := CX12_years) (cuts := [102, 111]) vX12_years wX12_years 2000 102 _ _ _ ?_
      refine And.intro (fun h105 => ?_) (fun h105 => ?_)
      · skip
        have h105 := nI_leT (a := m) (b := y) (by omega) (by omega) h105
        exact absurd h105 (by omega)
      · skip
        have h105 := nI_leF (a := m) (b := y) (by omega) (by omega) h105
        refine Exists.intro (nI 0) (And.intro rfl ?_)
        refine l_yn (S0 := S) hn _ 0 σ S x r co rfl (by omega) hpe hx (by omega) hf hX g sR.rf ex hj (fun s y1 y2 y3 y4 y5 y6 y7 => ?_)
        rw [Nat.sub_zero] at y2 y3 y4 y5 y6 ⊢
        have n1 : s_n (q_yn rf n (S, x, r, co)).1 1 = s_n S 1 := congrArg Int32.toNatClampNeg (y4 1 (by omega))
        have gl2 := q_gl_le (q_yn rf n (S, x, r, co)).1 rf (s_n S 1)
        refine qy_wp_ok (c := CX12_years) (cuts := [183]) vX12_years wX12_years 2000 180 _ _ _ ?_
        refine Exists.intro (nI 0) (And.intro rfl ?_)
        refine l_yg (S := (q_yn rf n (S, x, r, co)).1) (gl := gl) y3 _ 0 s rfl (by omega) qf.rf y2 (fun s2 z1 z2 => ?_)
        refine qy_wp_ok (c := CX12_years) (cuts := [222]) vX12_years wX12_years 2000 219 _ _ _ ?_
        refine Exists.intro (nI 0) (And.intro rfl ?_)
        refine l_yr (S := S) (T := (q_yn rf n (S, x, r, co)).1) (fun i hi => y4 i (by omega)) _ 0 s2 rfl (by omega) (y1.tr (z1.mn rfl)) (z2.1.trans (funext fun i => (if_neg (by omega)).symm)) (fun i hi => (z1.i _ _ rfl).trans (y7 i hi)) (fun s3 w1 w2 w3 w4 => ?_)
        refine qy_wp_ok (c := CX12_years) (cuts := [102]) vX12_years wX12_years 2000 250 _ _ _ ?_
        refine Exists.intro (nI (y + 1)) (And.intro (nI_add _ _) ?_)
        rw [n1]
        exact ih _ (by omega) (y + 1) s3 (q_yn rf n (S, x, r, co)).2.1 (q_yn rf n (S, x, r, co)).2.2.1 (gl + q_gl (q_yn rf n (S, x, r, co)).1 rf (s_n S 1)) (q_yn rf n (S, x, r, co)).2.2.2 rfl (by omega) y6 (by omega) (by omega) w1 (z2.at w2 w3 (y4 1 (by omega)).symm (y4 7 (by omega)).symm) ((w2.l _ _ rfl).trans ((z1.l _ _ rfl).trans y5)) w4
    · obtain rfl : y = m := by omega
      rw [Nat.sub_self]
      show qx_K _ _ _ _ _ _ _ _ _ (fun q s => q = some (.int (if w = 0 then nI r else if w = 1 then co else nI gl)) ∧ ql lY σ0 s ∧ mX s S rf none)
      refine qy_wp_ok (c := CX12_years) (cuts := [102, 111]) vX12_years wX12_years 2000 102 _ _ _ ?_
      refine And.intro (fun h105 => ?_) (fun h105 => ?_)
      · skip
        have h105 := nI_leT (a := y) (b := y) (by omega) (by omega) h105
        refine And.intro (fun h257 => ?_) (fun h257 => ?_)
        · skip
          have h257 := nI_neT (a := w) (b := 0) (by omega) (by decide) h257
          refine Exists.intro (nI 1) (And.intro rfl ?_)
          refine And.intro (fun h267 => ?_) (fun h267 => ?_)
          · skip
            have h267 := nI_neT (a := w) (b := 1) (by omega) (by decide) h267
            first | exact ⟨by rw [if_pos h257], hf, hX⟩ | exact ⟨by rw [if_neg h257, if_pos h267], hf, hX⟩ | exact ⟨by rw [if_neg h257, if_neg h267], hf, hX⟩
          · skip
            have h267 := nI_eqT (a := w) (b := 1) (by omega) (by decide) h267
            first | exact ⟨by rw [if_pos h257], hf, hX⟩ | exact ⟨by rw [if_neg h257, if_pos h267], hf, hX⟩ | exact ⟨by rw [if_neg h257, if_neg h267], hf, hX⟩
        · skip
          have h257 := nI_eqT (a := w) (b := 0) (by omega) (by decide) h257
          first | exact ⟨by rw [if_pos h257], hf, hX⟩ | exact ⟨by rw [if_neg h257, if_pos h267], hf, hX⟩ | exact ⟨by rw [if_neg h257, if_neg h267], hf, hX⟩
      · skip
        have h105 := nI_leF (a := y) (b := y) (by omega) (by omega) h105
        exact absurd h105 (by omega)
theorem m_years_no {G : qx_G} {σ : qx_S} {S : qS} (hS : qx_mi σ 207 = S) {pe : Nat} (e1 : S 1 = nI pe) (hpe : pe ≤ 10) {m n w : Int32} (hb : (!decide (pe = 0) && q_in64 m.toInt64 (lN 1) (lN 20) && q_in64 n.toInt64 (lN 1) (lN 200) && q_in64 w.toInt64 (lN 0) (lN 2)) = false) : qx_M G qc_T 7 YX12_years [.ref 197, .int m, .int n, .int w] σ (qr (-1) σ) := by
  refine qx_M_in rfl (Nat.le_of_ble_eq_true rfl) ?_
  refine qy_wp_ok (c := CX12_years) (cuts := [71]) vX12_years wX12_years 2000 0 _ _ _ ?_
  refine And.intro rfl (Exists.intro 207 (And.intro rfl ?_))
  refine Exists.intro (nI 1) (And.intro rfl ?_)
  refine Exists.intro (1) (Exists.intro (nI pe) (And.intro rfl (And.intro ⟨2788, rfl, by decide, by decide⟩ (And.intro ((congrFun hS 1).trans e1) ?_))))
  refine And.intro (fun h6 => ?_) (fun h6 => ?_)
  · skip
    have h6 := nI_eqT (a := pe) (b := 0) (by omega) (by decide) h6
    refine Exists.intro ((-1)) (And.intro (by decide) ?_)
    exact ⟨rfl, rfl⟩
  · skip
    have h6 := nI_neT (a := pe) (b := 0) (by omega) (by decide) h6
    refine Exists.intro m.toInt64 (And.intro rfl ?_)
    refine Exists.intro (lN 1) (And.intro rfl ?_)
    refine Exists.intro (lN 20) (And.intro (by decide) ?_)
    refine Exists.intro _ (And.intro (by decide) (qx_M_mono (m_in (v := m.toInt64) (l := (lN 1)) (h := (lN 20))) ?_))
    rintro _ _ ⟨rfl, rfl⟩
    refine And.intro (fun h18 => ?_) (fun h18 => ?_)
    · skip
      have h18 := bI_f h18
      refine Exists.intro ((-1)) (And.intro (by decide) ?_)
      exact ⟨rfl, rfl⟩
    · skip
      have h18 := bI_t h18
      refine Exists.intro n.toInt64 (And.intro rfl ?_)
      refine Exists.intro (lN 1) (And.intro rfl ?_)
      refine Exists.intro (lN 200) (And.intro (by decide) ?_)
      refine Exists.intro _ (And.intro (by decide) (qx_M_mono (m_in (v := n.toInt64) (l := (lN 1)) (h := (lN 200))) ?_))
      rintro _ _ ⟨rfl, rfl⟩
      refine And.intro (fun h30 => ?_) (fun h30 => ?_)
      · skip
        have h30 := bI_f h30
        refine Exists.intro ((-1)) (And.intro (by decide) ?_)
        exact ⟨rfl, rfl⟩
      · skip
        have h30 := bI_t h30
        refine Exists.intro w.toInt64 (And.intro rfl ?_)
        refine Exists.intro (lN 0) (And.intro rfl ?_)
        refine Exists.intro (lN 2) (And.intro (by decide) ?_)
        refine Exists.intro _ (And.intro (by decide) (qx_M_mono (m_in (v := w.toInt64) (l := (lN 0)) (h := (lN 2))) ?_))
        rintro _ _ ⟨rfl, rfl⟩
        refine And.intro (fun h42 => ?_) (fun h42 => ?_)
        · skip
          have h42 := bI_t h42
          rw [decide_eq_false h6, h18, h30, h42] at hb; cases hb
        · skip
          have h42 := bI_f h42
          refine Exists.intro ((-1)) (And.intro (by decide) ?_)
          exact ⟨rfl, rfl⟩
theorem m_years_ok {G : qx_G} {σ : qx_S} {S : qS} {rf : Option qR} (hX : mX σ S rf none) (g : gS S) (hpe : 0 < s_n S 1) {x : Nat} (hx : x < 2147483648) (e8 : S 8 = nI x) {m n w : Nat} (hm1 : 1 ≤ m) (hm20 : m ≤ 20) (hn1 : 1 ≤ n) (hn : n ≤ 200) (hw : w ≤ 2) : qx_M G qc_T 7 YX12_years [.ref 197, .int (nI m), .int (nI n), .int (nI w)] σ (fun q s => q = some (.int (if w = 0 then nI (q_ys rf n S m (x, 0, 0, 0)).2.1 else if w = 1 then (q_ys rf n S m (x, 0, 0, 0)).2.2.1 else nI (q_ys rf n S m (x, 0, 0, 0)).2.2.2)) ∧ ql lY σ s ∧ mX s S rf none) := by
  have h10 := g.2.1.2
  refine qx_M_in rfl (Nat.le_of_ble_eq_true rfl) ?_
  refine qy_wp_ok (c := CX12_years) (cuts := [71]) vX12_years wX12_years 2000 0 _ _ _ ?_
  refine And.intro rfl (Exists.intro 207 (And.intro rfl ?_))
  refine Exists.intro (nI 1) (And.intro rfl ?_)
  refine Exists.intro (1) (Exists.intro (nI (s_n S 1)) (And.intro rfl (And.intro ⟨2788, rfl, by decide, by decide⟩ (And.intro ((congrFun hX.1 1).trans g.2.1.1) ?_))))
  refine And.intro (fun h6 => ?_) (fun h6 => ?_)
  · skip
    have h6 := nI_eqT (a := s_n S 1) (b := 0) (by omega) (by decide) h6
    exact absurd h6 (by omega)
  · skip
    have h6 := nI_neT (a := s_n S 1) (b := 0) (by omega) (by decide) h6
    refine Exists.intro ((nI m).toInt64) (And.intro rfl ?_)
    refine Exists.intro (lN 1) (And.intro rfl ?_)
    refine Exists.intro (lN 20) (And.intro (by decide) ?_)
    refine Exists.intro _ (And.intro (by decide) (qx_M_mono (m_in (v := ((nI m).toInt64)) (l := (lN 1)) (h := (lN 20))) ?_))
    rintro _ _ ⟨rfl, rfl⟩
    refine And.intro (fun h18 => ?_) (fun h18 => ?_)
    · skip
      have h18 := bI_f h18
      exact absurd (h18.symm.trans (q_in_ok (by omega) (by omega) (by decide))) (by decide)
    · skip
      have h18 := bI_t h18
      refine Exists.intro ((nI n).toInt64) (And.intro rfl ?_)
      refine Exists.intro (lN 1) (And.intro rfl ?_)
      refine Exists.intro (lN 200) (And.intro (by decide) ?_)
      refine Exists.intro _ (And.intro (by decide) (qx_M_mono (m_in (v := ((nI n).toInt64)) (l := (lN 1)) (h := (lN 200))) ?_))
      rintro _ _ ⟨rfl, rfl⟩
      refine And.intro (fun h30 => ?_) (fun h30 => ?_)
      · skip
        have h30 := bI_f h30
        exact absurd (h30.symm.trans (q_in_ok (by omega) (by omega) (by decide))) (by decide)
      · skip
        have h30 := bI_t h30
        refine Exists.intro ((nI w).toInt64) (And.intro rfl ?_)
        refine Exists.intro (lN 0) (And.intro rfl ?_)
        refine Exists.intro (lN 2) (And.intro (by decide) ?_)
        refine Exists.intro _ (And.intro (by decide) (qx_M_mono (m_in (v := ((nI w).toInt64)) (l := (lN 0)) (h := (lN 2))) ?_))
        rintro _ _ ⟨rfl, rfl⟩
        refine And.intro (fun h42 => ?_) (fun h42 => ?_)
        · skip
          have h42 := bI_t h42
          refine And.intro rfl (Exists.intro 207 (And.intro rfl ?_))
          refine Exists.intro (nI 8) (And.intro rfl ?_)
          refine Exists.intro (8) (Exists.intro (nI x) (And.intro rfl (And.intro ⟨2788, rfl, by decide, by decide⟩ (And.intro ((congrFun hX.1 8).trans e8) ?_))))
          refine Exists.intro (lN x) (And.intro (nI_l hx) ?_)
          obtain ⟨σ1, eσ1⟩ : ∃ zs, zs = (qx_wl σ 197 50 (lN x)) := ⟨_, rfl⟩
          have fσ1 := qn_wlf eσ1
          refine And.intro rfl (Exists.intro 50 (Exists.intro σ1 (And.intro rfl (And.intro eσ1.symm ?_))))
          have hX_σ1 : mX σ1 S rf none := hX.fr fσ1 rfl
          refine Exists.intro (nI 0) (And.intro rfl ?_)
          refine Exists.intro (nI 0) (And.intro rfl ?_)
          refine Exists.intro (nI 0) (And.intro rfl ?_)
          refine Exists.intro (nI 0) (And.intro rfl ?_)
          refine l_yk (S := S) _ 0 σ1 rfl (by omega) (fσ1.mn rfl) hX_σ1.1 (fun i hi => absurd hi (by omega)) (fun s y1 y2 y3 => ?_)
          refine qy_wp_ok (c := CX12_years) (cuts := [102]) vX12_years wX12_years 2000 99 _ _ _ ?_
          refine Exists.intro (nI 0) (And.intro rfl ?_)
          exact l_yy g hpe hm20 hn hw _ 0 s x 0 0 0 rfl (by omega) hx (by omega) (by omega) y1 (hX_σ1.fr y2 rfl) ((y2.l _ _ rfl).trans (qn_leq eσ1)) y3
        · skip
          have h42 := bI_f h42
          exact absurd (h42.symm.trans (q_in_ok (by omega) (by omega) (by decide))) (by decide)

