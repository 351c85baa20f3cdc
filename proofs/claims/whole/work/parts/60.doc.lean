/-! THE REFERENCE: DOCTORS -/
def q_bits : Nat → Nat → Nat
  | 0, _ => 0
  | f + 1, s => if s = 0 then 0 else q_bits f (s &&& (s - 1)) + 1
theorem q_andp {s : Nat} (h : 0 < s) : s &&& (s - 1) < s := Nat.lt_of_le_of_lt Nat.and_le_right (by omega)
theorem q_bits_f : ∀ (f f' s : Nat), s ≤ f → s ≤ f' → q_bits f s = q_bits f' s
  | 0, 0, _, _, _ => rfl
  | 0, f' + 1, s, h, _ => by
    unfold q_bits
    rw [if_pos (by omega)]
  | f + 1, 0, s, _, h => by
    unfold q_bits
    rw [if_pos (by omega)]
  | f + 1, f' + 1, s, h, h' => by
    unfold q_bits
    by_cases e : s = 0
    · rw [if_pos e, if_pos e]
    · rw [if_neg e, if_neg e]
      have := q_andp (s := s) (by omega)
      rw [q_bits_f f f' _ (by omega) (by omega)]
def q_bc (s : Nat) : Nat := q_bits s s
theorem l_bits {G : qx_G} {σ : qx_S} : ∀ (m s n : Nat), m = s → s < 100000 → n + s < 200000 →
    qx_K G qc_T 0 RX12 YX12_bits 4 [.retAddr 0, .int (nI n), .int (nI s)] [] σ (qr (nI (n + q_bits s s)) σ) := by
  intro m
  induction m using Nat.strongRecOn with
  | _ m ih =>
    intro s n hm hs hn
    rcases Nat.eq_zero_or_pos s with h0 | h0
    · subst h0
      refine qy_wp_ok (c := CX12_bits) (cuts := [4]) vX12_bits wX12_bits 2000 4 _ _ _ ?_
      refine And.intro (fun h5 => ?_) (fun h5 => ?_)
      · skip
        exact ⟨rfl, rfl⟩
      · skip
        exact absurd (by decide) h5
    · have ha := q_andp h0
      have e1 : n + q_bits s s = (n + 1) + q_bits (s &&& (s - 1)) (s &&& (s - 1)) := by
        have key : ∀ f, q_bits (f + 1) s = if s = 0 then 0 else q_bits f (s &&& (s - 1)) + 1 := fun f => rfl
        have k1 := key (s - 1)
        rw [Nat.sub_add_cancel h0, if_neg (by omega)] at k1
        rw [k1, q_bits_f (s - 1) (s &&& (s - 1)) _ (by omega) (Nat.le_refl _)]
        omega
      rw [e1]
      refine qy_wp_ok (c := CX12_bits) (cuts := [4]) vX12_bits wX12_bits 2000 4 _ _ _ ?_
      refine And.intro (fun h5 => ?_) (fun h5 => ?_)
      · skip
        have h5 := nI_eqT (a := s) (b := 0) (by omega) (by decide) h5
        exact absurd h5 (by omega)
      · skip
        have h5 := nI_neT (a := s) (b := 0) (by omega) (by decide) h5
        refine Exists.intro (nI (n + 1)) (And.intro (nI_add _ _) ?_)
        refine Exists.intro (nI 1) (And.intro rfl ?_)
        refine Exists.intro (nI (s - 1)) (And.intro (nI_sub (by omega)) ?_)
        refine Exists.intro (nI (s &&& (s - 1))) (And.intro (nI_and _ _) ?_)
        exact ih _ (by omega) _ (n + 1) rfl (by omega) (by omega)
theorem m_bits {G : qx_G} {σ : qx_S} {s : Nat} (hs : s < 100000) : qx_M G qc_T 0 YX12_bits [.int (nI s)] σ (qr (nI (q_bc s)) σ) := by
  refine qx_M_in rfl (Nat.le_of_ble_eq_true rfl) ?_
  refine qy_wp_ok (c := CX12_bits) (cuts := [4]) vX12_bits wX12_bits 2000 0 _ _ _ ?_
  refine Exists.intro (nI 0) (And.intro rfl ?_)
  refine qx_K_le (ls := [.retAddr 0, .int (nI 0), .int (nI s)]) ⟨Or.inl rfl, Or.inr rfl, Or.inr rfl, trivial⟩ ?_
  exact qx_K_mono (l_bits _ s 0 rfl hs (by omega)) (fun r s h => by rw [Nat.zero_add] at h; exact h)
/-- the bits of those places that serve a call at c -/
def q_or (f : Nat → Bool) : Nat → Nat → Nat → Nat
  | 0, _, s => s
  | m + 1, q, s => q_or f m (q + 1) (s ||| (if f q = true then 2 ^ q else 0))
theorem q_or_lt {f : Nat → Bool} {N : Nat} : ∀ (m q s : Nat), q + m ≤ N → s < 2 ^ N → q_or f m q s < 2 ^ N
  | 0, _, _, _, h => h
  | m + 1, q, s, hq, h => by
    refine q_or_lt m (q + 1) _ (by omega) ?_
    split
    · exact Nat.or_lt_two_pow h (Nat.pow_lt_pow_right (by decide) (by omega))
    · rw [Nat.or_zero]; exact h
def q_s1 (S : qS) (rf : Option qR) (c p q : Nat) : Bool := decide (S (10 + 5 * p + 3) = nI 1) || decide (q_lk S rf p (s_at S p) c < q_lk S rf p (s_at S p) q)
def q_s2 (S : qS) (rf : Option qR) (c : Nat) : Nat → Nat → Nat → Nat
  | 0, _, s => s
  | m + 1, p, s => q_s2 S rf c m (p + 1) (if s_at S p = c then q_or (q_s1 S rf c p) (s_n S 0) 0 s else s)
theorem q_s2_lt {S : qS} {rf : Option qR} {c : Nat} : ∀ (m p s : Nat), s < 2 ^ 8 → s_n S 0 ≤ 8 → q_s2 S rf c m p s < 2 ^ 8
  | 0, _, _, h, _ => h
  | m + 1, p, s, h, h8 => by
    refine q_s2_lt m (p + 1) _ ?_ h8
    split
    · exact q_or_lt _ _ _ (by omega) h
    · exact h
def q_sv (S : qS) (rf : Option qR) (c : Nat) : Nat := q_s2 S rf c (s_n S 1) 0 (2 ^ c)
theorem q_sv_lt {S : qS} {rf : Option qR} {c : Nat} (hc : c < 8) (h8 : s_n S 0 ≤ 8) : q_sv S rf c < 256 := q_s2_lt _ _ _ (Nat.pow_lt_pow_right (by decide) hc) h8
theorem l_sv2 {G : qx_G} {σ0 : qx_S} {S : qS} {rf : Option qR} (g : gS S) {c p : Nat} (hc : c < 8) (hp : p < s_n S 1) {Φ : qx_F} : ∀ (m q s : Nat) (σ : qx_S), m = s_n S 0 - q → q ≤ s_n S 0 → ql lE σ0 σ → mX σ S rf none →
    (∀ z, ql lE σ0 z → mX z S rf none → qx_K G qc_T 4 RX12 YX12_serving 85 [.ref 197, .int (nI c), .int (nI (q_or (q_s1 S rf c p) (s_n S 0 - q) q s)), .int (nI p), .retAddr 0] [] z Φ) →
    qx_K G qc_T 4 RX12 YX12_serving 31 [.ref 197, .int (nI c), .int (nI s), .int (nI p), .int (nI q)] [] σ Φ := by
  have h10 := g.2.1.2
  have h8 := g.1.2
  intro m
  induction m using Nat.strongRecOn with
  | _ m ih =>
    intro q s σ hm hq hf hX hcont
    rcases Nat.lt_or_ge q (s_n S 0) with hlt | hge
    · have e1 : s_n S 0 - q = (s_n S 0 - (q + 1)) + 1 := by omega
      rw [e1] at hcont
      have u1 : q_s1 S rf c p q = true → q_or (q_s1 S rf c p) (s_n S 0 - (q + 1) + 1) q s = q_or (q_s1 S rf c p) (s_n S 0 - (q + 1)) (q + 1) (s ||| 2 ^ q) := fun z => by show q_or _ _ _ (_ ||| (if _ then _ else _)) = _; rw [if_pos z]
      have u2 : q_s1 S rf c p q = false → q_or (q_s1 S rf c p) (s_n S 0 - (q + 1) + 1) q s = q_or (q_s1 S rf c p) (s_n S 0 - (q + 1)) (q + 1) (s ||| 0) := fun z => by show q_or _ _ _ (_ ||| (if _ then _ else _)) = _; rw [if_neg (by rw [z]; decide)]
      refine qy_wp_ok (c := CX12_serving) (cuts := [31, 85]) vX12_serving wX12_serving 2000 31 _ _ _ ?_
      refine And.intro rfl (Exists.intro 207 (And.intro rfl ?_))
      refine Exists.intro (nI 0) (And.intro rfl ?_)
      refine Exists.intro (0) (Exists.intro (nI (s_n S 0)) (And.intro rfl (And.intro ⟨2788, rfl, by decide, by decide⟩ (And.intro ((congrFun hX.1 0).trans g.1.1) ?_))))
      refine And.intro (fun h39 => ?_) (fun h39 => ?_)
      · skip
        have h39 := nI_leT (a := s_n S 0) (b := q) (by omega) (by omega) h39
        exact absurd h39 (by omega)
      · skip
        have h39 := nI_leF (a := s_n S 0) (b := q) (by omega) (by omega) h39
        refine Exists.intro (nI 3) (And.intro rfl ?_)
        refine And.intro rfl (Exists.intro _ (And.intro (by decide) (qx_M_mono (m_personOf (p := p) (k := 3) (by omega) (by omega) (congrFun hX.1 (10 + 5 * p + 3))) ?_)))
        rintro _ _ ⟨rfl, rfl⟩
        refine Exists.intro (nI 1) (And.intro rfl ?_)
        refine And.intro (fun h50 => ?_) (fun h50 => ?_)
        · skip
          refine Exists.intro (nI 1) (And.intro rfl ?_)
          refine Exists.intro (nI (2 ^ q)) (And.intro (nI_sh1 (by omega)) ?_)
          refine Exists.intro (nI (s ||| (2 ^ q))) (And.intro (nI_or _ _) ?_)
          refine Exists.intro (nI (q + 1)) (And.intro (nI_add _ _) ?_)
          first | (rw [u1 (by unfold q_s1; rw [decide_eq_true h50]; rfl)] at hcont; exact ih _ (by omega) (q + 1) _ _ rfl (by omega) hf hX hcont) | (rw [u1 (by unfold q_s1; rw [decide_eq_true (show q_lk S rf p (s_at S p) c < q_lk S rf p (s_at S p) q from Int32.not_le.mp h66), Bool.or_true])] at hcont; exact ih _ (by omega) (q + 1) _ _ rfl (by omega) hf hX hcont) | (rw [u2 (by unfold q_s1; rw [decide_eq_false h50, decide_eq_false (show ¬ q_lk S rf p (s_at S p) c < q_lk S rf p (s_at S p) q from Int32.not_lt.mpr h66)]; rfl)] at hcont; exact ih _ (by omega) (q + 1) _ _ rfl (by omega) hf hX hcont)
        · skip
          refine And.intro rfl (Exists.intro _ (And.intro (by decide) (qx_M_mono (m_likes (p := p) (a := s_at S p) (q := q) hX (by omega) (by omega) (g.2.2 p (by omega)).1) ?_)))
          rintro _ σ1 ⟨rfl, fσ1⟩
          have hf_σ1 : ql lE σ0 σ1 := hf.tr fσ1
          have hX_σ1 : mX σ1 S rf none := hX.fr fσ1 rfl
          refine And.intro rfl (Exists.intro _ (And.intro (by decide) (qx_M_mono (m_likes (p := p) (a := s_at S p) (q := c) hX_σ1 (by omega) (by omega) (g.2.2 p (by omega)).1) ?_)))
          rintro _ σ2 ⟨rfl, fσ2⟩
          have hf_σ2 : ql lE σ0 σ2 := hf_σ1.tr fσ2
          have hX_σ2 : mX σ2 S rf none := hX_σ1.fr fσ2 rfl
          refine And.intro (fun h66 => ?_) (fun h66 => ?_)
          · skip
            refine Exists.intro (nI 0) (And.intro rfl ?_)
            refine Exists.intro (nI (s ||| 0)) (And.intro (nI_or _ _) ?_)
            refine Exists.intro (nI (q + 1)) (And.intro (nI_add _ _) ?_)
            first | (rw [u1 (by unfold q_s1; rw [decide_eq_true h50]; rfl)] at hcont; exact ih _ (by omega) (q + 1) _ _ rfl (by omega) hf_σ2 hX_σ2 hcont) | (rw [u1 (by unfold q_s1; rw [decide_eq_true (show q_lk S rf p (s_at S p) c < q_lk S rf p (s_at S p) q from Int32.not_le.mp h66), Bool.or_true])] at hcont; exact ih _ (by omega) (q + 1) _ _ rfl (by omega) hf_σ2 hX_σ2 hcont) | (rw [u2 (by unfold q_s1; rw [decide_eq_false h50, decide_eq_false (show ¬ q_lk S rf p (s_at S p) c < q_lk S rf p (s_at S p) q from Int32.not_lt.mpr h66)]; rfl)] at hcont; exact ih _ (by omega) (q + 1) _ _ rfl (by omega) hf_σ2 hX_σ2 hcont)
          · skip
            refine Exists.intro (nI 1) (And.intro rfl ?_)
            refine Exists.intro (nI (2 ^ q)) (And.intro (nI_sh1 (by omega)) ?_)
            refine Exists.intro (nI (s ||| (2 ^ q))) (And.intro (nI_or _ _) ?_)
            refine Exists.intro (nI (q + 1)) (And.intro (nI_add _ _) ?_)
            first | (rw [u1 (by unfold q_s1; rw [decide_eq_true h50]; rfl)] at hcont; exact ih _ (by omega) (q + 1) _ _ rfl (by omega) hf_σ2 hX_σ2 hcont) | (rw [u1 (by unfold q_s1; rw [decide_eq_true (show q_lk S rf p (s_at S p) c < q_lk S rf p (s_at S p) q from Int32.not_le.mp h66), Bool.or_true])] at hcont; exact ih _ (by omega) (q + 1) _ _ rfl (by omega) hf_σ2 hX_σ2 hcont) | (rw [u2 (by unfold q_s1; rw [decide_eq_false h50, decide_eq_false (show ¬ q_lk S rf p (s_at S p) c < q_lk S rf p (s_at S p) q from Int32.not_lt.mpr h66)]; rfl)] at hcont; exact ih _ (by omega) (q + 1) _ _ rfl (by omega) hf_σ2 hX_σ2 hcont)
    · obtain rfl : q = s_n S 0 := by omega
      rw [Nat.sub_self] at hcont
      refine qy_wp_ok (c := CX12_serving) (cuts := [31, 85]) vX12_serving wX12_serving 2000 31 _ _ _ ?_
      refine And.intro rfl (Exists.intro 207 (And.intro rfl ?_))
      refine Exists.intro (nI 0) (And.intro rfl ?_)
      refine Exists.intro (0) (Exists.intro (nI (s_n S 0)) (And.intro rfl (And.intro ⟨2788, rfl, by decide, by decide⟩ (And.intro ((congrFun hX.1 0).trans g.1.1) ?_))))
      refine And.intro (fun h39 => ?_) (fun h39 => ?_)
      · skip
        have h39 := nI_leT (a := s_n S 0) (b := s_n S 0) (by omega) (by omega) h39
        refine qx_K_le (ls := [.ref 197, .int (nI c), .int (nI s), .int (nI p), .retAddr 0]) ⟨Or.inr rfl, Or.inr rfl, Or.inr rfl, Or.inr rfl, Or.inl rfl, trivial⟩ ?_
        exact hcont _ hf hX
      · skip
        have h39 := nI_leF (a := s_n S 0) (b := s_n S 0) (by omega) (by omega) h39
        exact absurd h39 (by omega)
theorem l_sv1 {G : qx_G} {σ0 : qx_S} {S : qS} {rf : Option qR} (g : gS S) {c : Nat} (hc : c < 8) : ∀ (m p s : Nat) (σ : qx_S), m = s_n S 1 - p → p ≤ s_n S 1 → ql lE σ0 σ → mX σ S rf none →
    qx_K G qc_T 4 RX12 YX12_serving 6 [.ref 197, .int (nI c), .int (nI s), .int (nI p), .retAddr 0] [] σ (fun r z => r = some (.int (nI (q_s2 S rf c (s_n S 1 - p) p s))) ∧ ql lE σ0 z) := by
  have h10 := g.2.1.2
  have h8 := g.1.2
  intro m
  induction m using Nat.strongRecOn with
  | _ m ih =>
    intro p s σ hm hp hf hX
    rcases Nat.lt_or_ge p (s_n S 1) with hlt | hge
    · have e1 : s_n S 1 - p = (s_n S 1 - (p + 1)) + 1 := by omega
      have hap : s_at S p < 8 := Nat.lt_of_lt_of_le (g.2.2 p hlt).2 h8
      have u1 : s_at S p = c → q_s2 S rf c (s_n S 1 - p) p s = q_s2 S rf c (s_n S 1 - (p + 1)) (p + 1) (q_or (q_s1 S rf c p) (s_n S 0) 0 s) := fun z => by rw [e1]; show q_s2 _ _ _ _ _ (if _ then _ else _) = _; rw [if_pos z]
      have u2 : ¬ s_at S p = c → q_s2 S rf c (s_n S 1 - p) p s = q_s2 S rf c (s_n S 1 - (p + 1)) (p + 1) s := fun z => by rw [e1]; show q_s2 _ _ _ _ _ (if _ then _ else _) = _; rw [if_neg z]
      refine qy_wp_ok (c := CX12_serving) (cuts := [6, 31]) vX12_serving wX12_serving 2000 6 _ _ _ ?_
      refine And.intro rfl (Exists.intro 207 (And.intro rfl ?_))
      refine Exists.intro (nI 1) (And.intro rfl ?_)
      refine Exists.intro (1) (Exists.intro (nI (s_n S 1)) (And.intro rfl (And.intro ⟨2788, rfl, by decide, by decide⟩ (And.intro ((congrFun hX.1 1).trans g.2.1.1) ?_))))
      refine And.intro (fun h13 => ?_) (fun h13 => ?_)
      · skip
        have h13 := nI_leT (a := s_n S 1) (b := p) (by omega) (by omega) h13
        exact absurd h13 (by omega)
      · skip
        have h13 := nI_leF (a := s_n S 1) (b := p) (by omega) (by omega) h13
        refine And.intro rfl (Exists.intro _ (And.intro (by decide) (qx_M_mono (m_at (p := p) (by omega) ((congrFun hX.1 _).trans (g.2.2 p (by omega)).1)) ?_)))
        rintro _ _ ⟨rfl, rfl⟩
        refine And.intro (fun h22 => ?_) (fun h22 => ?_)
        · skip
          have h22 := nI_eqT (a := s_at S p) (b := c) (by omega) (by omega) h22
          refine Exists.intro (nI 0) (And.intro rfl ?_)
          rw [u1 h22]; refine l_sv2 g hc hlt _ 0 s σ rfl (by omega) hf hX (fun z y1 y2 => ?_)
          refine qy_wp_ok (c := CX12_serving) (cuts := [6]) vX12_serving wX12_serving 2000 85 _ _ _ ?_
          refine Exists.intro (nI (p + 1)) (And.intro (nI_add _ _) ?_)
          exact ih _ (by omega) (p + 1) _ z rfl (by omega) y1 y2
        · skip
          have h22 := nI_neT (a := s_at S p) (b := c) (by omega) (by omega) h22
          refine Exists.intro (nI (p + 1)) (And.intro (nI_add _ _) ?_)
          rw [u2 h22]; exact ih _ (by omega) (p + 1) s _ rfl (by omega) hf hX
    · obtain rfl : p = s_n S 1 := by omega
      rw [Nat.sub_self]
      refine qy_wp_ok (c := CX12_serving) (cuts := [6, 31]) vX12_serving wX12_serving 2000 6 _ _ _ ?_
      refine And.intro rfl (Exists.intro 207 (And.intro rfl ?_))
      refine Exists.intro (nI 1) (And.intro rfl ?_)
      refine Exists.intro (1) (Exists.intro (nI (s_n S 1)) (And.intro rfl (And.intro ⟨2788, rfl, by decide, by decide⟩ (And.intro ((congrFun hX.1 1).trans g.2.1.1) ?_))))
      refine And.intro (fun h13 => ?_) (fun h13 => ?_)
      · skip
        have h13 := nI_leT (a := s_n S 1) (b := s_n S 1) (by omega) (by omega) h13
        exact ⟨rfl, hf⟩
      · skip
        have h13 := nI_leF (a := s_n S 1) (b := s_n S 1) (by omega) (by omega) h13
        exact absurd h13 (by omega)
theorem m_serving {G : qx_G} {σ : qx_S} {S : qS} {rf : Option qR} (hX : mX σ S rf none) (g : gS S) {c : Nat} (hc : c < 8) : qx_M G qc_T 4 YX12_serving [.ref 197, .int (nI c)] σ (fun r z => r = some (.int (nI (q_sv S rf c))) ∧ ql lE σ z) := by
  have hf : ql lE σ σ := qf.rf
  refine qx_M_in rfl (Nat.le_of_ble_eq_true rfl) ?_
  refine qy_wp_ok (c := CX12_serving) (cuts := [6]) vX12_serving wX12_serving 2000 0 _ _ _ ?_
  refine Exists.intro (nI 1) (And.intro rfl ?_)
  refine Exists.intro (nI (2 ^ c)) (And.intro (nI_sh1 (by omega)) ?_)
  refine Exists.intro (nI 0) (And.intro rfl ?_)
  exact l_sv1 g hc _ 0 (2 ^ c) σ rfl (by omega) qf.rf hX
/-- calls are at places -/
def iL (S : qS) : Prop := S 2 = nI (s_n S 2) ∧ s_n S 2 ≤ 8 ∧ ∀ c, c < s_n S 2 → S (140 + c) = nI (s_n S (140 + c)) ∧ s_n S (140 + c) < s_n S 0
abbrev lDo : List (Nat × Option Nat) := [(205, none), (206, none), (197, some 18), (225, none)]
theorem l_mc {G : qx_G} {σ0 : qx_S} {S : qS} {rf : Option qR} (g : gS S) (hL : iL S) : ∀ (m c : Nat) (σ : qx_S), m = s_n S 2 - c → c ≤ s_n S 2 → ql lDo σ0 σ → mX σ S rf none → (∀ i, i < c → qx_mi σ 225 i = nI (q_sv S rf (s_n S (140 + i)))) →
    qx_K G qc_T 5 RX12 YX12_marksCalls 2 [.ref 197, .int (nI c)] [] σ (fun r z => r = none ∧ ql lDo σ0 z ∧ mX z S rf none ∧ ∀ i, i < s_n S 2 → qx_mi z 225 i = nI (q_sv S rf (s_n S (140 + i)))) := by
  have h8 := g.1.2
  have l8 := hL.2.1
  intro m
  induction m using Nat.strongRecOn with
  | _ m ih =>
    intro c σ hm hc hf hX hj
    rcases Nat.lt_or_ge c (s_n S 2) with hlt | hge
    · obtain ⟨y1, y2⟩ := hL.2.2 c hlt
      refine qy_wp_ok (c := CX12_marksCalls) (cuts := [2]) vX12_marksCalls wX12_marksCalls 2000 2 _ _ _ ?_
      refine And.intro rfl (Exists.intro 207 (And.intro rfl ?_))
      refine Exists.intro (nI 2) (And.intro rfl ?_)
      refine Exists.intro (2) (Exists.intro (nI (s_n S 2)) (And.intro rfl (And.intro ⟨2788, rfl, by decide, by decide⟩ (And.intro ((congrFun hX.1 _).trans hL.1) ?_))))
      refine And.intro (fun h9 => ?_) (fun h9 => ?_)
      · skip
        have h9 := nI_leT (a := s_n S 2) (b := c) (by omega) (by omega) h9
        exact absurd h9 (by omega)
      · skip
        have h9 := nI_leF (a := s_n S 2) (b := c) (by omega) (by omega) h9
        refine And.intro rfl (Exists.intro 225 (And.intro rfl ?_))
        refine And.intro rfl (Exists.intro 207 (And.intro rfl ?_))
        refine Exists.intro (nI 140) (And.intro rfl ?_)
        refine Exists.intro (nI (140 + c)) (And.intro (nI_add _ _) ?_)
        refine Exists.intro (140 + c) (Exists.intro (nI (s_n S (140 + c))) (And.intro rfl (And.intro ⟨2788, rfl, by omega, by decide⟩ (And.intro ((congrFun hX.1 _).trans y1) ?_))))
        refine And.intro rfl (Exists.intro _ (And.intro (by decide) (qx_M_mono (m_serving hX g (by omega)) ?_)))
        rintro _ σ1 ⟨rfl, fσ1⟩
        have hf_σ1 : ql lDo σ0 σ1 := hf.tr (fσ1.mn rfl)
        have hX_σ1 : mX σ1 S rf none := hX.fr fσ1 rfl
        obtain ⟨σ2, eσ2⟩ : ∃ zs, zs = (qx_wi σ1 225 c (nI (q_sv S rf (s_n S (140 + c))))) := ⟨_, rfl⟩
        have fσ2 := qn_wi eσ2
        refine Exists.intro (c) (Exists.intro σ2 (And.intro rfl (And.intro ⟨8, rfl, by omega, by decide⟩ (And.intro eσ2.symm ?_))))
        have hf_σ2 : ql lDo σ0 σ2 := hf_σ1.tr (fσ2.mn rfl)
        have hX_σ2 : mX σ2 S rf none := hX_σ1.fr fσ2 rfl
        refine Exists.intro (nI (c + 1)) (And.intro (nI_add _ _) ?_)
        refine ih _ (by omega) (c + 1) _ rfl (by omega) hf_σ2 hX_σ2 (fun j h => ?_)
        rcases Nat.lt_or_ge j c with z | z
        · exact (qn_ne eσ2 (Or.inr (by omega))).trans ((fσ1.i _ _ rfl).trans (hj j z))
        · obtain rfl : j = c := by omega
          exact qn_eq eσ2
    · obtain rfl : c = s_n S 2 := by omega
      refine qy_wp_ok (c := CX12_marksCalls) (cuts := [2]) vX12_marksCalls wX12_marksCalls 2000 2 _ _ _ ?_
      refine And.intro rfl (Exists.intro 207 (And.intro rfl ?_))
      refine Exists.intro (nI 2) (And.intro rfl ?_)
      refine Exists.intro (2) (Exists.intro (nI (s_n S 2)) (And.intro rfl (And.intro ⟨2788, rfl, by decide, by decide⟩ (And.intro ((congrFun hX.1 _).trans hL.1) ?_))))
      refine And.intro (fun h9 => ?_) (fun h9 => ?_)
      · skip
        have h9 := nI_leT (a := s_n S 2) (b := s_n S 2) (by omega) (by omega) h9
        exact ⟨rfl, hf, hX, hj⟩
      · skip
        have h9 := nI_leF (a := s_n S 2) (b := s_n S 2) (by omega) (by omega) h9
        exact absurd h9 (by omega)
theorem m_marksCalls {G : qx_G} {σ : qx_S} {S : qS} {rf : Option qR} (hX : mX σ S rf none) (g : gS S) (hL : iL S) : qx_M G qc_T 5 YX12_marksCalls [.ref 197] σ (fun r z => r = none ∧ ql lDo σ z ∧ mX z S rf none ∧ ∀ i, i < s_n S 2 → qx_mi z 225 i = nI (q_sv S rf (s_n S (140 + i)))) := by
  have hf : ql lDo σ σ := qf.rf
  refine qx_M_in rfl (Nat.le_of_ble_eq_true rfl) ?_
  refine qy_wp_ok (c := CX12_marksCalls) (cuts := [2]) vX12_marksCalls wX12_marksCalls 2000 0 _ _ _ ?_
  refine Exists.intro (nI 0) (And.intro rfl ?_)
  exact l_mc g hL _ 0 σ rfl (by omega) qf.rf hX (fun i hi => absurd hi (by omega))
/-- how many of n calls are served -/
def q_so (v : Nat → Nat) (set : Nat) : Nat → Nat
  | 0 => 0
  | c + 1 => q_so v set c + (if v c &&& set = 0 then 0 else 1)
theorem q_so_le (v : Nat → Nat) (set : Nat) : ∀ n, q_so v set n ≤ n
  | 0 => Nat.le_refl _
  | n + 1 => by
    have := q_so_le v set n
    show _ + (if _ then _ else _) ≤ _
    split <;> omega
theorem l_so {G : qx_G} {σ : qx_S} {n : Nat} (e2 : qx_mi σ 207 2 = nI n) (hn : n ≤ 8) {v : Nat → Nat} (hv : ∀ i, i < n → qx_mi σ 225 i = nI (v i) ∧ v i < 256) {set : Nat} (hs : set < 256) : ∀ (m c : Nat), m = n - c → c ≤ n →
    qx_K G qc_T 0 RX12 YX12_servedOf 4 [.ref 197, .int (nI set), .int (nI (q_so v set c)), .int (nI c)] [] σ (qr (nI (q_so v set n)) σ) := by
  intro m
  induction m using Nat.strongRecOn with
  | _ m ih =>
    intro c hm hc
    rcases Nat.lt_or_ge c n with hlt | hge
    · obtain ⟨y1, y2⟩ := hv c hlt
      have hl : v c &&& set < 256 := Nat.lt_of_le_of_lt Nat.and_le_left y2
      have u1 : ¬ v c &&& set = 0 → q_so v set (c + 1) = q_so v set c + 1 := fun z => by show _ + (if _ then _ else _) = _; rw [if_neg z]
      have u2 : v c &&& set = 0 → q_so v set (c + 1) = q_so v set c + 0 := fun z => by show _ + (if _ then _ else _) = _; rw [if_pos z]
      refine qy_wp_ok (c := CX12_servedOf) (cuts := [4]) vX12_servedOf wX12_servedOf 2000 4 _ _ _ ?_
      refine And.intro rfl (Exists.intro 207 (And.intro rfl ?_))
      refine Exists.intro (nI 2) (And.intro rfl ?_)
      refine Exists.intro (2) (Exists.intro (nI n) (And.intro rfl (And.intro ⟨2788, rfl, by decide, by decide⟩ (And.intro e2 ?_))))
      refine And.intro (fun h11 => ?_) (fun h11 => ?_)
      · skip
        have h11 := nI_leT (a := n) (b := c) (by omega) (by omega) h11
        exact absurd h11 (by omega)
      · skip
        have h11 := nI_leF (a := n) (b := c) (by omega) (by omega) h11
        refine And.intro rfl (Exists.intro 225 (And.intro rfl ?_))
        refine Exists.intro (c) (Exists.intro (nI (v c)) (And.intro rfl (And.intro ⟨8, rfl, by omega, by decide⟩ (And.intro y1 ?_))))
        refine Exists.intro (nI ((v c) &&& set)) (And.intro (nI_and _ _) ?_)
        refine And.intro (fun h23 => ?_) (fun h23 => ?_)
        · skip
          have h23 := nI_eqT (a := (v c) &&& set) (b := 0) (by omega) (by decide) h23
          refine Exists.intro (nI 0) (And.intro rfl ?_)
          refine Exists.intro (nI (q_so v set c + 0)) (And.intro (nI_add _ _) ?_)
          refine Exists.intro (nI (c + 1)) (And.intro (nI_add _ _) ?_)
          first | (rw [← u1 h23]; exact ih _ (by omega) (c + 1) rfl (by omega)) | (rw [← u2 h23]; exact ih _ (by omega) (c + 1) rfl (by omega))
        · skip
          have h23 := nI_neT (a := (v c) &&& set) (b := 0) (by omega) (by decide) h23
          refine Exists.intro (nI 1) (And.intro rfl ?_)
          refine Exists.intro (nI (q_so v set c + 1)) (And.intro (nI_add _ _) ?_)
          refine Exists.intro (nI (c + 1)) (And.intro (nI_add _ _) ?_)
          first | (rw [← u1 h23]; exact ih _ (by omega) (c + 1) rfl (by omega)) | (rw [← u2 h23]; exact ih _ (by omega) (c + 1) rfl (by omega))
    · obtain rfl : c = n := by omega
      refine qy_wp_ok (c := CX12_servedOf) (cuts := [4]) vX12_servedOf wX12_servedOf 2000 4 _ _ _ ?_
      refine And.intro rfl (Exists.intro 207 (And.intro rfl ?_))
      refine Exists.intro (nI 2) (And.intro rfl ?_)
      refine Exists.intro (2) (Exists.intro (nI c) (And.intro rfl (And.intro ⟨2788, rfl, by decide, by decide⟩ (And.intro e2 ?_))))
      refine And.intro (fun h11 => ?_) (fun h11 => ?_)
      · skip
        have h11 := nI_leT (a := c) (b := c) (by omega) (by omega) h11
        exact ⟨rfl, rfl⟩
      · skip
        have h11 := nI_leF (a := c) (b := c) (by omega) (by omega) h11
        exact absurd h11 (by omega)
theorem m_servedOf {G : qx_G} {σ : qx_S} {n : Nat} (e2 : qx_mi σ 207 2 = nI n) (hn : n ≤ 8) {v : Nat → Nat} (hv : ∀ i, i < n → qx_mi σ 225 i = nI (v i) ∧ v i < 256) {set : Nat} (hs : set < 256) : qx_M G qc_T 0 YX12_servedOf [.ref 197, .int (nI set)] σ (qr (nI (q_so v set n)) σ) := by
  refine qx_M_in rfl (Nat.le_of_ble_eq_true rfl) ?_
  refine qy_wp_ok (c := CX12_servedOf) (cuts := [4]) vX12_servedOf wX12_servedOf 2000 0 _ _ _ ?_
  refine Exists.intro (nI 0) (And.intro rfl ?_)
  refine Exists.intro (nI 0) (And.intro rfl ?_)
  exact l_so e2 hn hv hs _ 0 rfl (by omega)
/-- calls served by a set of places -/
def q_sf (S : qS) (rf : Option qR) (set : Nat) : Nat := q_so (fun c => q_sv S rf (s_n S (140 + c))) set (s_n S 2)
theorem m_served_no {G : qx_G} {σ : qx_S} {S : qS} (hS : qx_mi σ 207 = S) {pl : Nat} (e0 : S 0 = nI pl) (h0 : pl ≤ 8) {x : Int32} (hb : (decide (0 < pl) && q_is x (2 ^ pl)) = false) : qx_M G qc_T 6 YX12_served [.ref 197, .int x] σ (qr (-1) σ) := by
  refine qx_M_in rfl (Nat.le_of_ble_eq_true rfl) ?_
  refine qy_wp_ok (c := CX12_served) (cuts := []) vX12_served wX12_served 2000 0 _ _ _ ?_
  refine And.intro rfl (Exists.intro _ (And.intro (by decide) (qx_M_mono (m_isCountry hS e0 h0) ?_)))
  rintro _ _ ⟨rfl, rfl⟩
  refine And.intro (fun h4 => ?_) (fun h4 => ?_)
  · skip
    have h4 := bI_f h4
    refine Exists.intro ((-1)) (And.intro (by decide) ?_)
    exact ⟨rfl, rfl⟩
  · skip
    have h4 := bI_t h4
    refine And.intro (fun h8 => ?_) (fun h8 => ?_)
    · skip
      refine Exists.intro ((-1)) (And.intro (by decide) ?_)
      exact ⟨rfl, rfl⟩
    · skip
      refine Exists.intro (nI 1) (And.intro rfl ?_)
      refine And.intro rfl (Exists.intro 207 (And.intro rfl ?_))
      refine Exists.intro (nI 0) (And.intro rfl ?_)
      refine Exists.intro (0) (Exists.intro (nI pl) (And.intro rfl (And.intro ⟨2788, rfl, by decide, by decide⟩ (And.intro ((congrFun hS 0).trans e0) ?_))))
      refine Exists.intro (nI (2 ^ pl)) (And.intro (nI_sh1 (by omega)) ?_)
      refine And.intro (fun h20 => ?_) (fun h20 => ?_)
      · skip
        exfalso; rw [h4, show q_is x (2 ^ pl) = true from by unfold q_is; rw [decide_eq_true (Int32.not_lt.mp h8), decide_eq_true h20]; rfl] at hb; cases hb
      · skip
        refine Exists.intro ((-1)) (And.intro (by decide) ?_)
        exact ⟨rfl, rfl⟩
theorem m_served_ok {G : qx_G} {σ : qx_S} {S : qS} {rf : Option qR} (hX : mX σ S rf none) (g : gS S) (hL : iL S) (hc : 0 < s_n S 0) {x : Nat} (hx : x < 2 ^ s_n S 0) : qx_M G qc_T 6 YX12_served [.ref 197, .int (nI x)] σ (fun r z => r = some (.int (nI (q_sf S rf x))) ∧ ql lDo σ z) := by
  have hS := hX.1
  have g8 := g.1.2
  have l8 := hL.2.1
  have h256 : 2 ^ s_n S 0 ≤ 256 := Nat.pow_le_pow_right (by decide) g8
  have hf : ql lDo σ σ := qf.rf
  refine qx_M_in rfl (Nat.le_of_ble_eq_true rfl) ?_
  refine qy_wp_ok (c := CX12_served) (cuts := []) vX12_served wX12_served 2000 0 _ _ _ ?_
  refine And.intro rfl (Exists.intro _ (And.intro (by decide) (qx_M_mono (m_isCountry hS g.1.1 g.1.2) ?_)))
  rintro _ _ ⟨rfl, rfl⟩
  refine And.intro (fun h4 => ?_) (fun h4 => ?_)
  · skip
    have h4 := bI_f h4
    exact absurd (h4.symm.trans (decide_eq_true hc)) (by decide)
  · skip
    have h4 := bI_t h4
    refine And.intro (fun h8 => ?_) (fun h8 => ?_)
    · skip
      have h8 := nI_ltT (a := x) (b := 0) (by omega) (by decide) h8
      exact absurd h8 (by omega)
    · skip
      have h8 := nI_ltF (a := x) (b := 0) (by omega) (by decide) h8
      refine Exists.intro (nI 1) (And.intro rfl ?_)
      refine And.intro rfl (Exists.intro 207 (And.intro rfl ?_))
      refine Exists.intro (nI 0) (And.intro rfl ?_)
      refine Exists.intro (0) (Exists.intro (nI (s_n S 0)) (And.intro rfl (And.intro ⟨2788, rfl, by decide, by decide⟩ (And.intro ((congrFun hX.1 0).trans g.1.1) ?_))))
      refine Exists.intro (nI (2 ^ (s_n S 0))) (And.intro (nI_sh1 (by omega)) ?_)
      refine And.intro (fun h20 => ?_) (fun h20 => ?_)
      · skip
        have h20 := nI_ltT (a := x) (b := 2 ^ (s_n S 0)) (by omega) (by omega) h20
        refine And.intro rfl (Exists.intro _ (And.intro (by decide) (qx_M_mono (m_marksCalls hX g hL) ?_)))
        rintro _ σ1 ⟨rfl, fσ1, aσ1, bσ1⟩
        have hf_σ1 : ql lDo σ σ1 := hf.tr (fσ1.mn rfl)
        have hX_σ1 : mX σ1 S rf none := hX.fr fσ1 rfl
        refine And.intro rfl (Exists.intro _ (And.intro (by decide) (qx_M_mono (m_servedOf (v := fun c => q_sv S rf (s_n S (140 + c))) ((congrFun aσ1.1 2).trans hL.1) l8 (fun i hi => ⟨bσ1 i hi, q_sv_lt (Nat.lt_of_lt_of_le (hL.2.2 i hi).2 g8) g8⟩) (by omega)) ?_)))
        rintro _ _ ⟨rfl, rfl⟩
        exact ⟨rfl, fσ1⟩
      · skip
        have h20 := nI_ltF (a := x) (b := 2 ^ (s_n S 0)) (by omega) (by omega) h20
        exact absurd h20 (by omega)

