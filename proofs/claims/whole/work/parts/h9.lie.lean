/-! THE CLASS: lies -/
def cLi (σ : qx_S) (A : Nat) (S : qS) (rf : Option qR) (e w : Nat) : Prop := ∀ p, p < 10 → ∃ el, qx_mi σ (A + 4) p = nI el ∧ el ≤ e ∧ (p < s_n S 1 → el = e → qx_mi σ (A + 3) p = q_gb S rf w p)
theorem cLi.fr {σ s : qx_S} {A : Nat} {S : qS} {rf : Option qR} {e w : Nat} {l : List (Nat × Option Nat)} (h : cLi σ A S rf e w) (f : ql l σ s) (h1 : ∀ j, pL l (A + 3) j = false) (h2 : ∀ j, pL l (A + 4) j = false) : cLi s A S rf e w := fun p hp => by
  obtain ⟨el, a, b, c⟩ := h p hp
  exact ⟨el, (f.i _ _ (h2 _)).trans a, b, fun z y => (f.i _ _ (h1 _)).trans (c z y)⟩
def wI160 (σ : qx_S) (S : qS) (rf : Option qR) (e : Nat) : Prop := cI σ S rf e ∧ cUb σ S rf e ∧ cMt σ
def wI174 (σ : qx_S) (S : qS) (rf : Option qR) (e : Nat) : Prop := cI σ S rf e ∧ True ∧ True
abbrev kLi160 : List (Nat × Option Nat) := (162, none) :: (163, none) :: (164, none) :: kMo
abbrev kLi174 : List (Nat × Option Nat) := (176, none) :: (177, none) :: (178, none) :: kCo
def eE160 (σ : qx_S) : Prop := qx_mi σ 160 17 = nI 2 ∧ qx_mi σ 160 18 = nI 0
def eE174 (_ : qx_S) : Prop := True
theorem wI160.fr {σ s : qx_S} {S : qS} {rf : Option qR} {e : Nat} {x : Nat} (h : wI160 σ S rf e) (f : ql [(x, none)] σ s) (hx : x = 162 ∨ x = 163 ∨ x = 164) : wI160 s S rf e := by
  rcases hx with z | z | z <;> subst z
  · exact ⟨h.1.fr f rfl rfl, h.2.1.fr f (fun _ => rfl) (fun _ => rfl), h.2.2.fr f (fun _ => rfl) (fun _ => rfl) rfl rfl⟩
  · exact ⟨h.1.fr f rfl rfl, h.2.1.fr f (fun _ => rfl) (fun _ => rfl), h.2.2.fr f (fun _ => rfl) (fun _ => rfl) rfl rfl⟩
  · exact ⟨h.1.fr f rfl rfl, h.2.1.fr f (fun _ => rfl) (fun _ => rfl), h.2.2.fr f (fun _ => rfl) (fun _ => rfl) rfl rfl⟩
theorem wI174.fr {σ s : qx_S} {S : qS} {rf : Option qR} {e : Nat} {x : Nat} (h : wI174 σ S rf e) (f : ql [(x, none)] σ s) (hx : x = 176 ∨ x = 177 ∨ x = 178) : wI174 s S rf e := by
  rcases hx with z | z | z <;> subst z
  · exact ⟨h.1.fr f rfl rfl, trivial, trivial⟩
  · exact ⟨h.1.fr f rfl rfl, trivial, trivial⟩
  · exact ⟨h.1.fr f rfl rfl, trivial, trivial⟩
theorem eE160.fr {σ s : qx_S} {x : Nat} (h : eE160 σ) (f : ql [(x, none)] σ s) (hx : x = 162 ∨ x = 163 ∨ x = 164) : eE160 s := by
  rcases hx with z | z | z <;> subst z <;> exact ⟨(f.i _ _ rfl).trans h.1, (f.i _ _ rfl).trans h.2⟩
theorem eE174.fr {σ s : qx_S} {x : Nat} (_ : eE174 σ) (_ : ql [(x, none)] σ s) (_ : x = 176 ∨ x = 177 ∨ x = 178) : eE174 s := trivial
theorem c_ws160 {G : qx_G} {σ : qx_S} {S : qS} {rf : Option qR} {ly : Option (Nat × Nat)} {e L : Nat} (hW : wI160 σ S rf e) (hL : L = 187 ∨ L = 162) (hs : qx_sh qc_T σ L = (0, 80)) (hA : lkA σ L S rf ly) : qx_M G qc_T 7 YX3_settle [.ref 160, .ref L, .int (nI 2)] σ (fun r s => r = none ∧ ql kMo σ s ∧ wI160 s S rf e ∧ eE160 s ∧ ∀ i, i < s_n S 1 → qx_mi s 161 i = nI (q_tk S rf ly 2 i)) := qx_M_mono (c_mostSettle (by decide) (by decide) hW.1 hW.2.1 hW.2.2 (by omega) hs hA) (fun r s h => ⟨h.1, h.2.1, ⟨h.2.2.1, h.2.2.2.1, h.2.2.2.2.1⟩, ⟨h.2.2.2.2.2.2.2.1, h.2.2.2.2.2.2.2.2⟩, h.2.2.2.2.2.2.1⟩)
theorem c_ws174 {G : qx_G} {σ : qx_S} {S : qS} {rf : Option qR} {ly : Option (Nat × Nat)} {e L : Nat} (hW : wI174 σ S rf e) (hL : L = 187 ∨ L = 176) (hs : qx_sh qc_T σ L = (0, 80)) (hA : lkA σ L S rf ly) : qx_M G qc_T 1 YX0_settle [.ref 174, .ref L, .int (nI 2)] σ (fun r s => r = none ∧ ql kCo σ s ∧ wI174 s S rf e ∧ eE174 s ∧ ∀ i, i < s_n S 1 → qx_mi s 175 i = nI (q_ct S rf ly i)) := qx_M_mono (c_coreSettle hW.1 (by omega) hs hA) (fun r s h => ⟨h.1, h.2.1, ⟨hW.1.fr h.2.1 rfl rfl, trivial, trivial⟩, trivial, h.2.2⟩)
theorem l_li2160 {G : qx_G} {σ0 : qx_S} {S : qS} {rf : Option qR} {e p pc : Nat} {tr : Int32} (hp : p < s_n S 1) (hpc : pc < 8) {Φ : qx_F} (key : ∀ s, wI160 s S rf e → lkA s 162 S rf (some (p, pc)) → ql [(162, none)] σ0 s → qx_K G qc_T 8 RX10 YX10_lieOf 157 [.ref 160, .int (nI p), .ref 187, .int (nI (p * 8)), .int tr, .int (nI pc), .retAddr 0] [] s Φ) : ∀ (m k : Nat) (σ : qx_S), m + k = s_n S 0 → wI160 σ S rf e → ql [(162, none)] σ0 σ → (∀ p' q, p' < s_n S 1 → p' ≠ p → q < s_n S 0 → qx_mi σ 162 (p' * 8 + q) = q_lk S rf p' (s_at S p') q) → (∀ q, q < k → qx_mi σ 162 (p * 8 + q) = if q = pc then nI 999 else nI 0) → qx_K G qc_T 8 RX10 YX10_lieOf 113 [.ref 160, .int (nI p), .ref 187, .int (nI (p * 8)), .int tr, .int (nI pc), .int (nI k)] [] σ Φ := by
  intro m
  induction m with
  | zero =>
    intro k σ hm hW hf hO hR
    have hpl := hW.1.1.pl
    have e4 := hW.1.2.1.1.1.trans hW.1.1.1.2.1.1.1
    rw [show k = s_n S 0 by omega] at hR ⊢
    refine qy_wp_ok (c := CX10_lieOf) (cuts := [113, 157]) vX10_lieOf wX10_lieOf 2000 113 _ _ _ ?_
    refine And.intro rfl (Exists.intro 156 (And.intro rfl ?_))
    refine And.intro rfl (Exists.intro 16 (And.intro rfl ?_))
    refine And.intro rfl (Exists.intro 4 (Exists.intro (nI (s_n S 0)) (And.intro rfl (And.intro e4 ?_))))
    refine And.intro (fun h125 => ?_) (fun h125 => ?_)
    · skip
      have h125 := nI_leT (a := s_n S 0) (b := s_n S 0) (by omega) (by omega) h125
      refine qx_K_le (ls := [.ref 160, .int (nI p), .ref 187, .int (nI (p * 8)), .int tr, .int (nI pc), .retAddr 0]) ⟨Or.inr rfl, Or.inr rfl, Or.inr rfl, Or.inr rfl, Or.inr rfl, Or.inr rfl, Or.inl rfl, trivial⟩ ?_
      refine key _ hW (fun p' q hp' hq => ?_) hf
      show _ = if p' = p then (if q = pc then nI 999 else nI 0) else q_lk S rf p' (s_at S p') q
      by_cases z : p' = p
      · rw [if_pos z, z]; exact hR q hq
      · rw [if_neg z]; exact hO p' q hp' z hq
    · skip
      have h125 := nI_leF (a := s_n S 0) (b := s_n S 0) (by omega) (by omega) h125
      exact absurd h125 (by omega)
  | succ m ih =>
    intro k σ hm hW hf hO hR
    have hpl := hW.1.1.pl
    have hpe := hW.1.1.pe
    have e4 := hW.1.2.1.1.1.trans hW.1.1.1.2.1.1.1
    have st : ∀ s v, s = qx_wi σ 162 (p * 8 + k) v → v = (if k = pc then nI 999 else nI 0) → qx_K G qc_T 8 RX10 YX10_lieOf 113 [.ref 160, .int (nI p), .ref 187, .int (nI (p * 8)), .int tr, .int (nI pc), .int (nI (k + 1))] [] s Φ := by
      intro s v es hv
      have f := qn_wi es
      refine ih (k + 1) s (by omega) (hW.fr f (by decide)) (hf.tr f) (fun p' q hp' hne hq => (qn_ne es (Or.inr (by omega))).trans (hO p' q hp' hne hq)) (fun q hq => ?_)
      by_cases z : q = k
      · rw [z, ← hv]; exact qn_eq es
      · exact (qn_ne es (Or.inr (by omega))).trans (hR q (by omega))
    refine qy_wp_ok (c := CX10_lieOf) (cuts := [113, 157]) vX10_lieOf wX10_lieOf 2000 113 _ _ _ ?_
    refine And.intro rfl (Exists.intro 156 (And.intro rfl ?_))
    refine And.intro rfl (Exists.intro 16 (And.intro rfl ?_))
    refine And.intro rfl (Exists.intro 4 (Exists.intro (nI (s_n S 0)) (And.intro rfl (And.intro e4 ?_))))
    refine And.intro (fun h125 => ?_) (fun h125 => ?_)
    · skip
      have h125 := nI_leT (a := s_n S 0) (b := k) (by omega) (by omega) h125
      exact absurd h125 (by omega)
    · skip
      have h125 := nI_leF (a := s_n S 0) (b := k) (by omega) (by omega) h125
      refine And.intro rfl (Exists.intro 162 (And.intro rfl ?_))
      refine Exists.intro (nI (p * 8 + k)) (And.intro (nI_add _ _) ?_)
      refine And.intro (fun h140 => ?_) (fun h140 => ?_)
      · skip
        have h140 := nI_neT (a := k) (b := pc) (by omega) (by omega) h140
        refine Exists.intro (nI 0) (And.intro rfl ?_)
        obtain ⟨σ1, eσ1⟩ : ∃ zs, zs = (qx_wi σ 162 (p * 8 + k) (nI 0)) := ⟨_, rfl⟩
        have fσ1 := qn_wi eσ1
        refine Exists.intro (p * 8 + k) (Exists.intro σ1 (And.intro rfl (And.intro ⟨80, rfl, by omega, by decide⟩ (And.intro eσ1.symm ?_))))
        refine Exists.intro (nI (k + 1)) (And.intro (nI_add _ _) ?_)
        first | exact st _ _ eσ1 (if_neg h140).symm | exact st _ _ eσ1 (if_pos h140).symm
      · skip
        have h140 := nI_eqT (a := k) (b := pc) (by omega) (by omega) h140
        refine Exists.intro (nI 999) (And.intro rfl ?_)
        obtain ⟨σ1, eσ1⟩ : ∃ zs, zs = (qx_wi σ 162 (p * 8 + k) (nI 999)) := ⟨_, rfl⟩
        have fσ1 := qn_wi eσ1
        refine Exists.intro (p * 8 + k) (Exists.intro σ1 (And.intro rfl (And.intro ⟨80, rfl, by omega, by decide⟩ (And.intro eσ1.symm ?_))))
        refine Exists.intro (nI (k + 1)) (And.intro (nI_add _ _) ?_)
        first | exact st _ _ eσ1 (if_pos h140).symm | exact st _ _ eσ1 (if_neg h140).symm
theorem l_li1160 {G : qx_G} {σ0 : qx_S} {S : qS} {rf : Option qR} {e p : Nat} {tr : Int32} (hp : p < s_n S 1) : ∀ (m q : Nat) (σ : qx_S), m + q = s_n S 0 → wI160 σ S rf e → eE160 σ → lkA σ 187 S rf none → ql kLi160 σ0 σ → (∀ p' q, p' < s_n S 1 → p' ≠ p → q < s_n S 0 → qx_mi σ 162 (p' * 8 + q) = q_lk S rf p' (s_at S p') q) → qx_mi σ 163 p = (-2) → (∀ j, j ≠ p → qx_mi σ 163 j = qx_mi σ0 163 j) → (∀ j, qx_mi σ 164 j = qx_mi σ0 164 j) → qx_K G qc_T 8 RX10 YX10_lieOf 84 [.ref 160, .int (nI p), .ref 187, .int (nI (p * 8)), .int tr, .int (nI q), .retAddr 0] [] σ (fun r s => r = some (.int (q_gbc S rf 0 p tr m q)) ∧ ql kLi160 σ0 s ∧ wI160 s S rf e ∧ eE160 s ∧ qx_mi s 163 p = q_gbc S rf 0 p tr m q ∧ (∀ j, j ≠ p → qx_mi s 163 j = qx_mi σ0 163 j) ∧ ∀ j, qx_mi s 164 j = qx_mi σ0 164 j) := by
  intro m
  induction m with
  | zero =>
    intro q σ hm hW hE hA hf hO hL hj hk
    have hpl := hW.1.1.pl
    have hpe := hW.1.1.pe
    have e4 := hW.1.2.1.1.1.trans hW.1.1.1.2.1.1.1
    rw [show q = s_n S 0 by omega]
    refine qy_wp_ok (c := CX10_lieOf) (cuts := [84, 113]) vX10_lieOf wX10_lieOf 2000 84 _ _ _ ?_
    refine And.intro rfl (Exists.intro 156 (And.intro rfl ?_))
    refine And.intro rfl (Exists.intro 16 (And.intro rfl ?_))
    refine And.intro rfl (Exists.intro 4 (Exists.intro (nI (s_n S 0)) (And.intro rfl (And.intro e4 ?_))))
    refine And.intro (fun h96 => ?_) (fun h96 => ?_)
    · skip
      have h96 := nI_leT (a := s_n S 0) (b := s_n S 0) (by omega) (by omega) h96
      refine And.intro rfl (Exists.intro 163 (And.intro rfl ?_))
      refine Exists.intro (p) (Exists.intro (-2) (And.intro rfl (And.intro ⟨10, rfl, by omega, by decide⟩ (And.intro hL ?_))))
      exact ⟨rfl, hf, hW, hE, hL, hj, hk⟩
    · skip
      have h96 := nI_leF (a := s_n S 0) (b := s_n S 0) (by omega) (by omega) h96
      exact absurd h96 (by omega)
  | succ m ih =>
    intro q σ hm hW hE hA hf hO hL hj hk
    have hpl := hW.1.1.pl
    have hpe := hW.1.1.pe
    have e4 := hW.1.2.1.1.1.trans hW.1.1.1.2.1.1.1
    have hq : q < s_n S 0 := by omega
    have done : ∀ s, wI160 s S rf e → eE160 s → ql kLi160 σ0 s → qx_mi s 163 p = nI q → (∀ j, j ≠ p → qx_mi s 163 j = qx_mi σ0 163 j) → (∀ j, qx_mi s 164 j = qx_mi σ0 164 j) → tr < q_lk S rf p (s_at S p) (q_cby S rf (some (p, q)) 0 p) → qx_K G qc_T 8 RX10 YX10_lieOf 84 [.ref 160, .int (nI p), .ref 187, .int (nI (p * 8)), .int tr, .int (nI (q + 1)), .retAddr 0] [] s (fun r s => r = some (.int (q_gbc S rf 0 p tr (m + 1) q)) ∧ ql kLi160 σ0 s ∧ wI160 s S rf e ∧ eE160 s ∧ qx_mi s 163 p = q_gbc S rf 0 p tr (m + 1) q ∧ (∀ j, j ≠ p → qx_mi s 163 j = qx_mi σ0 163 j) ∧ ∀ j, qx_mi s 164 j = qx_mi σ0 164 j) := by
      intro s w1 w2 w3 w4 w5 w6 w7
      have ev : q_gbc S rf 0 p tr (m + 1) q = nI q := by
        show (if tr < q_lk S rf p (s_at S p) (q_cby S rf (some (p, q)) 0 p) then nI q else _) = _
        rw [if_pos w7]
      rw [ev]
      have f4 := w1.1.2.1.1.1.trans w1.1.1.1.2.1.1.1
      have nn : ¬ nI q = (-2) := fun z => by
        have := congrArg Int32.toInt z
        rw [nI_toInt (by omega), show (-2 : Int32).toInt = -2 by decide] at this
        omega
      refine qy_wp_ok (c := CX10_lieOf) (cuts := [84, 113]) vX10_lieOf wX10_lieOf 2000 84 _ _ _ ?_
      refine And.intro rfl (Exists.intro 156 (And.intro rfl ?_))
      refine And.intro rfl (Exists.intro 16 (And.intro rfl ?_))
      refine And.intro rfl (Exists.intro 4 (Exists.intro (nI (s_n S 0)) (And.intro rfl (And.intro f4 ?_))))
      refine And.intro (fun h96 => ?_) (fun h96 => ?_)
      · skip
        have h96 := nI_leT (a := s_n S 0) (b := q + 1) (by omega) (by omega) h96
        refine And.intro rfl (Exists.intro 163 (And.intro rfl ?_))
        refine Exists.intro (p) (Exists.intro (nI q) (And.intro rfl (And.intro ⟨10, rfl, by omega, by decide⟩ (And.intro w4 ?_))))
        exact ⟨rfl, w3, w1, w2, w4, w5, w6⟩
      · skip
        have h96 := nI_leF (a := s_n S 0) (b := q + 1) (by omega) (by omega) h96
        refine And.intro rfl (Exists.intro 163 (And.intro rfl ?_))
        refine Exists.intro (p) (Exists.intro (nI q) (And.intro rfl (And.intro ⟨10, rfl, by omega, by decide⟩ (And.intro w4 ?_))))
        refine Exists.intro ((-2)) (And.intro (by decide) ?_)
        refine And.intro (fun h107 => ?_) (fun h107 => ?_)
        · skip
          refine And.intro rfl (Exists.intro 163 (And.intro rfl ?_))
          refine Exists.intro (p) (Exists.intro (nI q) (And.intro rfl (And.intro ⟨10, rfl, by omega, by decide⟩ (And.intro w4 ?_))))
          exact ⟨rfl, w3, w1, w2, w4, w5, w6⟩
        · skip
          exact absurd h107 nn
    have k157 : ∀ s, wI160 s S rf e → lkA s 162 S rf (some (p, q)) → ql [(162, none)] σ s → qx_K G qc_T 8 RX10 YX10_lieOf 157 [.ref 160, .int (nI p), .ref 187, .int (nI (p * 8)), .int tr, .int (nI q), .retAddr 0] [] s (fun r s => r = some (.int (q_gbc S rf 0 p tr (m + 1) q)) ∧ ql kLi160 σ0 s ∧ wI160 s S rf e ∧ eE160 s ∧ qx_mi s 163 p = q_gbc S rf 0 p tr (m + 1) q ∧ (∀ j, j ≠ p → qx_mi s 163 j = qx_mi σ0 163 j) ∧ ∀ j, qx_mi s 164 j = qx_mi σ0 164 j) := by
      intro s w1 w2 f1
      have tl : ∀ i, i < s_n S 1 → q_tk S rf (some (p, q)) 2 i < s_n S 1 := q_tk_lt hpe
      obtain ⟨x, ex⟩ : ∃ x, x = s_at S (q_tk S rf (some (p, q)) 2 p) := ⟨_, rfl⟩
      have xl : x < s_n S 0 := by rw [ex]; exact (hW.1.1.1.2.1.2.2 _ (tl p hp)).2
      have ec : q_cby S rf (some (p, q)) 0 p = x := by rw [ex]; rfl
      have ct : ∀ s', cI s' S rf e → qx_mi s' 161 p = nI (q_tk S rf (some (p, q)) 2 p) → qx_M G qc_T 0 YX10_comesTo [.ref 160, .int (nI p)] s' (qr (nI x) s') := fun s' a b => by rw [ex]; exact c_comesTo160 a hp b (tl p hp)
      have no : ¬ tr < q_lk S rf p (s_at S p) x → q_gbc S rf 0 p tr (m + 1) q = q_gbc S rf 0 p tr m (q + 1) := fun h => by
        show (if tr < q_lk S rf p (s_at S p) (q_cby S rf (some (p, q)) 0 p) then nI q else _) = _
        rw [ec, if_neg h]
      have a2 : ∀ s', ql kMo s s' → lkA s' 187 S rf none ∧ ql kLi160 σ0 s' ∧ (∀ p' q, p' < s_n S 1 → p' ≠ p → q < s_n S 0 → qx_mi s' 162 (p' * 8 + q) = q_lk S rf p' (s_at S p') q) ∧ qx_mi s' 163 p = (-2) ∧ (∀ j, j ≠ p → qx_mi s' 163 j = qx_mi σ0 163 j) ∧ ∀ j, qx_mi s' 164 j = qx_mi σ0 164 j := fun s' f2 => ⟨(hA.fr f1 (fun _ => rfl)).fr f2 (fun _ => rfl), hf.tr ((f1.mn rfl).tr (f2.mn rfl)), fun p' q' h1 h2 h3 => (f2.i _ _ rfl).trans ((w2 p' q' h1 h3).trans (by show (if p' = p then _ else _) = _; rw [if_neg h2])), (f2.i _ _ rfl).trans ((f1.i _ _ rfl).trans hL), fun j h => (f2.i _ _ rfl).trans ((f1.i _ _ rfl).trans (hj j h)), fun j => (f2.i _ _ rfl).trans ((f1.i _ _ rfl).trans (hk j))⟩
      have tk : ∀ s' s'', ql kMo s s' → wI160 s' S rf e → eE160 s' → s'' = qx_wi s' 163 p (nI q) → tr < q_lk S rf p (s_at S p) x → qx_K G qc_T 8 RX10 YX10_lieOf 84 [.ref 160, .int (nI p), .ref 187, .int (nI (p * 8)), .int tr, .int (nI (q + 1)), .retAddr 0] [] s'' (fun r s => r = some (.int (q_gbc S rf 0 p tr (m + 1) q)) ∧ ql kLi160 σ0 s ∧ wI160 s S rf e ∧ eE160 s ∧ qx_mi s 163 p = q_gbc S rf 0 p tr (m + 1) q ∧ (∀ j, j ≠ p → qx_mi s 163 j = qx_mi σ0 163 j) ∧ ∀ j, qx_mi s 164 j = qx_mi σ0 164 j) := by
        intro s' s'' f2 y1 y2 es hlt
        have f3 := qn_wi es
        obtain ⟨b1, b2, b3, b4, b5, b6⟩ := a2 s' f2
        exact done s'' (y1.fr f3 (by decide)) (y2.fr f3 (by decide)) (b2.tr (f3.mn rfl)) (qn_eq es) (fun j h => (qn_ne es (Or.inr h)).trans (b5 j h)) (fun j => (f3.i _ _ rfl).trans (b6 j)) (by rw [ec]; exact hlt)
      refine qy_wp_ok (c := CX10_lieOf) (cuts := [84]) vX10_lieOf wX10_lieOf 2000 157 _ _ _ ?_
      refine And.intro rfl (Exists.intro 162 (And.intro rfl ?_))
      refine Exists.intro (nI 2) (And.intro rfl ?_)
      refine Or.inr (And.intro rfl (Exists.intro _ (And.intro (by decide) (qx_M_mono (c_ws160 w1 (by decide) rfl w2) ?_))))
      rintro _ ρ ⟨rfl, fρ, wρ, xρ, tρ⟩
      refine Or.inr (And.intro rfl (Exists.intro _ (And.intro (by decide) (qx_M_mono (ct _ wρ.1 (tρ p hp)) ?_))))
      rintro _ _ ⟨rfl, rfl⟩
      refine Exists.intro (nI (p * 8 + x)) (And.intro (nI_add _ _) ?_)
      refine Exists.intro (p * 8 + x) (Exists.intro (q_lk S rf p (s_at S p) x) (And.intro rfl (And.intro ⟨80, rfl, by omega, by decide⟩ (And.intro ((a2 _ fρ).1 p x hp xl) ?_))))
      refine And.intro (fun h177 => ?_) (fun h177 => ?_)
      · skip
        refine Exists.intro (nI (q + 1)) (And.intro (nI_add _ _) ?_)
        rw [no (Int32.not_lt.mpr h177)]
        obtain ⟨b1, b2, b3, b4, b5, b6⟩ := a2 _ fρ
        exact ih (q + 1) _ (by omega) wρ xρ b1 b2 b3 b4 b5 b6
      · skip
        refine And.intro rfl (Exists.intro 163 (And.intro rfl ?_))
        obtain ⟨σ2, eσ2⟩ : ∃ zs, zs = (qx_wi ρ 163 p (nI q)) := ⟨_, rfl⟩
        have fσ2 := qn_wi eσ2
        refine Exists.intro (p) (Exists.intro σ2 (And.intro rfl (And.intro ⟨10, rfl, by omega, by decide⟩ (And.intro eσ2.symm ?_))))
        refine Exists.intro (nI (q + 1)) (And.intro (nI_add _ _) ?_)
        exact tk _ _ fρ wρ xρ eσ2 (Int32.not_le.mp h177)
    refine qy_wp_ok (c := CX10_lieOf) (cuts := [84, 113]) vX10_lieOf wX10_lieOf 2000 84 _ _ _ ?_
    refine And.intro rfl (Exists.intro 156 (And.intro rfl ?_))
    refine And.intro rfl (Exists.intro 16 (And.intro rfl ?_))
    refine And.intro rfl (Exists.intro 4 (Exists.intro (nI (s_n S 0)) (And.intro rfl (And.intro e4 ?_))))
    refine And.intro (fun h96 => ?_) (fun h96 => ?_)
    · skip
      have h96 := nI_leT (a := s_n S 0) (b := q) (by omega) (by omega) h96
      exact absurd h96 (by omega)
    · skip
      have h96 := nI_leF (a := s_n S 0) (b := q) (by omega) (by omega) h96
      refine And.intro rfl (Exists.intro 163 (And.intro rfl ?_))
      refine Exists.intro (p) (Exists.intro (-2) (And.intro rfl (And.intro ⟨10, rfl, by omega, by decide⟩ (And.intro hL ?_))))
      refine Exists.intro ((-2)) (And.intro (by decide) ?_)
      refine And.intro (fun h107 => ?_) (fun h107 => ?_)
      · skip
        exact absurd (by decide) h107
      · skip
        refine Exists.intro (nI 0) (And.intro rfl ?_)
        exact l_li2160 hp (by omega) k157 (s_n S 0) 0 _ (by omega) hW qf.rf hO (fun q hq => absurd hq (Nat.not_lt_zero q))
theorem c_lieOf160 {G : qx_G} {σ : qx_S} {S : qS} {rf : Option qR} {e p : Nat} (hp : p < s_n S 1) (hW : wI160 σ S rf e) (hC : cLi σ 160 S rf e 0) (hA : lkA σ 187 S rf none) : qx_M G qc_T 8 YX10_lieOf [.ref 160, .int (nI p), .ref 187] σ (fun r s => r = some (.int (q_gb S rf 0 p)) ∧ ql kLi160 σ s ∧ wI160 s S rf e ∧ (eE160 s ∨ σ = s) ∧ cLi s 160 S rf e 0) := by
  have hpe := hW.1.1.pe
  have hpl := hW.1.1.pl
  have he := hW.1.K.2.1
  obtain ⟨el, l1, l2, l3⟩ := hC p (by omega)
  have l1 : qx_mi σ 164 p = nI el := l1
  have tl : ∀ i, i < s_n S 1 → q_tk S rf none 2 i < s_n S 1 := q_tk_lt hpe
  obtain ⟨x, ex⟩ : ∃ x, x = s_at S (q_tk S rf none 2 p) := ⟨_, rfl⟩
  have xl : x < s_n S 0 := by rw [ex]; exact (hW.1.1.1.2.1.2.2 _ (tl p hp)).2
  have egb : q_gb S rf 0 p = q_gbc S rf 0 p (q_lk S rf p (s_at S p) x) (s_n S 0) 0 := by rw [ex]; rfl
  have ct : ∀ s', cI s' S rf e → qx_mi s' 161 p = nI (q_tk S rf none 2 p) → qx_M G qc_T 0 YX10_comesTo [.ref 160, .int (nI p)] s' (qr (nI x) s') := fun s' a b => by rw [ex]; exact c_comesTo160 a hp b (tl p hp)
  have fin : ∀ s1 s2 s3 s4 s, s1 = qx_wi σ 164 p (nI e) → s2 = qx_wi s1 163 p (-2) → ql kMo s2 s3 → ql [(162, none)] s3 s4 → ql kLi160 s4 s → qx_mi s 163 p = q_gb S rf 0 p → (∀ j, j ≠ p → qx_mi s 163 j = qx_mi s4 163 j) → (∀ j, qx_mi s 164 j = qx_mi s4 164 j) → cLi s 160 S rf e 0 ∧ ql kLi160 σ s := by
    intro s1 s2 s3 s4 s e1 e2 f3 f4 f5 g1 g2 g3
    have gE : ∀ j, qx_mi s 164 j = qx_mi s1 164 j := fun j => (g3 j).trans ((f4.i _ _ rfl).trans ((f3.i _ _ rfl).trans (qn_ne e2 (Or.inl (by decide)))))
    refine ⟨fun j hj => ?_, ((qn_wi e1).mn rfl).tr (((qn_wi e2).mn rfl).tr ((f3.mn rfl).tr ((f4.mn rfl).tr f5)))⟩
    by_cases z : j = p
    · rw [z]
      exact ⟨e, (gE p).trans (qn_eq e1), Nat.le_refl _, fun _ _ => g1⟩
    · obtain ⟨el, a, b, c⟩ := hC j hj
      exact ⟨el, (gE j).trans ((qn_ne e1 (Or.inr z)).trans a), b, fun y w => (g2 j z).trans ((f4.i _ _ rfl).trans ((f3.i _ _ rfl).trans ((qn_ne e2 (Or.inr z)).trans ((qn_ne e1 (Or.inl (by decide))).trans (c y w)))))⟩
  have a2 : ∀ s1 s2 s3, ql [(164, none)] σ s1 → ql [(163, none)] s1 s2 → ql kMo s2 s3 → lkA s3 187 S rf none := fun s1 s2 s3 f1 f2 f3 => ((hA.fr f1 (fun _ => rfl)).fr f2 (fun _ => rfl)).fr f3 (fun _ => rfl)
  refine qx_M_in rfl (Nat.le_of_ble_eq_true rfl) ?_
  refine qy_wp_ok (c := CX10_lieOf) (cuts := [84]) vX10_lieOf wX10_lieOf 2000 0 _ _ _ ?_
  refine And.intro rfl (Exists.intro 164 (And.intro rfl ?_))
  refine Exists.intro (p) (Exists.intro (nI el) (And.intro rfl (And.intro ⟨10, rfl, by omega, by decide⟩ (And.intro l1 ?_))))
  refine And.intro rfl (Exists.intro 156 (And.intro rfl ?_))
  refine And.intro rfl (Exists.intro 8 (Exists.intro (nI e) (And.intro rfl (And.intro hW.1.K.1 ?_))))
  refine And.intro (fun h13 => ?_) (fun h13 => ?_)
  · skip
    have h13 := nI_neT (a := el) (b := e) (by omega) (by omega) h13
    refine And.intro rfl (Exists.intro 164 (And.intro rfl ?_))
    refine And.intro rfl (Exists.intro 156 (And.intro rfl ?_))
    refine And.intro rfl (Exists.intro 8 (Exists.intro (nI e) (And.intro rfl (And.intro hW.1.K.1 ?_))))
    obtain ⟨σ1, eσ1⟩ : ∃ zs, zs = (qx_wi σ 164 p (nI e)) := ⟨_, rfl⟩
    have fσ1 := qn_wi eσ1
    refine Exists.intro (p) (Exists.intro σ1 (And.intro rfl (And.intro ⟨10, rfl, by omega, by decide⟩ (And.intro eσ1.symm ?_))))
    refine And.intro rfl (Exists.intro 163 (And.intro rfl ?_))
    refine Exists.intro ((-2)) (And.intro (by decide) ?_)
    obtain ⟨σ2, eσ2⟩ : ∃ zs, zs = (qx_wi σ1 163 p (-2)) := ⟨_, rfl⟩
    have fσ2 := qn_wi eσ2
    refine Exists.intro (p) (Exists.intro σ2 (And.intro rfl (And.intro ⟨10, rfl, by omega, by decide⟩ (And.intro eσ2.symm ?_))))
    refine Exists.intro (nI 8) (And.intro rfl ?_)
    refine Exists.intro (nI (p * 8)) (And.intro (pk_mul _ _) ?_)
    refine Exists.intro (nI 2) (And.intro rfl ?_)
    refine Or.inr (And.intro rfl (Exists.intro _ (And.intro (by decide) (qx_M_mono (c_ws160 ((hW.fr fσ1 (by decide)).fr fσ2 (by decide)) (by decide) rfl ((hA.fr fσ1 (fun _ => rfl)).fr fσ2 (fun _ => rfl))) ?_))))
    rintro _ ρ ⟨rfl, fρ, wρ, xρ, tρ⟩
    refine Or.inr (And.intro rfl (Exists.intro _ (And.intro (by decide) (qx_M_mono (ct _ wρ.1 (tρ p hp)) ?_))))
    rintro _ _ ⟨rfl, rfl⟩
    refine Exists.intro (nI (p * 8 + x)) (And.intro (nI_add _ _) ?_)
    refine Exists.intro (p * 8 + x) (Exists.intro (q_lk S rf p (s_at S p) x) (And.intro rfl (And.intro ⟨80, rfl, by omega, by decide⟩ (And.intro (a2 _ _ _ fσ1 fσ2 fρ p x hp xl) ?_))))
    refine Exists.intro (nI 0) (And.intro rfl ?_)
    refine And.intro rfl (Exists.intro 162 (And.intro rfl ?_))
    refine Exists.intro (nI 0) (And.intro rfl ?_)
    refine And.intro rfl (Exists.intro 162 (And.intro rfl ?_))
    refine Exists.intro (0, 80) (Exists.intro (nI 80) (And.intro rfl (And.intro (show (0 : Nat) ≤ 7 by decide) (And.intro rfl ?_))))
    obtain ⟨σ4, eσ4⟩ : ∃ zs, zs = (qy_cp ρ 187 162 0 0 80) := ⟨_, rfl⟩
    have fσ4 := qn_cp eσ4
    refine Exists.intro 80 (Exists.intro 0 (Exists.intro 0 (Exists.intro σ4 (And.intro rfl (And.intro rfl (And.intro rfl (And.intro (by decide) (And.intro ⟨80, rfl, by decide, by decide⟩ (And.intro ⟨80, rfl, by decide, by decide⟩ (And.intro eσ4.symm ?_))))))))))
    refine Exists.intro (nI 0) (And.intro rfl ?_)
    have a3 := a2 _ _ _ fσ1 fσ2 fρ
    have fc : ql [(162, none)] ρ σ4 := fσ4
    refine qx_K_mono (l_li1160 (tr := q_lk S rf p (s_at S p) x) hp (s_n S 0) 0 σ4 (by omega) (wρ.fr fc (by decide)) (xρ.fr fc (by decide)) (a3.fr fc (fun _ => rfl)) qf.rf (fun p' q h1 h2 h3 => (qn_cpeq eσ4 (by omega)).trans (a3 p' q h1 h3)) ((fc.i _ _ rfl).trans ((fρ.i _ _ rfl).trans (qn_eq eσ2))) (fun _ _ => rfl) (fun _ => rfl)) (fun r s h => ?_)
    obtain ⟨z1, z2, z3, z4, z5, z6, z7⟩ := h
    rw [← egb] at z1 z5
    have w := fin _ _ _ _ _ eσ1 eσ2 fρ fc z2 z5 z6 z7
    exact ⟨z1, w.2, z3, Or.inl z4, w.1⟩
  · skip
    have h13 := nI_eqT (a := el) (b := e) (by omega) (by omega) h13
    refine And.intro rfl (Exists.intro 163 (And.intro rfl ?_))
    refine Exists.intro (p) (Exists.intro (q_gb S rf 0 p) (And.intro rfl (And.intro ⟨10, rfl, by omega, by decide⟩ (And.intro (l3 hp h13) ?_))))
    exact ⟨rfl, qf.rf, hW, Or.inr rfl, hC⟩
theorem l_li2174 {G : qx_G} {σ0 : qx_S} {S : qS} {rf : Option qR} {e p pc : Nat} {tr : Int32} (hp : p < s_n S 1) (hpc : pc < 8) {Φ : qx_F} (key : ∀ s, wI174 s S rf e → lkA s 176 S rf (some (p, pc)) → ql [(176, none)] σ0 s → qx_K G qc_T 8 RX10 YX10_lieOf 157 [.ref 174, .int (nI p), .ref 187, .int (nI (p * 8)), .int tr, .int (nI pc), .retAddr 0] [] s Φ) : ∀ (m k : Nat) (σ : qx_S), m + k = s_n S 0 → wI174 σ S rf e → ql [(176, none)] σ0 σ → (∀ p' q, p' < s_n S 1 → p' ≠ p → q < s_n S 0 → qx_mi σ 176 (p' * 8 + q) = q_lk S rf p' (s_at S p') q) → (∀ q, q < k → qx_mi σ 176 (p * 8 + q) = if q = pc then nI 999 else nI 0) → qx_K G qc_T 8 RX10 YX10_lieOf 113 [.ref 174, .int (nI p), .ref 187, .int (nI (p * 8)), .int tr, .int (nI pc), .int (nI k)] [] σ Φ := by
  intro m
  induction m with
  | zero =>
    intro k σ hm hW hf hO hR
    have hpl := hW.1.1.pl
    have e4 := hW.1.2.1.1.1.trans hW.1.1.1.2.1.1.1
    rw [show k = s_n S 0 by omega] at hR ⊢
    refine qy_wp_ok (c := CX10_lieOf) (cuts := [113, 157]) vX10_lieOf wX10_lieOf 2000 113 _ _ _ ?_
    refine And.intro rfl (Exists.intro 156 (And.intro rfl ?_))
    refine And.intro rfl (Exists.intro 16 (And.intro rfl ?_))
    refine And.intro rfl (Exists.intro 4 (Exists.intro (nI (s_n S 0)) (And.intro rfl (And.intro e4 ?_))))
    refine And.intro (fun h125 => ?_) (fun h125 => ?_)
    · skip
      have h125 := nI_leT (a := s_n S 0) (b := s_n S 0) (by omega) (by omega) h125
      refine qx_K_le (ls := [.ref 174, .int (nI p), .ref 187, .int (nI (p * 8)), .int tr, .int (nI pc), .retAddr 0]) ⟨Or.inr rfl, Or.inr rfl, Or.inr rfl, Or.inr rfl, Or.inr rfl, Or.inr rfl, Or.inl rfl, trivial⟩ ?_
      refine key _ hW (fun p' q hp' hq => ?_) hf
      show _ = if p' = p then (if q = pc then nI 999 else nI 0) else q_lk S rf p' (s_at S p') q
      by_cases z : p' = p
      · rw [if_pos z, z]; exact hR q hq
      · rw [if_neg z]; exact hO p' q hp' z hq
    · skip
      have h125 := nI_leF (a := s_n S 0) (b := s_n S 0) (by omega) (by omega) h125
      exact absurd h125 (by omega)
  | succ m ih =>
    intro k σ hm hW hf hO hR
    have hpl := hW.1.1.pl
    have hpe := hW.1.1.pe
    have e4 := hW.1.2.1.1.1.trans hW.1.1.1.2.1.1.1
    have st : ∀ s v, s = qx_wi σ 176 (p * 8 + k) v → v = (if k = pc then nI 999 else nI 0) → qx_K G qc_T 8 RX10 YX10_lieOf 113 [.ref 174, .int (nI p), .ref 187, .int (nI (p * 8)), .int tr, .int (nI pc), .int (nI (k + 1))] [] s Φ := by
      intro s v es hv
      have f := qn_wi es
      refine ih (k + 1) s (by omega) (hW.fr f (by decide)) (hf.tr f) (fun p' q hp' hne hq => (qn_ne es (Or.inr (by omega))).trans (hO p' q hp' hne hq)) (fun q hq => ?_)
      by_cases z : q = k
      · rw [z, ← hv]; exact qn_eq es
      · exact (qn_ne es (Or.inr (by omega))).trans (hR q (by omega))
    refine qy_wp_ok (c := CX10_lieOf) (cuts := [113, 157]) vX10_lieOf wX10_lieOf 2000 113 _ _ _ ?_
    refine And.intro rfl (Exists.intro 156 (And.intro rfl ?_))
    refine And.intro rfl (Exists.intro 16 (And.intro rfl ?_))
    refine And.intro rfl (Exists.intro 4 (Exists.intro (nI (s_n S 0)) (And.intro rfl (And.intro e4 ?_))))
    refine And.intro (fun h125 => ?_) (fun h125 => ?_)
    · skip
      have h125 := nI_leT (a := s_n S 0) (b := k) (by omega) (by omega) h125
      exact absurd h125 (by omega)
    · skip
      have h125 := nI_leF (a := s_n S 0) (b := k) (by omega) (by omega) h125
      refine And.intro rfl (Exists.intro 176 (And.intro rfl ?_))
      refine Exists.intro (nI (p * 8 + k)) (And.intro (nI_add _ _) ?_)
      refine And.intro (fun h140 => ?_) (fun h140 => ?_)
      · skip
        have h140 := nI_neT (a := k) (b := pc) (by omega) (by omega) h140
        refine Exists.intro (nI 0) (And.intro rfl ?_)
        obtain ⟨σ1, eσ1⟩ : ∃ zs, zs = (qx_wi σ 176 (p * 8 + k) (nI 0)) := ⟨_, rfl⟩
        have fσ1 := qn_wi eσ1
        refine Exists.intro (p * 8 + k) (Exists.intro σ1 (And.intro rfl (And.intro ⟨80, rfl, by omega, by decide⟩ (And.intro eσ1.symm ?_))))
        refine Exists.intro (nI (k + 1)) (And.intro (nI_add _ _) ?_)
        first | exact st _ _ eσ1 (if_neg h140).symm | exact st _ _ eσ1 (if_pos h140).symm
      · skip
        have h140 := nI_eqT (a := k) (b := pc) (by omega) (by omega) h140
        refine Exists.intro (nI 999) (And.intro rfl ?_)
        obtain ⟨σ1, eσ1⟩ : ∃ zs, zs = (qx_wi σ 176 (p * 8 + k) (nI 999)) := ⟨_, rfl⟩
        have fσ1 := qn_wi eσ1
        refine Exists.intro (p * 8 + k) (Exists.intro σ1 (And.intro rfl (And.intro ⟨80, rfl, by omega, by decide⟩ (And.intro eσ1.symm ?_))))
        refine Exists.intro (nI (k + 1)) (And.intro (nI_add _ _) ?_)
        first | exact st _ _ eσ1 (if_pos h140).symm | exact st _ _ eσ1 (if_neg h140).symm
theorem l_li1174 {G : qx_G} {σ0 : qx_S} {S : qS} {rf : Option qR} {e p : Nat} {tr : Int32} (hp : p < s_n S 1) : ∀ (m q : Nat) (σ : qx_S), m + q = s_n S 0 → wI174 σ S rf e → eE174 σ → lkA σ 187 S rf none → ql kLi174 σ0 σ → (∀ p' q, p' < s_n S 1 → p' ≠ p → q < s_n S 0 → qx_mi σ 176 (p' * 8 + q) = q_lk S rf p' (s_at S p') q) → qx_mi σ 177 p = (-2) → (∀ j, j ≠ p → qx_mi σ 177 j = qx_mi σ0 177 j) → (∀ j, qx_mi σ 178 j = qx_mi σ0 178 j) → qx_K G qc_T 8 RX10 YX10_lieOf 84 [.ref 174, .int (nI p), .ref 187, .int (nI (p * 8)), .int tr, .int (nI q), .retAddr 0] [] σ (fun r s => r = some (.int (q_gbc S rf 1 p tr m q)) ∧ ql kLi174 σ0 s ∧ wI174 s S rf e ∧ eE174 s ∧ qx_mi s 177 p = q_gbc S rf 1 p tr m q ∧ (∀ j, j ≠ p → qx_mi s 177 j = qx_mi σ0 177 j) ∧ ∀ j, qx_mi s 178 j = qx_mi σ0 178 j) := by
  intro m
  induction m with
  | zero =>
    intro q σ hm hW hE hA hf hO hL hj hk
    have hpl := hW.1.1.pl
    have hpe := hW.1.1.pe
    have e4 := hW.1.2.1.1.1.trans hW.1.1.1.2.1.1.1
    rw [show q = s_n S 0 by omega]
    refine qy_wp_ok (c := CX10_lieOf) (cuts := [84, 113]) vX10_lieOf wX10_lieOf 2000 84 _ _ _ ?_
    refine And.intro rfl (Exists.intro 156 (And.intro rfl ?_))
    refine And.intro rfl (Exists.intro 16 (And.intro rfl ?_))
    refine And.intro rfl (Exists.intro 4 (Exists.intro (nI (s_n S 0)) (And.intro rfl (And.intro e4 ?_))))
    refine And.intro (fun h96 => ?_) (fun h96 => ?_)
    · skip
      have h96 := nI_leT (a := s_n S 0) (b := s_n S 0) (by omega) (by omega) h96
      refine And.intro rfl (Exists.intro 177 (And.intro rfl ?_))
      refine Exists.intro (p) (Exists.intro (-2) (And.intro rfl (And.intro ⟨10, rfl, by omega, by decide⟩ (And.intro hL ?_))))
      exact ⟨rfl, hf, hW, hE, hL, hj, hk⟩
    · skip
      have h96 := nI_leF (a := s_n S 0) (b := s_n S 0) (by omega) (by omega) h96
      exact absurd h96 (by omega)
  | succ m ih =>
    intro q σ hm hW hE hA hf hO hL hj hk
    have hpl := hW.1.1.pl
    have hpe := hW.1.1.pe
    have e4 := hW.1.2.1.1.1.trans hW.1.1.1.2.1.1.1
    have hq : q < s_n S 0 := by omega
    have done : ∀ s, wI174 s S rf e → eE174 s → ql kLi174 σ0 s → qx_mi s 177 p = nI q → (∀ j, j ≠ p → qx_mi s 177 j = qx_mi σ0 177 j) → (∀ j, qx_mi s 178 j = qx_mi σ0 178 j) → tr < q_lk S rf p (s_at S p) (q_cby S rf (some (p, q)) 1 p) → qx_K G qc_T 8 RX10 YX10_lieOf 84 [.ref 174, .int (nI p), .ref 187, .int (nI (p * 8)), .int tr, .int (nI (q + 1)), .retAddr 0] [] s (fun r s => r = some (.int (q_gbc S rf 1 p tr (m + 1) q)) ∧ ql kLi174 σ0 s ∧ wI174 s S rf e ∧ eE174 s ∧ qx_mi s 177 p = q_gbc S rf 1 p tr (m + 1) q ∧ (∀ j, j ≠ p → qx_mi s 177 j = qx_mi σ0 177 j) ∧ ∀ j, qx_mi s 178 j = qx_mi σ0 178 j) := by
      intro s w1 w2 w3 w4 w5 w6 w7
      have ev : q_gbc S rf 1 p tr (m + 1) q = nI q := by
        show (if tr < q_lk S rf p (s_at S p) (q_cby S rf (some (p, q)) 1 p) then nI q else _) = _
        rw [if_pos w7]
      rw [ev]
      have f4 := w1.1.2.1.1.1.trans w1.1.1.1.2.1.1.1
      have nn : ¬ nI q = (-2) := fun z => by
        have := congrArg Int32.toInt z
        rw [nI_toInt (by omega), show (-2 : Int32).toInt = -2 by decide] at this
        omega
      refine qy_wp_ok (c := CX10_lieOf) (cuts := [84, 113]) vX10_lieOf wX10_lieOf 2000 84 _ _ _ ?_
      refine And.intro rfl (Exists.intro 156 (And.intro rfl ?_))
      refine And.intro rfl (Exists.intro 16 (And.intro rfl ?_))
      refine And.intro rfl (Exists.intro 4 (Exists.intro (nI (s_n S 0)) (And.intro rfl (And.intro f4 ?_))))
      refine And.intro (fun h96 => ?_) (fun h96 => ?_)
      · skip
        have h96 := nI_leT (a := s_n S 0) (b := q + 1) (by omega) (by omega) h96
        refine And.intro rfl (Exists.intro 177 (And.intro rfl ?_))
        refine Exists.intro (p) (Exists.intro (nI q) (And.intro rfl (And.intro ⟨10, rfl, by omega, by decide⟩ (And.intro w4 ?_))))
        exact ⟨rfl, w3, w1, w2, w4, w5, w6⟩
      · skip
        have h96 := nI_leF (a := s_n S 0) (b := q + 1) (by omega) (by omega) h96
        refine And.intro rfl (Exists.intro 177 (And.intro rfl ?_))
        refine Exists.intro (p) (Exists.intro (nI q) (And.intro rfl (And.intro ⟨10, rfl, by omega, by decide⟩ (And.intro w4 ?_))))
        refine Exists.intro ((-2)) (And.intro (by decide) ?_)
        refine And.intro (fun h107 => ?_) (fun h107 => ?_)
        · skip
          refine And.intro rfl (Exists.intro 177 (And.intro rfl ?_))
          refine Exists.intro (p) (Exists.intro (nI q) (And.intro rfl (And.intro ⟨10, rfl, by omega, by decide⟩ (And.intro w4 ?_))))
          exact ⟨rfl, w3, w1, w2, w4, w5, w6⟩
        · skip
          exact absurd h107 nn
    have k157 : ∀ s, wI174 s S rf e → lkA s 176 S rf (some (p, q)) → ql [(176, none)] σ s → qx_K G qc_T 8 RX10 YX10_lieOf 157 [.ref 174, .int (nI p), .ref 187, .int (nI (p * 8)), .int tr, .int (nI q), .retAddr 0] [] s (fun r s => r = some (.int (q_gbc S rf 1 p tr (m + 1) q)) ∧ ql kLi174 σ0 s ∧ wI174 s S rf e ∧ eE174 s ∧ qx_mi s 177 p = q_gbc S rf 1 p tr (m + 1) q ∧ (∀ j, j ≠ p → qx_mi s 177 j = qx_mi σ0 177 j) ∧ ∀ j, qx_mi s 178 j = qx_mi σ0 178 j) := by
      intro s w1 w2 f1
      have tl : ∀ i, i < s_n S 1 → q_ct S rf (some (p, q))  i < s_n S 1 := q_ct_lt
      obtain ⟨x, ex⟩ : ∃ x, x = s_at S (q_ct S rf (some (p, q))  p) := ⟨_, rfl⟩
      have xl : x < s_n S 0 := by rw [ex]; exact (hW.1.1.1.2.1.2.2 _ (tl p hp)).2
      have ec : q_cby S rf (some (p, q)) 1 p = x := by rw [ex]; rfl
      have ct : ∀ s', cI s' S rf e → qx_mi s' 175 p = nI (q_ct S rf (some (p, q))  p) → qx_M G qc_T 0 YX10_comesTo [.ref 174, .int (nI p)] s' (qr (nI x) s') := fun s' a b => by rw [ex]; exact c_comesTo174 a hp b (tl p hp)
      have no : ¬ tr < q_lk S rf p (s_at S p) x → q_gbc S rf 1 p tr (m + 1) q = q_gbc S rf 1 p tr m (q + 1) := fun h => by
        show (if tr < q_lk S rf p (s_at S p) (q_cby S rf (some (p, q)) 1 p) then nI q else _) = _
        rw [ec, if_neg h]
      have a2 : ∀ s', ql kCo s s' → lkA s' 187 S rf none ∧ ql kLi174 σ0 s' ∧ (∀ p' q, p' < s_n S 1 → p' ≠ p → q < s_n S 0 → qx_mi s' 176 (p' * 8 + q) = q_lk S rf p' (s_at S p') q) ∧ qx_mi s' 177 p = (-2) ∧ (∀ j, j ≠ p → qx_mi s' 177 j = qx_mi σ0 177 j) ∧ ∀ j, qx_mi s' 178 j = qx_mi σ0 178 j := fun s' f2 => ⟨(hA.fr f1 (fun _ => rfl)).fr f2 (fun _ => rfl), hf.tr ((f1.mn rfl).tr (f2.mn rfl)), fun p' q' h1 h2 h3 => (f2.i _ _ rfl).trans ((w2 p' q' h1 h3).trans (by show (if p' = p then _ else _) = _; rw [if_neg h2])), (f2.i _ _ rfl).trans ((f1.i _ _ rfl).trans hL), fun j h => (f2.i _ _ rfl).trans ((f1.i _ _ rfl).trans (hj j h)), fun j => (f2.i _ _ rfl).trans ((f1.i _ _ rfl).trans (hk j))⟩
      have tk : ∀ s' s'', ql kCo s s' → wI174 s' S rf e → eE174 s' → s'' = qx_wi s' 177 p (nI q) → tr < q_lk S rf p (s_at S p) x → qx_K G qc_T 8 RX10 YX10_lieOf 84 [.ref 174, .int (nI p), .ref 187, .int (nI (p * 8)), .int tr, .int (nI (q + 1)), .retAddr 0] [] s'' (fun r s => r = some (.int (q_gbc S rf 1 p tr (m + 1) q)) ∧ ql kLi174 σ0 s ∧ wI174 s S rf e ∧ eE174 s ∧ qx_mi s 177 p = q_gbc S rf 1 p tr (m + 1) q ∧ (∀ j, j ≠ p → qx_mi s 177 j = qx_mi σ0 177 j) ∧ ∀ j, qx_mi s 178 j = qx_mi σ0 178 j) := by
        intro s' s'' f2 y1 y2 es hlt
        have f3 := qn_wi es
        obtain ⟨b1, b2, b3, b4, b5, b6⟩ := a2 s' f2
        exact done s'' (y1.fr f3 (by decide)) (y2.fr f3 (by decide)) (b2.tr (f3.mn rfl)) (qn_eq es) (fun j h => (qn_ne es (Or.inr h)).trans (b5 j h)) (fun j => (f3.i _ _ rfl).trans (b6 j)) (by rw [ec]; exact hlt)
      refine qy_wp_ok (c := CX10_lieOf) (cuts := [84]) vX10_lieOf wX10_lieOf 2000 157 _ _ _ ?_
      refine And.intro rfl (Exists.intro 176 (And.intro rfl ?_))
      refine Exists.intro (nI 2) (And.intro rfl ?_)
      refine Or.inl (And.intro rfl (Exists.intro _ (And.intro (by decide) (qx_M_mono (c_ws174 w1 (by decide) rfl w2) ?_))))
      rintro _ ρ ⟨rfl, fρ, wρ, xρ, tρ⟩
      refine Or.inl (And.intro rfl (Exists.intro _ (And.intro (by decide) (qx_M_mono (ct _ wρ.1 (tρ p hp)) ?_))))
      rintro _ _ ⟨rfl, rfl⟩
      refine Exists.intro (nI (p * 8 + x)) (And.intro (nI_add _ _) ?_)
      refine Exists.intro (p * 8 + x) (Exists.intro (q_lk S rf p (s_at S p) x) (And.intro rfl (And.intro ⟨80, rfl, by omega, by decide⟩ (And.intro ((a2 _ fρ).1 p x hp xl) ?_))))
      refine And.intro (fun h177 => ?_) (fun h177 => ?_)
      · skip
        refine Exists.intro (nI (q + 1)) (And.intro (nI_add _ _) ?_)
        rw [no (Int32.not_lt.mpr h177)]
        obtain ⟨b1, b2, b3, b4, b5, b6⟩ := a2 _ fρ
        exact ih (q + 1) _ (by omega) wρ xρ b1 b2 b3 b4 b5 b6
      · skip
        refine And.intro rfl (Exists.intro 177 (And.intro rfl ?_))
        obtain ⟨σ2, eσ2⟩ : ∃ zs, zs = (qx_wi ρ 177 p (nI q)) := ⟨_, rfl⟩
        have fσ2 := qn_wi eσ2
        refine Exists.intro (p) (Exists.intro σ2 (And.intro rfl (And.intro ⟨10, rfl, by omega, by decide⟩ (And.intro eσ2.symm ?_))))
        refine Exists.intro (nI (q + 1)) (And.intro (nI_add _ _) ?_)
        exact tk _ _ fρ wρ xρ eσ2 (Int32.not_le.mp h177)
    refine qy_wp_ok (c := CX10_lieOf) (cuts := [84, 113]) vX10_lieOf wX10_lieOf 2000 84 _ _ _ ?_
    refine And.intro rfl (Exists.intro 156 (And.intro rfl ?_))
    refine And.intro rfl (Exists.intro 16 (And.intro rfl ?_))
    refine And.intro rfl (Exists.intro 4 (Exists.intro (nI (s_n S 0)) (And.intro rfl (And.intro e4 ?_))))
    refine And.intro (fun h96 => ?_) (fun h96 => ?_)
    · skip
      have h96 := nI_leT (a := s_n S 0) (b := q) (by omega) (by omega) h96
      exact absurd h96 (by omega)
    · skip
      have h96 := nI_leF (a := s_n S 0) (b := q) (by omega) (by omega) h96
      refine And.intro rfl (Exists.intro 177 (And.intro rfl ?_))
      refine Exists.intro (p) (Exists.intro (-2) (And.intro rfl (And.intro ⟨10, rfl, by omega, by decide⟩ (And.intro hL ?_))))
      refine Exists.intro ((-2)) (And.intro (by decide) ?_)
      refine And.intro (fun h107 => ?_) (fun h107 => ?_)
      · skip
        exact absurd (by decide) h107
      · skip
        refine Exists.intro (nI 0) (And.intro rfl ?_)
        exact l_li2174 hp (by omega) k157 (s_n S 0) 0 _ (by omega) hW qf.rf hO (fun q hq => absurd hq (Nat.not_lt_zero q))
theorem c_lieOf174 {G : qx_G} {σ : qx_S} {S : qS} {rf : Option qR} {e p : Nat} (hp : p < s_n S 1) (hW : wI174 σ S rf e) (hC : cLi σ 174 S rf e 1) (hA : lkA σ 187 S rf none) : qx_M G qc_T 8 YX10_lieOf [.ref 174, .int (nI p), .ref 187] σ (fun r s => r = some (.int (q_gb S rf 1 p)) ∧ ql kLi174 σ s ∧ wI174 s S rf e ∧ (eE174 s ∨ σ = s) ∧ cLi s 174 S rf e 1) := by
  have hpe := hW.1.1.pe
  have hpl := hW.1.1.pl
  have he := hW.1.K.2.1
  obtain ⟨el, l1, l2, l3⟩ := hC p (by omega)
  have l1 : qx_mi σ 178 p = nI el := l1
  have tl : ∀ i, i < s_n S 1 → q_ct S rf none  i < s_n S 1 := q_ct_lt
  obtain ⟨x, ex⟩ : ∃ x, x = s_at S (q_ct S rf none  p) := ⟨_, rfl⟩
  have xl : x < s_n S 0 := by rw [ex]; exact (hW.1.1.1.2.1.2.2 _ (tl p hp)).2
  have egb : q_gb S rf 1 p = q_gbc S rf 1 p (q_lk S rf p (s_at S p) x) (s_n S 0) 0 := by rw [ex]; rfl
  have ct : ∀ s', cI s' S rf e → qx_mi s' 175 p = nI (q_ct S rf none  p) → qx_M G qc_T 0 YX10_comesTo [.ref 174, .int (nI p)] s' (qr (nI x) s') := fun s' a b => by rw [ex]; exact c_comesTo174 a hp b (tl p hp)
  have fin : ∀ s1 s2 s3 s4 s, s1 = qx_wi σ 178 p (nI e) → s2 = qx_wi s1 177 p (-2) → ql kCo s2 s3 → ql [(176, none)] s3 s4 → ql kLi174 s4 s → qx_mi s 177 p = q_gb S rf 1 p → (∀ j, j ≠ p → qx_mi s 177 j = qx_mi s4 177 j) → (∀ j, qx_mi s 178 j = qx_mi s4 178 j) → cLi s 174 S rf e 1 ∧ ql kLi174 σ s := by
    intro s1 s2 s3 s4 s e1 e2 f3 f4 f5 g1 g2 g3
    have gE : ∀ j, qx_mi s 178 j = qx_mi s1 178 j := fun j => (g3 j).trans ((f4.i _ _ rfl).trans ((f3.i _ _ rfl).trans (qn_ne e2 (Or.inl (by decide)))))
    refine ⟨fun j hj => ?_, ((qn_wi e1).mn rfl).tr (((qn_wi e2).mn rfl).tr ((f3.mn rfl).tr ((f4.mn rfl).tr f5)))⟩
    by_cases z : j = p
    · rw [z]
      exact ⟨e, (gE p).trans (qn_eq e1), Nat.le_refl _, fun _ _ => g1⟩
    · obtain ⟨el, a, b, c⟩ := hC j hj
      exact ⟨el, (gE j).trans ((qn_ne e1 (Or.inr z)).trans a), b, fun y w => (g2 j z).trans ((f4.i _ _ rfl).trans ((f3.i _ _ rfl).trans ((qn_ne e2 (Or.inr z)).trans ((qn_ne e1 (Or.inl (by decide))).trans (c y w)))))⟩
  have a2 : ∀ s1 s2 s3, ql [(178, none)] σ s1 → ql [(177, none)] s1 s2 → ql kCo s2 s3 → lkA s3 187 S rf none := fun s1 s2 s3 f1 f2 f3 => ((hA.fr f1 (fun _ => rfl)).fr f2 (fun _ => rfl)).fr f3 (fun _ => rfl)
  refine qx_M_in rfl (Nat.le_of_ble_eq_true rfl) ?_
  refine qy_wp_ok (c := CX10_lieOf) (cuts := [84]) vX10_lieOf wX10_lieOf 2000 0 _ _ _ ?_
  refine And.intro rfl (Exists.intro 178 (And.intro rfl ?_))
  refine Exists.intro (p) (Exists.intro (nI el) (And.intro rfl (And.intro ⟨10, rfl, by omega, by decide⟩ (And.intro l1 ?_))))
  refine And.intro rfl (Exists.intro 156 (And.intro rfl ?_))
  refine And.intro rfl (Exists.intro 8 (Exists.intro (nI e) (And.intro rfl (And.intro hW.1.K.1 ?_))))
  refine And.intro (fun h13 => ?_) (fun h13 => ?_)
  · skip
    have h13 := nI_neT (a := el) (b := e) (by omega) (by omega) h13
    refine And.intro rfl (Exists.intro 178 (And.intro rfl ?_))
    refine And.intro rfl (Exists.intro 156 (And.intro rfl ?_))
    refine And.intro rfl (Exists.intro 8 (Exists.intro (nI e) (And.intro rfl (And.intro hW.1.K.1 ?_))))
    obtain ⟨σ1, eσ1⟩ : ∃ zs, zs = (qx_wi σ 178 p (nI e)) := ⟨_, rfl⟩
    have fσ1 := qn_wi eσ1
    refine Exists.intro (p) (Exists.intro σ1 (And.intro rfl (And.intro ⟨10, rfl, by omega, by decide⟩ (And.intro eσ1.symm ?_))))
    refine And.intro rfl (Exists.intro 177 (And.intro rfl ?_))
    refine Exists.intro ((-2)) (And.intro (by decide) ?_)
    obtain ⟨σ2, eσ2⟩ : ∃ zs, zs = (qx_wi σ1 177 p (-2)) := ⟨_, rfl⟩
    have fσ2 := qn_wi eσ2
    refine Exists.intro (p) (Exists.intro σ2 (And.intro rfl (And.intro ⟨10, rfl, by omega, by decide⟩ (And.intro eσ2.symm ?_))))
    refine Exists.intro (nI 8) (And.intro rfl ?_)
    refine Exists.intro (nI (p * 8)) (And.intro (pk_mul _ _) ?_)
    refine Exists.intro (nI 2) (And.intro rfl ?_)
    refine Or.inl (And.intro rfl (Exists.intro _ (And.intro (by decide) (qx_M_mono (c_ws174 ((hW.fr fσ1 (by decide)).fr fσ2 (by decide)) (by decide) rfl ((hA.fr fσ1 (fun _ => rfl)).fr fσ2 (fun _ => rfl))) ?_))))
    rintro _ ρ ⟨rfl, fρ, wρ, xρ, tρ⟩
    refine Or.inl (And.intro rfl (Exists.intro _ (And.intro (by decide) (qx_M_mono (ct _ wρ.1 (tρ p hp)) ?_))))
    rintro _ _ ⟨rfl, rfl⟩
    refine Exists.intro (nI (p * 8 + x)) (And.intro (nI_add _ _) ?_)
    refine Exists.intro (p * 8 + x) (Exists.intro (q_lk S rf p (s_at S p) x) (And.intro rfl (And.intro ⟨80, rfl, by omega, by decide⟩ (And.intro (a2 _ _ _ fσ1 fσ2 fρ p x hp xl) ?_))))
    refine Exists.intro (nI 0) (And.intro rfl ?_)
    refine And.intro rfl (Exists.intro 176 (And.intro rfl ?_))
    refine Exists.intro (nI 0) (And.intro rfl ?_)
    refine And.intro rfl (Exists.intro 176 (And.intro rfl ?_))
    refine Exists.intro (0, 80) (Exists.intro (nI 80) (And.intro rfl (And.intro (show (0 : Nat) ≤ 7 by decide) (And.intro rfl ?_))))
    obtain ⟨σ4, eσ4⟩ : ∃ zs, zs = (qy_cp ρ 187 176 0 0 80) := ⟨_, rfl⟩
    have fσ4 := qn_cp eσ4
    refine Exists.intro 80 (Exists.intro 0 (Exists.intro 0 (Exists.intro σ4 (And.intro rfl (And.intro rfl (And.intro rfl (And.intro (by decide) (And.intro ⟨80, rfl, by decide, by decide⟩ (And.intro ⟨80, rfl, by decide, by decide⟩ (And.intro eσ4.symm ?_))))))))))
    refine Exists.intro (nI 0) (And.intro rfl ?_)
    have a3 := a2 _ _ _ fσ1 fσ2 fρ
    have fc : ql [(176, none)] ρ σ4 := fσ4
    refine qx_K_mono (l_li1174 (tr := q_lk S rf p (s_at S p) x) hp (s_n S 0) 0 σ4 (by omega) (wρ.fr fc (by decide)) (xρ.fr fc (by decide)) (a3.fr fc (fun _ => rfl)) qf.rf (fun p' q h1 h2 h3 => (qn_cpeq eσ4 (by omega)).trans (a3 p' q h1 h3)) ((fc.i _ _ rfl).trans ((fρ.i _ _ rfl).trans (qn_eq eσ2))) (fun _ _ => rfl) (fun _ => rfl)) (fun r s h => ?_)
    obtain ⟨z1, z2, z3, z4, z5, z6, z7⟩ := h
    rw [← egb] at z1 z5
    have w := fin _ _ _ _ _ eσ1 eσ2 fρ fc z2 z5 z6 z7
    exact ⟨z1, w.2, z3, Or.inl z4, w.1⟩
  · skip
    have h13 := nI_eqT (a := el) (b := e) (by omega) (by omega) h13
    refine And.intro rfl (Exists.intro 177 (And.intro rfl ?_))
    refine Exists.intro (p) (Exists.intro (q_gb S rf 1 p) (And.intro rfl (And.intro ⟨10, rfl, by omega, by decide⟩ (And.intro (l3 hp h13) ?_))))
    exact ⟨rfl, qf.rf, hW, Or.inr rfl, hC⟩

