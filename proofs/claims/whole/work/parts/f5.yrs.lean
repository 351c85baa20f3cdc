/-! THE CLASS: years -/
abbrev kYr : List (Nat × Option Nat) := [(15, some 10), (180, none), (181, none), (182, none), (183, none), (184, none), (185, none), (186, none), (157, none), (158, none), (159, none)]
/-- while years go by: all but the standing that is on trial -/
def yB (σ : qx_S) (S : qS) (rf : Option qR) (e x : Nat) : Prop := gT S ∧ dR σ 16 S ∧ zR σ 21 (s_n S 1) (q_nw S) ∧ qx_mr σ 156 6 = some 180 ∧ cRu σ rf ∧ cK σ e (q_kpg rf) (s_n S 1) (q_lk S rf) ∧ kTw σ e (s_n S 1) (q_c2 S rf) ∧ 229 ≤ σ.1 ∧ qx_mi σ 15 10 = nI x ∧ x < 2147483648
theorem yB.fr {σ s : qx_S} {S : qS} {rf : Option qR} {e x x' : Nat} {l : List (Nat × Option Nat)} (h : yB σ S rf e x) (f : ql l σ s) (h1 : ∀ y j, (16 ≤ y ∧ y ≤ 25) ∨ (156 ≤ y ∧ y ≤ 157) → pL l y j = false) (h2 : kLow l = true) (hx : qx_mi s 15 10 = nI x') (hx2 : x' < 2147483648) : yB s S rf e x' :=
  ⟨h.1, h.2.1.fb h.1.1.1 (fun k hk j => f.i _ _ (h1 _ _ (by omega))), h.2.2.1.fb (fun y j _ _ => f.i _ _ (h1 _ _ (by omega))), (f.r _ _).trans h.2.2.2.1, h.2.2.2.2.1.fr f h2, h.2.2.2.2.2.1.fr f (fun j => h1 _ _ (by omega)) (h1 _ _ (by omega)) (h1 _ _ (by omega)), h.2.2.2.2.2.2.1.fr f h2, by rw [f.1]; exact h.2.2.2.2.2.2.2.1, hx, hx2⟩
theorem yB.g {σ s : qx_S} {S : qS} {rf : Option qR} {e x : Nat} (h : yB σ S rf e x) (f : qg kLw σ s) (k : cK s e (q_kpg rf) (s_n S 1) (q_lk S rf)) (t : kTw s e (s_n S 1) (q_c2 S rf)) : yB s S rf e x := by
  have f1 := f.1
  exact ⟨h.1, h.2.1.fb h.1.1.1 (fun k hk j => f.iv (by omega) (Or.inl (by omega)) (pL_ne (by simp; omega))), h.2.2.1.fb (fun y j _ _ => f.iv (by omega) (Or.inl (by omega)) (pL_ne (by simp; omega))), (f.r _ _ rfl).trans h.2.2.2.1, h.2.2.2.2.1.gr f rfl, k, t, f.le, (f.i _ _ rfl).trans h.2.2.2.2.2.2.2.2.1, h.2.2.2.2.2.2.2.2.2⟩
theorem gO.debt {S : qS} {pe p : Nat} (h : gO (q_nw S) pe) (hpe : pe ≤ 10) (hp : p < 10) : q_sum (fun k => q_nw S (10 + 10 * p + k)) 10 = q_sum (fun k => S (154 + 10 * p + k)) pe := by
  rw [q_sum_cut 10 hpe (fun k h1 h2 => h p k hp h2 (Or.inr h1))]
  exact q_sum_cg _ (fun k hk => (congrArg (q_nw S) (by omega)).trans ((q_nw_ow S (k := 10 * p + k) (by omega)).trans (congrArg S (by omega))))
theorem cRu.wf {σ : qx_S} {rf : Option qR} (h : cRu σ rf) : ∀ R, rf = some R → q_wf R := by
  intro R e
  rw [e] at h
  obtain ⟨x, _, _, _, _, h5⟩ := h
  exact h5
/-- a standing on trial -/
def yT (S T : qS) : Prop := gL T ∧ gO (q_nw T) (s_n S 1) ∧ sR S T
theorem yT.n1 {S T : qS} (t : yT S T) : s_n T 1 = s_n S 1 := s_n_cg (t.2.2 1 (by omega))
theorem yT.ex {S T : qS} (t : yT S T) : eLx S T := fun i hi => t.2.2 i (by omega)
theorem yB.W {σ : qx_S} {S T : qS} {rf : Option qR} {e x : Nat} (h : yB σ S rf e x) (z : zR σ 180 (s_n S 1) (q_nw T)) (t : yT S T) : cW σ T rf 180 := by
  have hpe := h.1.pe
  refine ⟨t.1, ⟨h.2.2.2.1, Or.inr rfl, h.2.1.tr h.1.1.1 (fun _ _ _ => rfl) (fun i hi => t.2.2 i (by omega)), z.1, ?_⟩, h.2.2.2.2.1⟩
  rw [t.n1]
  exact fun p hp => ⟨(z.2.2.2.2 p (by omega)).trans (t.2.1.debt hpe (by omega)), (z.2.2.1 p hp).2.trans (q_nw_mv T (by omega))⟩
theorem yT.H {σ : qx_S} {S T : qS} {rf : Option qR} (t : yT S T) (hpe : s_n S 1 ≤ 10) (h : cRu σ rf) : cH T rf (q_kpg rf) (q_lk S rf) := fun hk p a q hp ha hq => (q_lk_x t.ex h.wf hk (by rw [t.n1] at hp; omega) hq).symm
theorem yT.H2 {σ : qx_S} {S T : qS} {rf : Option qR} (t : yT S T) (hpe : s_n S 1 ≤ 10) (h : cRu σ rf) : cH2 T rf (q_kpg rf) (q_c2 S rf) := fun hk i j x y hi hj hx hy => (q_c2_x t.ex h.wf hk (by rw [t.n1] at hi; omega) (by rw [t.n1] at hj; omega) hx hy).symm
theorem yT.dn {S T : qS} (t : yT S T) (hpe : s_n S 1 ≤ 10) {a b : Nat} (ha : a < s_n S 1) (hb : b < s_n S 1) : yT S (q_dn a b T) := by
  have k := q_dn_ok (a := a) (b := b) t.1.2.1 (by rw [t.n1]; exact ha) (by rw [t.n1]; exact hb)
  have hr : ∀ j, j < 2 → q_two a b j < s_n S 1 := fun j _ => q_two_lt ha hb j
  have hr10 : ∀ j, j < 2 → q_two a b j < 10 := fun j hj => Nat.lt_of_lt_of_le (hr j hj) hpe
  refine ⟨t.1.mk k.2 (fun i hi => k.1 i (by omega)), ?_, t.2.2.tr k.1⟩
  intro p q hp hq hz
  have e := t.2.1 p q hp hq hz
  rw [show 10 + 10 * p + q = 10 + (10 * p + q) by omega, q_nw_ow _ (by omega), show 154 + (10 * p + q) = 154 + 10 * p + q by omega] at e ⊢
  unfold q_dn
  rw [va_up_ne _ _ (by omega), q_gr_sA hr10 _ (by omega), q_chc_ow hr hpe hp hq hz _ _ _ _ (by omega)]
  exact e
theorem q_dn_e (a b : Nat) (T : qS) : q_dn a b T = q_dne (q_two a b) 2 T := rfl
theorem q_dn_6 {T : qS} {a b : Nat} (ha : a < 10) (hb : b < 10) : q_dn a b T 6 = T 6 + nI 1 := by
  have hr10 : ∀ j, j < 2 → q_two a b j < 10 := fun j _ => q_two_lt ha hb j
  unfold q_dn
  rw [va_up_self, q_gr_sA hr10 _ (by omega), q_chc_sM hr10 2 0 T 0 (by omega) _ (by omega) (by omega)]
theorem c_drawn {G : qx_G} {σ : qx_S} {x pe a : Nat} (hx : x < 2147483648) (ex : qx_mi σ 15 10 = nI x) (e1 : qx_mi σ 16 5 = nI pe) (h0 : 0 < pe) (hpe : pe ≤ 10) (ea : q_dw (q_dx x) pe = a) : qx_M G qc_T 0 YX11_drawnPerson [.ref 3] σ (fun r s => r = some (.int (nI a)) ∧ ql [(15, some 10)] σ s ∧ qx_mi s 15 10 = nI (q_dx x)) := by
  have hd := q_dx_lt x
  rw [← ea]
  refine qx_M_in rfl (Nat.le_of_ble_eq_true rfl) ?_
  refine qy_wp_ok (c := CX11_drawnPerson) (cuts := []) vX11_drawnPerson wX11_drawnPerson 2000 0 _ _ _ ?_
  refine And.intro rfl (Exists.intro 15 (And.intro rfl ?_))
  refine And.intro rfl (Exists.intro 15 (And.intro rfl ?_))
  refine And.intro rfl (Exists.intro 10 (Exists.intro (nI x) (And.intro rfl (And.intro ex ?_))))
  refine Exists.intro (lN x) (And.intro (nI_l hx) ?_)
  refine Exists.intro (lN 1103515245) (And.intro (by decide) ?_)
  refine Exists.intro (lN (x * 1103515245)) (And.intro (lN_mul _ _) ?_)
  refine Exists.intro (lN 12345) (And.intro (by decide) ?_)
  refine Exists.intro (lN (x * 1103515245 + 12345)) (And.intro (lN_add _ _) ?_)
  refine Exists.intro (lN 2147483647) (And.intro (by decide) ?_)
  refine Exists.intro (lN (q_dx x)) (And.intro ((lN_and _ _).trans (congrArg lN (q_dx_and x))) ?_)
  refine Exists.intro (nI (q_dx x)) (And.intro (lN_i _) ?_)
  obtain ⟨σ1, eσ1⟩ : ∃ zs, zs = (qx_wi σ 15 10 (nI (q_dx x))) := ⟨_, rfl⟩
  have fσ1 := qn_wif eσ1
  refine And.intro rfl (Exists.intro 10 (Exists.intro σ1 (And.intro rfl (And.intro eσ1.symm ?_))))
  refine And.intro rfl (Exists.intro 15 (And.intro rfl ?_))
  refine And.intro rfl (Exists.intro 16 (And.intro rfl ?_))
  refine And.intro rfl (Exists.intro 5 (Exists.intro (nI pe) (And.intro rfl (And.intro ((fσ1.i _ _ rfl).trans (e1)) ?_))))
  refine And.intro (fun h40 => ?_) (fun h40 => ?_)
  · skip
    have h40 := nI_neT (a := pe) (b := 0) (by omega) (by decide) h40
    refine And.intro rfl (Exists.intro 15 (And.intro rfl ?_))
    refine And.intro rfl (Exists.intro 10 (Exists.intro (nI (q_dx x)) (And.intro rfl (And.intro (qn_eq eσ1) ?_))))
    refine Exists.intro (nI 16) (And.intro rfl ?_)
    refine Exists.intro (nI (q_dx x / 65536)) (And.intro (nI_shr (by omega) (by decide)) ?_)
    refine And.intro (nI_ne0 (by omega) (by omega)) (Exists.intro (nI ((q_dx x / 65536) % pe)) (And.intro (nI_rem (by omega) (by omega)) ?_))
    exact ⟨rfl, fσ1, qn_eq eσ1⟩
  · skip
    have h40 := nI_eqT (a := pe) (b := 0) (by omega) (by decide) h40
    exact absurd h40 (by omega)
/-- who is content on trial -/
theorem l_cot {G : qx_G} {σ0 : qx_S} {S T : qS} {rf : Option qR} {e : Nat} (hpe : s_n S 1 ≤ 10) (hT : yT S T) : ∀ (m k g : Nat) (σ : qx_S), m + k = s_n S 1 → g = q_gl T rf k → cW σ T rf 180 → zR σ 180 (s_n S 1) (q_nw T) → cK σ e (q_kpg rf) (s_n S 1) (q_lk S rf) → ql kLw σ0 σ → qx_K G qc_T 5 RX11 YX11_contentOnTrial 4 [.ref 3, .int (nI g), .int (nI k)] [] σ (fun r s => r = some (.int (nI (q_gl T rf (s_n S 1)))) ∧ ql kLw σ0 s ∧ cK s e (q_kpg rf) (s_n S 1) (q_lk S rf)) := by
  intro m
  induction m with
  | zero =>
    intro k g σ hk hg hW hz hK hf
    have e1 : qx_mi σ 16 5 = nI (s_n S 1) := hW.2.1.2.2.1.2.1.trans (hT.1.1.2.1.1.trans (congrArg nI hT.n1))
    rw [show k = s_n S 1 by omega] at hg ⊢
    rw [← hg]
    refine qy_wp_ok (c := CX11_contentOnTrial) (cuts := [4]) vX11_contentOnTrial wX11_contentOnTrial 2000 4 _ _ _ ?_
    refine And.intro rfl (Exists.intro 15 (And.intro rfl ?_))
    refine And.intro rfl (Exists.intro 16 (And.intro rfl ?_))
    refine And.intro rfl (Exists.intro 5 (Exists.intro (nI (s_n S 1)) (And.intro rfl (And.intro e1 ?_))))
    refine And.intro (fun h15 => ?_) (fun h15 => ?_)
    · skip
      have h15 := nI_leT (a := s_n S 1) (b := s_n S 1) (by omega) (by omega) h15
      exact ⟨rfl, hf, hK⟩
    · skip
      have h15 := nI_leF (a := s_n S 1) (b := s_n S 1) (by omega) (by omega) h15
      exact absurd h15 (by omega)
  | succ m ih =>
    intro k g σ hk hg hW hz hK hf
    have e1 : qx_mi σ 16 5 = nI (s_n S 1) := hW.2.1.2.2.1.2.1.trans (hT.1.1.2.1.1.trans (congrArg nI hT.n1))
    have hkT : k < s_n T 1 := by rw [hT.n1]; omega
    have ak := hT.1.2.1.2.2 k hkT
    have a8 : s_at T k < 8 := Nat.lt_of_lt_of_le ak.2 hT.1.1.1.2
    have c0 := c_content (G := G) hW (by rw [hT.n1]; exact hK) (hT.H hpe hW.2.2) hkT a8
    rw [hT.n1] at c0
    have gk := q_gl_le T rf k
    have st : ∀ s, ql kLw σ s → cW s T rf 180 ∧ zR s 180 (s_n S 1) (q_nw T) ∧ ql kLw σ0 s := fun s f => ⟨hW.fr f rfl rfl, hz.fb (fun y j h1 h2 => f.i _ _ (pL_ne (by simp; omega))), hf.tr f⟩
    refine qy_wp_ok (c := CX11_contentOnTrial) (cuts := [4]) vX11_contentOnTrial wX11_contentOnTrial 2000 4 _ _ _ ?_
    refine And.intro rfl (Exists.intro 15 (And.intro rfl ?_))
    refine And.intro rfl (Exists.intro 16 (And.intro rfl ?_))
    refine And.intro rfl (Exists.intro 5 (Exists.intro (nI (s_n S 1)) (And.intro rfl (And.intro e1 ?_))))
    refine And.intro (fun h15 => ?_) (fun h15 => ?_)
    · skip
      have h15 := nI_leT (a := s_n S 1) (b := k) (by omega) (by omega) h15
      exact absurd h15 (by omega)
    · skip
      have h15 := nI_leF (a := s_n S 1) (b := k) (by omega) (by omega) h15
      refine And.intro rfl (Exists.intro 156 (And.intro rfl ?_))
      refine And.intro rfl (Exists.intro 180 (And.intro rfl ?_))
      refine And.intro rfl (Exists.intro 181 (And.intro rfl ?_))
      refine Exists.intro (k) (Exists.intro (nI (s_at T k)) (And.intro rfl (And.intro ⟨10, rfl, by omega, by decide⟩ (And.intro ((hz.2.2.1 k (by omega)).1.trans ((q_nw_at T (by omega)).trans ak.1)) ?_))))
      refine And.intro rfl (Exists.intro _ (And.intro (by decide) (qx_M_mono (c0) ?_)))
      rintro _ σ1 ⟨rfl, fσ1, kσ1⟩
      refine And.intro (fun h35 => ?_) (fun h35 => ?_)
      · skip
        have h35 := bI_f h35
        refine Exists.intro (nI (k + 1)) (And.intro (nI_add _ _) ?_)
        refine ih (k + 1) g _ (by omega) ?_ (st _ fσ1).1 (st _ fσ1).2.1 kσ1 (st _ fσ1).2.2
        rw [hg]
        show _ = _ + (if q_aw T rf none k (s_at T k) = true then 0 else 1)
        rw [if_pos (by cases hq : q_aw T rf none k (s_at T k) with | true => rfl | false => rw [hq] at h35; cases h35)]
        rfl
      · skip
        have h35 := bI_t h35
        refine Exists.intro (nI (g + 1)) (And.intro (nI_add _ _) ?_)
        refine Exists.intro (nI (k + 1)) (And.intro (nI_add _ _) ?_)
        refine ih (k + 1) (g + 1) _ (by omega) ?_ (st _ fσ1).1 (st _ fσ1).2.1 kσ1 (st _ fσ1).2.2
        rw [hg]
        show _ = _ + (if q_aw T rf none k (s_at T k) = true then 0 else 1)
        rw [if_neg (by intro hq; rw [hq] at h35; cases h35)]
theorem c_cot {G : qx_G} {σ : qx_S} {S T : qS} {rf : Option qR} {e x : Nat} (hB : yB σ S rf e x) (hz : zR σ 180 (s_n S 1) (q_nw T)) (hT : yT S T) : qx_M G qc_T 5 YX11_contentOnTrial [.ref 3] σ (fun r s => r = some (.int (nI (q_gl T rf (s_n S 1)))) ∧ ql kLw σ s ∧ cK s e (q_kpg rf) (s_n S 1) (q_lk S rf)) := by
  refine qx_M_in rfl (Nat.le_of_ble_eq_true rfl) ?_
  refine qy_wp_ok (c := CX11_contentOnTrial) (cuts := [4]) vX11_contentOnTrial wX11_contentOnTrial 2000 0 _ _ _ ?_
  refine Exists.intro (nI 0) (And.intro rfl ?_)
  refine Exists.intro (nI 0) (And.intro rfl ?_)
  exact l_cot hB.1.pe hT (s_n S 1) 0 0 σ (by omega) rfl (hB.W hz hT) hz hB.2.2.2.2.2.1 qf.rf
theorem yB.lw {σ s : qx_S} {S : qS} {rf : Option qR} {e x : Nat} (h : yB σ S rf e x) (f : ql kLw σ s) (k : cK s e (q_kpg rf) (s_n S 1) (q_lk S rf)) : yB s S rf e x := h.g (qg.of f h.2.2.2.2.2.2.2.1) k (h.2.2.2.2.2.2.1.fr f rfl)
theorem kYr_qg {l : List (Nat × Option Nat)} {σ s : qx_S} (f : ql l σ s) (h9 : 229 ≤ σ.1) (hl : pLs l kYr = true) : qg kYr σ s := (qg.of f h9).mn hl
theorem l_ly {G : qx_G} {σ0 : qx_S} {S : qS} {rf : Option qR} {e nn w : Nat} {Y : q_Y} {Φ : qx_F} (h0 : 0 < s_n S 1) (hn : nn ≤ 200) (key : ∀ s, yB s S rf e Y.2.1 → zR s 180 (s_n S 1) (q_nw Y.1) → yT S Y.1 → qg kYr σ0 s → Y.1 6 = S 6 + nI Y.2.2.1 → qx_K G qc_T 6 RX11 YX11_liveYear 131 [.ref 3, .retAddr 0, .int (nI w), .int Y.2.2.2, .retAddr 0, .retAddr 0, .retAddr 0] [] s Φ) : ∀ (m k : Nat) (σ : qx_S) (T : qS) (x r : Nat) (c : Int32), m + k = nn → yB σ S rf e x → zR σ 180 (s_n S 1) (q_nw T) → yT S T → qg kYr σ0 σ → q_yn rf m (T, x, r, c) = Y → T 6 = S 6 + nI r → qx_K G qc_T 6 RX11 YX11_liveYear 19 [.ref 3, .int (nI nn), .int (nI w), .int c, .int (nI k), .retAddr 0, .retAddr 0] [] σ Φ := by
  intro m
  induction m with
  | zero =>
    intro k σ T x r c hk hB hz hT hf hY h6
    obtain rfl : k = nn := by omega
    have hY : (T, x, r, c) = Y := hY
    rw [← hY] at key
    refine qy_wp_ok (c := CX11_liveYear) (cuts := [131]) vX11_liveYear wX11_liveYear 2000 19 _ _ _ ?_
    refine And.intro (fun h22 => ?_) (fun h22 => ?_)
    · skip
      have h22 := nI_leT (a := k) (b := k) (by omega) (by omega) h22
      refine qx_K_le (ls := [.ref 3, .retAddr 0, .int (nI w), .int c, .retAddr 0, .retAddr 0, .retAddr 0]) ⟨Or.inr rfl, Or.inl rfl, Or.inr rfl, Or.inr rfl, Or.inl rfl, Or.inr rfl, Or.inr rfl, trivial⟩ ?_
      exact key _ hB hz hT hf h6
    · skip
      have h22 := nI_leF (a := k) (b := k) (by omega) (by omega) h22
      exact absurd h22 (by omega)
  | succ m ih =>
    intro k σ T x r c hk hB hz hT hf hY h6
    have hpe := hB.1.pe
    have hx := hB.2.2.2.2.2.2.2.2.2
    have h9 := hB.2.2.2.2.2.2.2.1
    rw [q_yn_s] at hY
    obtain ⟨a, ea⟩ : ∃ a, q_dw (q_dx x) (s_n S 1) = a := ⟨_, rfl⟩
    obtain ⟨b, eb⟩ : ∃ b, q_dw (q_dx (q_dx x)) (s_n S 1) = b := ⟨_, rfl⟩
    have ha : a < s_n S 1 := by rw [← ea]; exact q_dw_lt _ h0
    have hb : b < s_n S 1 := by rw [← eb]; exact q_dw_lt _ h0
    have haT : a < s_n T 1 := by rw [hT.n1]; exact ha
    have hbT : b < s_n T 1 := by rw [hT.n1]; exact hb
    have aa := hT.1.2.1.2.2 a haT
    have ab := hT.1.2.1.2.2 b hbT
    have a8 : s_at T a < 8 := Nat.lt_of_lt_of_le aa.2 hT.1.1.1.2
    have b8 : s_at T b < 8 := Nat.lt_of_lt_of_le ab.2 hT.1.1.1.2
    have no : (a = b ∨ q_can T rf a b = false) → q_yn rf m (T, q_dx (q_dx x), r, c) = Y := by
      intro h
      rw [← hY, q_y1_no (by rw [hT.n1, ea, eb]; exact h)]
    have yes : ¬ (a = b ∨ q_can T rf a b = false) → q_yn rf m (q_dn a b T, q_dx (q_dx x), r + 1, c + (q_chc (q_two a b) 2 2 0 T 0).2) = Y := by
      intro h
      rw [← hY, q_y1_yes (by rw [hT.n1, ea, eb]; exact h), hT.n1, ea, eb]
    have e1 : qx_mi σ 16 5 = nI (s_n S 1) := hB.2.1.2.1.trans hB.1.1.1.2.1.1
    have b1 : ∀ s1, ql [(15, some 10)] σ s1 → qx_mi s1 15 10 = nI (q_dx x) → yB s1 S rf e (q_dx x) ∧ zR s1 180 (s_n S 1) (q_nw T) ∧ qg kYr σ0 s1 := fun s1 f q => ⟨hB.fr f (fun y j h => pL_ne (by simp; omega)) rfl q (q_dx_lt _), hz.fb (fun y j h1 h2 => f.i _ _ (pL_ne (by simp; omega))), hf.tr (kYr_qg f h9 rfl)⟩
    have b2 : ∀ s1 s2, ql [(15, some 10)] σ s1 → qx_mi s1 15 10 = nI (q_dx x) → ql [(15, some 10)] s1 s2 → qx_mi s2 15 10 = nI (q_dx (q_dx x)) → yB s2 S rf e (q_dx (q_dx x)) ∧ zR s2 180 (s_n S 1) (q_nw T) ∧ qg kYr σ0 s2 := fun s1 s2 f q f2 q2 => ⟨(b1 s1 f q).1.fr f2 (fun y j h => pL_ne (by simp; omega)) rfl q2 (q_dx_lt _), (b1 s1 f q).2.1.fb (fun y j h1 h2 => f2.i _ _ (pL_ne (by simp; omega))), (b1 s1 f q).2.2.tr (kYr_qg f2 (b1 s1 f q).1.2.2.2.2.2.2.2.1 rfl)⟩
    have cc : ∀ s2, yB s2 S rf e (q_dx (q_dx x)) → zR s2 180 (s_n S 1) (q_nw T) → qx_M G qc_T 4 YX2_canChange [.ref 156, .int (nI a), .int (nI b), .int (nI (s_at T a)), .int (nI (s_at T b))] s2 (fun r s => r = some (.int (bI (q_can T rf a b))) ∧ qg kLw s2 s ∧ cK s e (q_kpg rf) (s_n S 1) (q_lk S rf) ∧ kTw s e (s_n S 1) (q_c2 S rf)) := by
      intro s2 h1 h2
      have c0 := c_canChange (G := G) (h1.W h2 hT) (by rw [hT.n1]; exact h1.2.2.2.2.2.1) (hT.H hpe h1.2.2.2.2.1) (by rw [hT.n1]; exact h1.2.2.2.2.2.2.1) (hT.H2 hpe h1.2.2.2.2.1) h1.2.2.2.2.2.2.2.1 haT hbT a8 b8
      rw [hT.n1] at c0
      rw [q_can_c2]
      exact c0
    have b3 : ∀ s2 s3, yB s2 S rf e (q_dx (q_dx x)) → zR s2 180 (s_n S 1) (q_nw T) → qg kYr σ0 s2 → qg kLw s2 s3 → cK s3 e (q_kpg rf) (s_n S 1) (q_lk S rf) → kTw s3 e (s_n S 1) (q_c2 S rf) → yB s3 S rf e (q_dx (q_dx x)) ∧ zR s3 180 (s_n S 1) (q_nw T) ∧ qg kYr σ0 s3 := fun s2 s3 h1 h2 h3 f k t => ⟨h1.g f k t, h2.fb (fun y j p1 p2 => f.iv (by have := f.1; omega) (Or.inl (by omega)) (pL_ne (by simp; omega))), h3.tr (f.mn rfl)⟩
    have b6 : ∀ s3 s4 s5 s6, yB s3 S rf e (q_dx (q_dx x)) → zR s3 180 (s_n S 1) (q_nw T) → qg kYr σ0 s3 → ql [(185, some 1)] s3 s4 → ql [(185, some 1), (185 + 1, none)] s4 s5 → ql [(185, some 1), (185 + 1, none)] s5 s6 → yB s6 S rf e (q_dx (q_dx x)) ∧ zR s6 180 (s_n S 1) (q_nw T) ∧ qg kYr σ0 s6 := by
      intro s3 s4 s5 s6 h1 h2 h3 f4 f5 f6
      have f : ql [(185, none), (186, none)] s3 s6 := (qf.mn f4 rfl).tr ((qf.mn f5 rfl).tr (qf.mn f6 rfl))
      exact ⟨h1.fr f (fun y j h => pL_ne (by simp; omega)) rfl ((f.i _ _ rfl).trans h1.2.2.2.2.2.2.2.2.1) (q_dx_lt _), h2.fb (fun y j p1 p2 => f.i _ _ (pL_ne (by simp; omega))), h3.tr (kYr_qg f h1.2.2.2.2.2.2.2.1 rfl)⟩
    have rg6 : ∀ s5 s6, qx_mi s5 (185 + 1) 0 = nI a → qx_mi s6 185 1 = nI (1 + 1) → qx_mi s6 (185 + 1) 1 = nI b → (∀ j, j ≠ 1 → qx_mi s6 (185 + 1) j = qx_mi s5 (185 + 1) j) → rgC s6 185 (q_two a b) 2 := by
      intro s5 s6 h1 h2 h3 h4
      refine ⟨⟨rfl, rfl⟩, h2, fun j hj => ?_⟩
      rcases (show j = 0 ∨ j = 1 by omega) with z | z
      · rw [z, h4 0 (by decide), h1]
        rfl
      · rw [z, h3]
        rfl
    have b7 : ∀ s6 s7, yB s6 S rf e (q_dx (q_dx x)) → qg kYr σ0 s6 → ql (kS5 180) s6 s7 → zR s7 180 (s_n S 1) (q_nw (q_dne (q_two a b) 2 T)) → yB s7 S rf e (q_dx (q_dx x)) ∧ zR s7 180 (s_n S 1) (q_nw (q_dn a b T)) ∧ qg kYr σ0 s7 := fun s6 s7 h1 h3 f z => by rw [← q_dn_e] at z; exact ⟨h1.fr f (fun y j h => kS5_ne (by omega)) rfl ((f.i _ _ (kS5_ne (by omega))).trans h1.2.2.2.2.2.2.2.2.1) (q_dx_lt _), z, h3.tr (kYr_qg f h1.2.2.2.2.2.2.2.1 rfl)⟩
    have w6 : ∀ s6, yB s6 S rf e (q_dx (q_dx x)) → ∀ p, p < s_n S 1 → qx_mi s6 17 p = T (10 + 5 * p + 1) := fun s6 h p hp => (h.2.1.2.2.2.1 p hp).1.trans (hT.2.2 _ (by omega)).symm
    refine qy_wp_ok (c := CX11_liveYear) (cuts := [19]) vX11_liveYear wX11_liveYear 2000 19 _ _ _ ?_
    refine And.intro (fun h22 => ?_) (fun h22 => ?_)
    · skip
      have h22 := nI_leT (a := nn) (b := k) (by omega) (by omega) h22
      exact absurd h22 (by omega)
    · skip
      have h22 := nI_leF (a := nn) (b := k) (by omega) (by omega) h22
      refine And.intro rfl (Exists.intro _ (And.intro (by decide) (qx_M_mono (c_drawn hx hB.2.2.2.2.2.2.2.2.1 e1 h0 hpe ea) ?_)))
      rintro _ σ1 ⟨rfl, fσ1, qσ1⟩
      refine And.intro rfl (Exists.intro _ (And.intro (by decide) (qx_M_mono (c_drawn (q_dx_lt x) qσ1 ((fσ1.i _ _ rfl).trans e1) h0 hpe eb) ?_)))
      rintro _ σ2 ⟨rfl, fσ2, qσ2⟩
      refine And.intro (fun h41 => ?_) (fun h41 => ?_)
      · skip
        have h41 := nI_eqT (a := a) (b := b) (by omega) (by omega) h41
        refine Exists.intro (nI (k + 1)) (And.intro (nI_add _ _) ?_)
        refine qx_K_le (ls := [.ref 3, .int (nI nn), .int (nI w), .int c, .int (nI (k + 1)), .retAddr 0, .retAddr 0]) ⟨Or.inr rfl, Or.inr rfl, Or.inr rfl, Or.inr rfl, Or.inr rfl, Or.inl rfl, Or.inl rfl, trivial⟩ ?_
        exact ih (k + 1) _ T _ r c (by omega) (b2 _ _ fσ1 qσ1 fσ2 qσ2).1 (b2 _ _ fσ1 qσ1 fσ2 qσ2).2.1 hT (b2 _ _ fσ1 qσ1 fσ2 qσ2).2.2 (no (Or.inl h41)) h6
      · skip
        have h41 := nI_neT (a := a) (b := b) (by omega) (by omega) h41
        refine And.intro rfl (Exists.intro 156 (And.intro rfl ?_))
        refine And.intro rfl (Exists.intro 180 (And.intro rfl ?_))
        refine And.intro rfl (Exists.intro 181 (And.intro rfl ?_))
        refine Exists.intro (a) (Exists.intro (nI (s_at T a)) (And.intro rfl (And.intro ⟨10, rfl, by omega, by decide⟩ (And.intro ((fσ2.i _ _ rfl).trans ((fσ1.i _ _ rfl).trans (((hz.2.2.1 a ha).1.trans ((q_nw_at T (by omega)).trans aa.1))))) ?_))))
        refine And.intro rfl (Exists.intro 180 (And.intro rfl ?_))
        refine And.intro rfl (Exists.intro 181 (And.intro rfl ?_))
        refine Exists.intro (b) (Exists.intro (nI (s_at T b)) (And.intro rfl (And.intro ⟨10, rfl, by omega, by decide⟩ (And.intro ((fσ2.i _ _ rfl).trans ((fσ1.i _ _ rfl).trans (((hz.2.2.1 b hb).1.trans ((q_nw_at T (by omega)).trans ab.1))))) ?_))))
        refine And.intro rfl (Exists.intro _ (And.intro (by decide) (qx_M_mono (cc _ (b2 _ _ fσ1 qσ1 fσ2 qσ2).1 (b2 _ _ fσ1 qσ1 fσ2 qσ2).2.1) ?_)))
        rintro _ ρ ⟨rfl, fρ, kρ, tρ⟩
        obtain ⟨i3, z3, g3⟩ := b3 _ _ (b2 _ _ fσ1 qσ1 fσ2 qσ2).1 (b2 _ _ fσ1 qσ1 fσ2 qσ2).2.1 (b2 _ _ fσ1 qσ1 fσ2 qσ2).2.2 fρ kρ tρ
        refine And.intro (fun h75 => ?_) (fun h75 => ?_)
        · skip
          have h75 := bI_f h75
          refine Exists.intro (nI (k + 1)) (And.intro (nI_add _ _) ?_)
          refine qx_K_le (ls := [.ref 3, .int (nI nn), .int (nI w), .int c, .int (nI (k + 1)), .retAddr 0, .retAddr 0]) ⟨Or.inr rfl, Or.inr rfl, Or.inr rfl, Or.inr rfl, Or.inr rfl, Or.inl rfl, Or.inl rfl, trivial⟩ ?_
          exact ih (k + 1) _ T _ r c (by omega) i3 z3 hT g3 (no (Or.inr h75)) h6
        · skip
          have h75 := bI_t h75
          refine And.intro rfl (Exists.intro 185 (And.intro rfl ?_))
          refine Exists.intro (nI 0) (And.intro rfl ?_)
          obtain ⟨σ4, eσ4⟩ : ∃ zs, zs = (qx_wi ρ 185 1 (nI 0)) := ⟨_, rfl⟩
          have fσ4 := qn_wif eσ4
          refine And.intro rfl (Exists.intro 1 (Exists.intro σ4 (And.intro rfl (And.intro eσ4.symm ?_))))
          have eM := eσ4
          have fM := fσ4
          refine And.intro rfl (Exists.intro 185 (And.intro rfl ?_))
          refine And.intro rfl (Exists.intro _ (And.intro (by decide) (qx_M_mono (c_add ⟨rfl, rfl⟩ (qn_eq eM) (by decide)) ?_)))
          rintro _ τ ⟨rfl, fτ, aτ, bτ, cτ⟩
          refine And.intro rfl (Exists.intro 185 (And.intro rfl ?_))
          refine And.intro rfl (Exists.intro _ (And.intro (by decide) (qx_M_mono (c_add ⟨rfl, rfl⟩ aτ (by decide)) ?_)))
          rintro _ μ ⟨rfl, fμ, aμ, bμ, cμ⟩
          obtain ⟨i6, z6, g6⟩ := b6 _ _ _ _ i3 z3 g3 fM fτ fμ
          refine And.intro rfl (Exists.intro 180 (And.intro rfl ?_))
          refine And.intro rfl (Exists.intro 185 (And.intro rfl ?_))
          refine And.intro rfl (Exists.intro 15 (And.intro rfl ?_))
          refine And.intro rfl (Exists.intro 16 (And.intro rfl ?_))
          refine And.intro rfl (Exists.intro _ (And.intro (by decide) (qx_M_mono (c_change hpe (by decide) (by decide) (fun j _ => q_two_lt ha hb j) ⟨rfl, rfl, rfl, rfl, rfl⟩ (rg6 _ _ bτ aμ bμ cμ) (by decide) (w6 _ i6) (by decide) z6) ?_)))
          rintro _ ν ⟨rfl, fν, zν⟩
          refine Exists.intro (c + ((q_chc (q_two a b) 2 2 0 T 0).2)) (And.intro rfl ?_)
          refine Exists.intro (nI (k + 1)) (And.intro (nI_add _ _) ?_)
          refine qx_K_le (ls := [.ref 3, .int (nI nn), .int (nI w), .int (c + ((q_chc (q_two a b) 2 2 0 T 0).2)), .int (nI (k + 1)), .retAddr 0, .retAddr 0]) ⟨Or.inr rfl, Or.inr rfl, Or.inr rfl, Or.inr rfl, Or.inr rfl, Or.inl rfl, Or.inl rfl, trivial⟩ ?_
          exact ih (k + 1) _ (q_dn a b T) _ (r + 1) _ (by omega) (b7 _ _ i6 g6 fν zν).1 (b7 _ _ i6 g6 fν zν).2.1 (hT.dn hpe ha hb) (b7 _ _ i6 g6 fν zν).2.2 (yes (fun z => z.elim h41 (fun z => absurd (z.symm.trans h75) (by decide)))) (by rw [q_dn_6 (by omega) (by omega), h6, Int32.add_assoc, nI_add])
theorem c_liveYear {G : qx_G} {σ : qx_S} {S : qS} {rf : Option qR} {e x nn w : Nat} {Y : q_Y} (hB : yB σ S rf e x) (h0 : 0 < s_n S 1) (hn : nn ≤ 200) (hw : w ≤ 2) (hY : q_yn rf nn (S, x, 0, 0) = Y) : qx_M G qc_T 6 YX11_liveYear [.ref 3, .int (nI nn), .int (nI w)] σ (fun r s => r = some (.int (if w = 0 then nI Y.2.2.1 else if w = 1 then Y.2.2.2 else nI (q_gl Y.1 rf (s_n S 1)))) ∧ qg kYr σ s ∧ yB s S rf e Y.2.1) := by
  have hpe := hB.1.pe
  have key : ∀ s, yB s S rf e Y.2.1 → zR s 180 (s_n S 1) (q_nw Y.1) → yT S Y.1 → qg kYr σ s → Y.1 6 = S 6 + nI Y.2.2.1 → qx_K G qc_T 6 RX11 YX11_liveYear 131 [.ref 3, .retAddr 0, .int (nI w), .int Y.2.2.2, .retAddr 0, .retAddr 0, .retAddr 0] [] s (fun r s => r = some (.int (if w = 0 then nI Y.2.2.1 else if w = 1 then Y.2.2.2 else nI (q_gl Y.1 rf (s_n S 1)))) ∧ qg kYr σ s ∧ yB s S rf e Y.2.1) := by
    intro s h1 h2 h3 h4 h5
    have e5 : qx_mi s 180 5 - qx_mi s 21 5 = nI Y.2.2.1 := by
      rw [h2.2.1, h1.2.2.1.2.1]
      show Y.1 6 - S 6 = _
      rw [h5, Int32.add_comm, Int32.add_sub_cancel]
    refine qy_wp_ok (c := CX11_liveYear) (cuts := []) vX11_liveYear wX11_liveYear 2000 131 _ _ _ ?_
    refine And.intro (fun h132 => ?_) (fun h132 => ?_)
    · skip
      have h132 := nI_neT (a := w) (b := 0) (by omega) (by decide) h132
      refine Exists.intro (nI 1) (And.intro rfl ?_)
      refine And.intro (fun h156 => ?_) (fun h156 => ?_)
      · skip
        have h156 := nI_neT (a := w) (b := 1) (by omega) (by decide) h156
        refine And.intro rfl (Exists.intro _ (And.intro (by decide) (qx_M_mono (c_cot h1 h2 h3) ?_)))
        rintro _ ρ ⟨rfl, fρ, kρ⟩
        exact ⟨by rw [if_neg h132, if_neg h156], h4.tr (kYr_qg fρ h1.2.2.2.2.2.2.2.1 rfl), h1.lw fρ kρ⟩
      · skip
        have h156 := nI_eqT (a := w) (b := 1) (by omega) (by decide) h156
        exact ⟨by rw [if_neg h132, if_pos h156], h4, h1⟩
    · skip
      have h132 := nI_eqT (a := w) (b := 0) (by omega) (by decide) h132
      refine And.intro rfl (Exists.intro 180 (And.intro rfl ?_))
      refine And.intro rfl (Exists.intro 5 (Exists.intro (qx_mi s 180 5) (And.intro rfl (And.intro rfl ?_))))
      refine And.intro rfl (Exists.intro 15 (And.intro rfl ?_))
      refine And.intro rfl (Exists.intro 21 (And.intro rfl ?_))
      refine And.intro rfl (Exists.intro 5 (Exists.intro (qx_mi s 21 5) (And.intro rfl (And.intro rfl ?_))))
      refine Exists.intro (nI Y.2.2.1) (And.intro e5 ?_)
      exact ⟨by rw [if_pos h132], h4, h1⟩
  have st : ∀ s, ql (kS5 180) σ s → cpS σ s 180 21 → yB s S rf e x ∧ zR s 180 (s_n S 1) (q_nw S) ∧ qg kYr σ s := fun s f c => ⟨hB.fr f (fun y j h => kS5_ne (by omega)) rfl ((f.i _ _ (kS5_ne (by omega))).trans hB.2.2.2.2.2.2.2.2.1) hB.2.2.2.2.2.2.2.2.2, hB.2.2.1.cp hpe c, kYr_qg f hB.2.2.2.2.2.2.2.1 rfl⟩
  refine qx_M_in rfl (Nat.le_of_ble_eq_true rfl) ?_
  refine qy_wp_ok (c := CX11_liveYear) (cuts := [19]) vX11_liveYear wX11_liveYear 2000 0 _ _ _ ?_
  refine And.intro rfl (Exists.intro 180 (And.intro rfl ?_))
  refine And.intro rfl (Exists.intro 15 (And.intro rfl ?_))
  refine And.intro rfl (Exists.intro 21 (And.intro rfl ?_))
  refine And.intro rfl (Exists.intro _ (And.intro (by decide) (qx_M_mono (c_copyS ⟨rfl, rfl, rfl, rfl, rfl⟩ ⟨rfl, rfl, rfl, rfl, rfl⟩ (by decide)) ?_)))
  rintro _ ρ ⟨rfl, fρ, gρ⟩
  refine Exists.intro (nI 0) (And.intro rfl ?_)
  refine Exists.intro (nI 0) (And.intro rfl ?_)
  exact l_ly h0 hn key nn 0 _ S x 0 0 (by omega) (st _ fρ gρ).1 (st _ fρ gρ).2.1 ⟨hB.1.1, hB.1.2.1, sR.rf⟩ (st _ fρ gρ).2.2 hY (Int32.add_zero _).symm

