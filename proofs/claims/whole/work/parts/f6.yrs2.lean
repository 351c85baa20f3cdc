/-! THE CLASS: years, all of them -/
theorem c_askOf {G : qx_G} {σ : qx_S} {rf : Option qR} (h : cRu σ rf) : qx_M G qc_T 0 YX2_askOf [.ref 156, .ref 180] σ (fun r s => r = none ∧ s = qx_wi (qx_wr σ 156 6 (some 180)) 156 9 (bI (q_kpg rf))) := by
  cases rf with
  | none =>
    have h : qx_mr σ 156 7 = none := h
    refine qx_M_in rfl (Nat.le_of_ble_eq_true rfl) ?_
    refine qy_wp_ok (c := CX2_askOf) (cuts := []) vX2_askOf wX2_askOf 2000 0 _ _ _ ?_
    refine And.intro rfl (Exists.intro 6 (Exists.intro (qx_wr σ 156 6 (some 180)) (And.intro rfl (And.intro rfl ?_))))
    refine And.intro rfl (Exists.intro 7 (Exists.intro none (And.intro rfl (And.intro ((qw_rne (by first | (left; decide) | (right; omega) | (left; omega))).trans (h)) ?_))))
    refine Exists.intro (nI 1) (And.intro rfl ?_)
    obtain ⟨σ1, eσ1⟩ : ∃ zs, zs = (qx_wi (qx_wr σ 156 6 (some 180)) 156 9 (nI 1)) := ⟨_, rfl⟩
    have fσ1 := qn_wif eσ1
    refine And.intro rfl (And.intro (by decide) (Exists.intro 9 (Exists.intro σ1 (And.intro rfl (And.intro eσ1.symm ?_)))))
    exact ⟨rfl, eσ1⟩
  | some R =>
    obtain ⟨x, h1, h2, h3, h4, h5⟩ := h
    have e8 : qx_mi σ x 8 = bI (q_gw (q_cd R) (q_len R)) := h4.2.2.2.1
    refine qx_M_in rfl (Nat.le_of_ble_eq_true rfl) ?_
    refine qy_wp_ok (c := CX2_askOf) (cuts := []) vX2_askOf wX2_askOf 2000 0 _ _ _ ?_
    refine And.intro rfl (Exists.intro 6 (Exists.intro (qx_wr σ 156 6 (some 180)) (And.intro rfl (And.intro rfl ?_))))
    refine And.intro rfl (Exists.intro 7 (Exists.intro (some x) (And.intro rfl (And.intro ((qw_rne (by first | (left; decide) | (right; omega) | (left; omega))).trans (h1)) ?_))))
    refine And.intro rfl (Exists.intro 7 (Exists.intro (some x) (And.intro rfl (And.intro ((qw_rne (by first | (left; decide) | (right; omega) | (left; omega))).trans (h1)) ?_))))
    refine And.intro (by rw [show qx_sh qc_T _ x = _ from (show qx_sh qc_T (qx_wr σ 156 6 (some 180)) x = (13, 0) from h3.2.1)]; rfl) (Exists.intro 8 (Exists.intro (bI (q_gw (q_cd R) (q_len R))) (And.intro rfl (And.intro e8 ?_))))
    refine And.intro (fun h20 => ?_) (fun h20 => ?_)
    · skip
      have h20 := bI_t h20
      refine Exists.intro (nI 0) (And.intro rfl ?_)
      obtain ⟨σ1, eσ1⟩ : ∃ zs, zs = (qx_wi (qx_wr σ 156 6 (some 180)) 156 9 (nI 0)) := ⟨_, rfl⟩
      have fσ1 := qn_wif eσ1
      refine And.intro rfl (And.intro (by decide) (Exists.intro 9 (Exists.intro σ1 (And.intro rfl (And.intro eσ1.symm ?_)))))
      exact ⟨rfl, eσ1.trans (congrArg (qx_wi (qx_wr σ 156 6 (some 180)) 156 9) (by show _ = bI (!q_gw (q_cd R) (q_len R)); rw [h20]; rfl))⟩
    · skip
      have h20 := bI_f h20
      refine Exists.intro (nI 1) (And.intro rfl ?_)
      obtain ⟨σ1, eσ1⟩ : ∃ zs, zs = (qx_wi (qx_wr σ 156 6 (some 180)) 156 9 (nI 1)) := ⟨_, rfl⟩
      have fσ1 := qn_wif eσ1
      refine And.intro rfl (And.intro (by decide) (Exists.intro 9 (Exists.intro σ1 (And.intro rfl (And.intro eσ1.symm ?_)))))
      exact ⟨rfl, eσ1.trans (congrArg (qx_wi (qx_wr σ 156 6 (some 180)) 156 9) (by show _ = bI (!q_gw (q_cd R) (q_len R)); rw [h20]; rfl))⟩
theorem c_askAsUsual {G : qx_G} {σ : qx_S} : qx_M G qc_T 0 YX2_askAsUsual [.ref 156] σ (fun r s => r = none ∧ s = qx_wi (qx_wr σ 156 6 (some 21)) 156 9 (bI true)) := by
  refine qx_M_in rfl (Nat.le_of_ble_eq_true rfl) ?_
  refine qy_wp_ok (c := CX2_askAsUsual) (cuts := []) vX2_askAsUsual wX2_askAsUsual 2000 0 _ _ _ ?_
  refine And.intro rfl (Exists.intro 21 (And.intro rfl ?_))
  refine And.intro rfl (Exists.intro 6 (Exists.intro (qx_wr σ 156 6 (some 21)) (And.intro rfl (And.intro rfl ?_))))
  refine Exists.intro (nI 1) (And.intro rfl ?_)
  obtain ⟨σ1, eσ1⟩ : ∃ zs, zs = (qx_wi (qx_wr σ 156 6 (some 21)) 156 9 (nI 1)) := ⟨_, rfl⟩
  have fσ1 := qn_wif eσ1
  refine And.intro rfl (And.intro (by decide) (Exists.intro 9 (Exists.intro σ1 (And.intro rfl (And.intro eσ1.symm ?_)))))
  exact ⟨rfl, eσ1⟩
theorem ask_i {σ s : qx_S} {v : Option Nat} {b : Int32} (es : s = qx_wi (qx_wr σ 156 6 v) 156 9 b) {a j : Nat} (h : ¬ (a = 156 ∧ j = 9)) : qx_mi s a j = qx_mi σ a j := qn_ne es (by omega)
theorem ask_r {σ s : qx_S} {v : Option Nat} {b : Int32} (es : s = qx_wi (qx_wr σ 156 6 v) 156 9 b) {a j : Nat} (h : ¬ (a = 156 ∧ j = 6)) : qx_mr s a j = qx_mr σ a j := by
  rw [es]
  exact qw_rne (by omega)
theorem ask_6 {σ s : qx_S} {v : Option Nat} {b : Int32} (es : s = qx_wi (qx_wr σ 156 6 v) 156 9 b) : qx_mr s 156 6 = v := by
  rw [es]
  show qx_mr (qx_wr σ 156 6 v) 156 6 = v
  exact qw_req
theorem ask_s {σ s : qx_S} {v : Option Nat} {b : Int32} (es : s = qx_wi (qx_wr σ 156 6 v) 156 9 b) (a : Nat) : qx_sh qc_T s a = qx_sh qc_T σ a := by
  rw [es]
  rfl
theorem ask_q {σ s : qx_S} {v : Option Nat} {b : Int32} (es : s = qx_wi (qx_wr σ 156 6 v) 156 9 b) : po s = po σ ∧ pcl s = pcl σ := by
  have q : ∀ a k n, ¬ (a = 156 ∧ k = 6) → qq s a k n = qq σ a k n := fun a k n h => by
    unfold qq
    rw [ask_r es h]
  unfold po pcl
  rw [q 156 5 _ (by omega), q 3 17 _ (by omega), q 3 18 _ (by omega), q 156 5 _ (by omega), q 3 17 _ (by omega), q 3 18 _ (by omega), show s.2.1 = σ.2.1 by rw [es]; rfl, show s.1 = σ.1 by rw [es]; rfl]
  exact ⟨rfl, rfl⟩
theorem yB.of {σ s : qx_S} {S : qS} {rf : Option qR} {e x : Nat} (hI : cI σ S rf e) (es : s = qx_wi (qx_wr σ 156 6 (some 180)) 156 9 (bI (q_kpg rf))) (e8 : S 8 = nI x) (hx : x < 2147483648) : yB s S rf e x := by
  have s1 : s.1 = σ.1 := by rw [es]; rfl
  refine ⟨hI.1, hI.2.1.1.fb hI.1.1.1 (fun k hk j => ask_i es (by omega)), hI.2.1.2.1.fb (fun y j _ _ => ask_i es (by omega)), ?_, ?_, ⟨(ask_i es (by omega)).trans hI.K.1, hI.K.2.1, qn_eq es, fun p a q hp ha hq => ?_⟩, ?_, by rw [s1]; exact hI.2.2.2.2.2.2.2.2, (ask_i es (by omega)).trans (hI.2.1.2.2.2.2.2.2.2.2.2.trans e8), hx⟩
  · exact ask_6 es
  · have h := hI.2.2.2.2.1
    cases rf with
    | none => exact (ask_r es (by omega)).trans h
    | some R =>
      obtain ⟨y, h1, h2, h3, h4, h5⟩ := h
      exact ⟨y, (ask_r es (by omega)).trans h1, ⟨h2.1, by rw [s1]; exact h2.2⟩, uR.sh h3 (fun y _ _ => ask_s es y), h4.lo (fun y hy hy2 j => ask_i es (by have := h2.1; omega)), h5⟩
  · obtain ⟨v, w1, w2⟩ := hI.K.2.2.2 p a q hp ha hq
    exact ⟨v, (ask_i es (by omega)).trans w1, w2⟩
  · rcases hI.T with t1 | ⟨t, t1⟩
    · exact Or.inl ((ask_r es (by omega)).trans t1)
    · refine Or.inr ⟨t, (ask_r es (by omega)).trans t1.1, t1.2.1, by rw [s1]; exact t1.2.2.1, (ask_s es t).trans t1.2.2.2.1, fun i j x y hi hj hx hy => ?_⟩
      obtain ⟨v, w1, w2⟩ := t1.2.2.2.2 i j x y hi hj hx hy
      exact ⟨v, (ask_i es (by have := t1.2.1; omega)).trans w1, w2⟩
theorem qg.ask {σ s0 s1 s2 : qx_S} {l : List (Nat × Option Nat)} {b b' : Int32} (h6 : qx_mr σ 156 6 = some 21) (h9 : 229 ≤ σ.1) (e0 : s0 = qx_wi (qx_wr σ 156 6 (some 180)) 156 9 b) (f : qg l s0 s1) (e2 : s2 = qx_wi (qx_wr s1 156 6 (some 21)) 156 9 b') (hl : pL l 156 9 = true) : qg l σ s2 := by
  have n0 : s0.1 = σ.1 := by rw [e0]; rfl
  have n2 : s2.1 = s1.1 := by rw [e2]; rfl
  have f1 := f.2.1
  have l9 : ∀ a j, pL l a j = false → ¬ (a = 156 ∧ j = 9) := fun a j h z => by
    rw [z.1, z.2, hl] at h
    cases h
  have ml0 : ∀ a j, qx_ml s0 a j = qx_ml σ a j := fun a j => by rw [e0]; rfl
  have ml2 : ∀ a j, qx_ml s2 a j = qx_ml s1 a j := fun a j => by rw [e2]; rfl
  refine ⟨h9, by omega, (ask_q e2).1.trans (f.2.2.1.trans (ask_q e0).1), (ask_q e2).2.trans (f.2.2.2.1.trans (ask_q e0).2), fun a ha => ?_, fun a j ha hp => ?_, fun a j t ha ht => ?_, fun a j ha hs hp => ?_, fun j => ?_⟩
  · rw [show s2.2.2.1 a = s1.2.2.1 a by rw [e2]; rfl, f.2.2.2.2.1 a (by omega)]
    rw [e0]
    rfl
  · by_cases z : a = 156 ∧ j = 6
    · rw [z.1, z.2, h6]
      exact ask_6 e2
    · exact (ask_r e2 z).trans ((f.2.2.2.2.2.1 a j (by omega) hp).trans (ask_r e0 z))
  · by_cases z : a = 156 ∧ j = 6
    · rw [z.1, z.2] at ht ⊢
      rw [← ht, h6]
      exact ask_6 e2
    · exact (ask_r e2 z).trans (f.2.2.2.2.2.2.1 a j t (by omega) ((ask_r e0 z).trans ht))
  · have k := f.2.2.2.2.2.2.2.1 a j (by omega) (by rw [ask_s e0]; exact hs) hp
    exact ⟨(ask_i e2 (l9 a j hp)).trans (k.1.trans (ask_i e0 (l9 a j hp))), (ml2 a j).trans (k.2.trans (ml0 a j))⟩
  · have r0 : qx_mr s0 3 j = qx_mr σ 3 j := ask_r e0 (by omega)
    have r2 : qx_mr s2 3 j = qx_mr s1 3 j := ask_r e2 (by omega)
    rcases f.2.2.2.2.2.2.2.2 j with z | ⟨b, z1, z2, z3, z4⟩
    · exact Or.inl (r2.trans (z.trans r0))
    · exact Or.inr ⟨b, r2.trans z1, r0.symm.trans z2, by omega, z4⟩
theorem cI.gx {σ s : qx_S} {S S' : qS} {rf : Option qR} {e : Nat} {l : List (Nat × Option Nat)} (h : cI σ S rf e) (f : qg l σ s) (g : gT S') (c : cSt s 15 S') (hl2 : kLow l = true) (h3 : pL l 3 15 = false) (h9 : pL l 15 9 = false) (k : cK s e true (s_n S' 1) (q_lk S' rf)) (t : kTw s e (s_n S' 1) (q_c2 S' rf)) : cI s S' rf e := by
  obtain ⟨a1, a2, a3, a4, a5, a6, a7, a8, a9⟩ := h
  have fr : ∀ a j, a = 14 ∨ a = 26 ∨ a = 29 → qx_mr s a j = qx_mr σ a j := fun a j ha => f.2.2.2.2.2.1 a j (by omega) (pL_ne (by simp; omega))
  refine ⟨g, c, ?_, (f.r _ _ rfl).trans a4, a5.gr f hl2, ?_, k, t, f.le⟩
  · obtain ⟨b1, b2, b3, b4, b5, b6, b7, b8, b9⟩ := a3
    refine ⟨rfl, b2, b3, rfl, b5, rfl, rfl, fun i hi => ⟨(fr _ _ (by omega)).trans (b8 i hi).1, ?_⟩, fun i hi => ⟨(fr _ _ (by omega)).trans (b9 i hi).1, ?_⟩⟩
    · have w := (b8 i hi).2
      exact ⟨(f.sv (by omega)).trans w.1, (f.sv (by omega)).trans w.2.1, (f.sv (by omega)).trans w.2.2.1, (f.sv (by omega)).trans w.2.2.2.1, (f.sv (by omega)).trans w.2.2.2.2⟩
    · have w := (b9 i hi).2
      exact ⟨(f.sv (by omega)).trans w.1, (f.sv (by omega)).trans w.2⟩
  · rw [show qx_mr s 156 7 = qx_mr σ 156 7 from f.r _ _ rfl]
    rcases a6 with ⟨a, b⟩ | ⟨g, nr, x, c1, c2, c3, c4, c5, c6⟩
    · exact Or.inl ⟨a, (f.iv (by omega) (Or.inl (by omega)) h9).trans b⟩
    · exact Or.inr ⟨g, nr, x, c1, (f.iv (by omega) (Or.inl (by omega)) h9).trans c2, (f.iv (by omega) (Or.inl (by omega)) h3).trans c3, c4, c5, (fr _ _ (by omega)).trans c6⟩
theorem q_y2_e (rf : Option qR) (n : Nat) (S : qS) (z : q_Z) : q_y2 rf n S z = ((q_yn rf n (S, z.1, 0, 0)).2.1, z.2.1 + (q_yn rf n (S, z.1, 0, 0)).2.2.1, z.2.2.1 + (q_yn rf n (S, z.1, 0, 0)).2.2.2, z.2.2.2 + q_gl (q_yn rf n (S, z.1, 0, 0)).1 rf (s_n S 1)) := by
  have h := q_yn_add rf n S z.1 0 0 z.2.1 z.2.2.1
  rw [Int32.add_zero, Nat.add_zero] at h
  unfold q_y2
  rw [h]
def q_tv (w : Nat) (z : q_Z) : Int32 := if w = 0 then nI z.2.1 else if w = 1 then z.2.2.1 else nI z.2.2.2
theorem q_tv_s (w : Nat) (rf : Option qR) (n : Nat) (S : qS) (z : q_Z) (Y : q_Y) (hY : q_yn rf n (S, z.1, 0, 0) = Y) : q_tv w z + (if w = 0 then nI Y.2.2.1 else if w = 1 then Y.2.2.2 else nI (q_gl Y.1 rf (s_n S 1))) = q_tv w (q_y2 rf n S z) := by
  rw [q_y2_e, hY]
  unfold q_tv
  by_cases h0 : w = 0
  · rw [if_pos h0, if_pos h0, if_pos h0, nI_add]
  · rw [if_neg h0, if_neg h0, if_neg h0]
    by_cases h1 : w = 1
    · rw [if_pos h1, if_pos h1, if_pos h1]
    · rw [if_neg h1, if_neg h1, if_neg h1, nI_add]
theorem l_years {G : qx_G} {σ0 : qx_S} {S : qS} {rf : Option qR} {e mm nn w : Nat} {Z : q_Z} {Φ : qx_F} (h0 : 0 < s_n S 1) (hm : mm ≤ 20) (hn : nn ≤ 200) (hw : w ≤ 2) (key : ∀ s, yB s S rf e Z.1 → qg kYr σ0 s → qx_K G qc_T 7 RX11 YX11_years 98 [.ref 3, .retAddr 0, .retAddr 0, .retAddr 0, .int (S 8), .int (q_tv w Z), .retAddr 0] [] s Φ) : ∀ (m k : Nat) (σ : qx_S) (z : q_Z) (v : Int32), m + k = mm → yB σ S rf e z.1 → qg kYr σ0 σ → q_ys rf nn S m z = Z → v = q_tv w z → qx_K G qc_T 7 RX11 YX11_years 75 [.ref 3, .int (nI mm), .int (nI nn), .int (nI w), .int (S 8), .int v, .int (nI k)] [] σ Φ := by
  intro m
  induction m with
  | zero =>
    intro k σ z v hk hB hf hZ hv
    obtain rfl : k = mm := by omega
    have hZ : z = Z := hZ
    rw [hZ] at hv hB
    rw [hv]
    refine qy_wp_ok (c := CX11_years) (cuts := [75, 98]) vX11_years wX11_years 2000 75 _ _ _ ?_
    refine And.intro (fun h78 => ?_) (fun h78 => ?_)
    · skip
      have h78 := nI_leT (a := k) (b := k) (by omega) (by omega) h78
      refine qx_K_le (ls := [.ref 3, .retAddr 0, .retAddr 0, .retAddr 0, .int (S 8), .int (q_tv w Z), .retAddr 0]) ⟨Or.inr rfl, Or.inl rfl, Or.inl rfl, Or.inl rfl, Or.inr rfl, Or.inr rfl, Or.inl rfl, trivial⟩ ?_
      exact key _ hB hf
    · skip
      have h78 := nI_leF (a := k) (b := k) (by omega) (by omega) h78
      exact absurd h78 (by omega)
  | succ m ih =>
    intro k σ z v hk hB hf hZ hv
    rw [q_ys_s] at hZ
    obtain ⟨Y, hY⟩ : ∃ Y, q_yn rf nn (S, z.1, 0, 0) = Y := ⟨_, rfl⟩
    have ez : (q_y2 rf nn S z).1 = Y.2.1 := by rw [q_y2_e, hY]
    have et := q_tv_s w rf nn S z Y hY
    obtain ⟨u, eu⟩ : ∃ u, u = (if w = 0 then nI Y.2.2.1 else if w = 1 then Y.2.2.2 else nI (q_gl Y.1 rf (s_n S 1))) := ⟨_, rfl⟩
    have cl := c_liveYear (G := G) hB h0 hn hw hY
    rw [← eu] at cl et
    refine qy_wp_ok (c := CX11_years) (cuts := [75]) vX11_years wX11_years 2000 75 _ _ _ ?_
    refine And.intro (fun h78 => ?_) (fun h78 => ?_)
    · skip
      have h78 := nI_leT (a := mm) (b := k) (by omega) (by omega) h78
      exact absurd h78 (by omega)
    · skip
      have h78 := nI_leF (a := mm) (b := k) (by omega) (by omega) h78
      refine And.intro rfl (Exists.intro _ (And.intro (by decide) (qx_M_mono (cl) ?_)))
      rintro _ ρ ⟨rfl, fρ, bρ⟩
      refine Exists.intro (v + u) (And.intro rfl ?_)
      refine Exists.intro (nI (k + 1)) (And.intro (nI_add _ _) ?_)
      exact ih (k + 1) _ (q_y2 rf nn S z) _ (by omega) (by rw [ez]; exact bρ) (hf.tr fρ) hZ (by rw [hv]; exact et)
theorem c_years_no {G : qx_G} {σ : qx_S} {S : qS} {rf : Option qR} {e : Nat} (hI : cI σ S rf e) {m n w : Int32} (hb : (!decide (s_n S 1 = 0) && q_in64 m.toInt64 (lN 1) (lN 20) && q_in64 n.toInt64 (lN 1) (lN 200) && q_in64 w.toInt64 (lN 0) (lN 2)) = false) : qx_M G qc_T 7 YX11_years [.ref 3, .int m, .int n, .int w] σ (qr (-1) σ) := by
  have hpe := hI.1.pe
  refine qx_M_in rfl (Nat.le_of_ble_eq_true rfl) ?_
  refine qy_wp_ok (c := CX11_years) (cuts := [75]) vX11_years wX11_years 2000 0 _ _ _ ?_
  refine Exists.intro (nI 1) (And.intro rfl ?_)
  refine And.intro (fun h2 => ?_) (fun h2 => ?_)
  · skip
    refine Exists.intro ((-1)) (And.intro (by decide) ?_)
    exact ⟨rfl, rfl⟩
  · skip
    refine Exists.intro (nI 20) (And.intro rfl ?_)
    refine And.intro (fun h8 => ?_) (fun h8 => ?_)
    · skip
      refine Exists.intro ((-1)) (And.intro (by decide) ?_)
      exact ⟨rfl, rfl⟩
    · skip
      refine Exists.intro (nI 1) (And.intro rfl ?_)
      refine And.intro (fun h13 => ?_) (fun h13 => ?_)
      · skip
        refine Exists.intro ((-1)) (And.intro (by decide) ?_)
        exact ⟨rfl, rfl⟩
      · skip
        refine Exists.intro (nI 200) (And.intro rfl ?_)
        refine And.intro (fun h20 => ?_) (fun h20 => ?_)
        · skip
          refine And.intro (fun h26 => ?_) (fun h26 => ?_)
          · skip
            refine Exists.intro ((-1)) (And.intro (by decide) ?_)
            exact ⟨rfl, rfl⟩
          · skip
            refine Exists.intro (nI 2) (And.intro rfl ?_)
            refine And.intro (fun h31 => ?_) (fun h31 => ?_)
            · skip
              refine Exists.intro ((-1)) (And.intro (by decide) ?_)
              exact ⟨rfl, rfl⟩
            · skip
              refine And.intro rfl (Exists.intro 15 (And.intro rfl ?_))
              refine And.intro rfl (Exists.intro 16 (And.intro rfl ?_))
              refine And.intro rfl (Exists.intro 5 (Exists.intro (nI (s_n S 1)) (And.intro rfl (And.intro (hI.2.1.1.2.1.trans hI.1.1.2.1.2.1.1) ?_))))
              refine And.intro (fun h44 => ?_) (fun h44 => ?_)
              · skip
                have h44 := nI_neT (a := s_n S 1) (b := 0) (by omega) (by decide) h44
                rw [decide_eq_false h44, q_in_iff m (by decide) (by decide), q_in_iff n (by decide) (by decide), q_in_iff w (by decide) (by decide), decide_eq_true ⟨Int32.not_lt.mp h2, Int32.not_lt.mp h8⟩, decide_eq_true ⟨Int32.not_lt.mp h13, h20⟩, decide_eq_true ⟨Int32.not_lt.mp h26, Int32.not_lt.mp h31⟩] at hb
                cases hb
              · skip
                have h44 := nI_eqT (a := s_n S 1) (b := 0) (by omega) (by decide) h44
                refine Exists.intro ((-1)) (And.intro (by decide) ?_)
                exact ⟨rfl, rfl⟩
        · skip
          refine Exists.intro ((-1)) (And.intro (by decide) ?_)
          exact ⟨rfl, rfl⟩
abbrev kYa : List (Nat × Option Nat) := (156, some 9) :: kYr
theorem c_years_ok {G : qx_G} {σ : qx_S} {S : qS} {rf : Option qR} {e x : Nat} (hI : cI σ S rf e) (h0 : 0 < s_n S 1) (hx : x < 2147483648) (e8 : S 8 = nI x) {m n w : Nat} (hm1 : 1 ≤ m) (hm20 : m ≤ 20) (hn1 : 1 ≤ n) (hn : n ≤ 200) (hw : w ≤ 2) : qx_M G qc_T 7 YX11_years [.ref 3, .int (nI m), .int (nI n), .int (nI w)] σ (fun r s => r = some (.int (q_tv w (q_ys rf n S m (x, 0, 0, 0)))) ∧ qg kYa σ s ∧ cI s S rf e) := by
  have hpe := hI.1.pe
  obtain ⟨Z, hZ⟩ : ∃ Z, q_ys rf n S m (x, 0, 0, 0) = Z := ⟨_, rfl⟩
  rw [hZ]
  have fin : ∀ s0 s1 s2 s3, s0 = qx_wi (qx_wr σ 156 6 (some 180)) 156 9 (bI (q_kpg rf)) → yB s1 S rf e Z.1 → qg kYr s0 s1 → s2 = qx_wi (qx_wr s1 156 6 (some 21)) 156 9 (bI true) → s3 = qx_wi s2 15 10 (S 8) → qg kYa σ s3 ∧ cI s3 S rf e := by
    intro s0 s1 s2 s3 e0 hB f1 e2 e3
    have f2 : qg kYa σ s2 := qg.ask (l := kYa) hI.2.2.2.1 hI.2.2.2.2.2.2.2.2 e0 (f1.mn rfl) e2 rfl
    have f3 := qn_wif e3
    have f : qg kYa σ s3 := f2.tr ((qg.of f3 f2.le).mn rfl)
    have n2 : s2.1 = s1.1 := by rw [e2]; rfl
    have f9 := f.1
    refine ⟨f, hI.gx f hI.1 (hI.2.1.fb hI.1.1.1 hI.1.b12 (fun y j h1 h2 => ?_)) rfl rfl rfl ?_ ?_⟩
    · by_cases z : y = 15 ∧ j = 10
      · rw [z.1, z.2, hI.2.1.2.2.2.2.2.2.2.2.2]
        exact qn_eq e3
      · exact f.iv (by omega) (Or.inl (by omega)) (pL_ne (by simp; omega))
    · refine ⟨(f3.i _ _ rfl).trans ((ask_i e2 (by omega)).trans hB.2.2.2.2.2.1.1), hB.2.2.2.2.2.1.2.1, (f3.i _ _ rfl).trans (qn_eq e2), fun p a q hp ha hq => ?_⟩
      obtain ⟨v, w1, w2⟩ := hB.2.2.2.2.2.1.2.2.2 p a q hp ha hq
      exact ⟨v, (f3.i _ _ rfl).trans ((ask_i e2 (by omega)).trans w1), w2⟩
    · have t2 : kTw s2 e (s_n S 1) (q_c2 S rf) := by
        rcases hB.2.2.2.2.2.2.1 with t1 | ⟨t, t1⟩
        · exact Or.inl ((ask_r e2 (by omega)).trans t1)
        · refine Or.inr ⟨t, (ask_r e2 (by omega)).trans t1.1, t1.2.1, by rw [n2]; exact t1.2.2.1, (ask_s e2 t).trans t1.2.2.2.1, fun i j x y hi hj hx hy => ?_⟩
          obtain ⟨v, w1, w2⟩ := t1.2.2.2.2 i j x y hi hj hx hy
          exact ⟨v, (ask_i e2 (by have := t1.2.1; omega)).trans w1, w2⟩
      exact t2.fr f3 rfl
  have key : ∀ s0, s0 = qx_wi (qx_wr σ 156 6 (some 180)) 156 9 (bI (q_kpg rf)) → ∀ s, yB s S rf e Z.1 → qg kYr s0 s → qx_K G qc_T 7 RX11 YX11_years 98 [.ref 3, .retAddr 0, .retAddr 0, .retAddr 0, .int (S 8), .int (q_tv w Z), .retAddr 0] [] s (fun r s => r = some (.int (q_tv w Z)) ∧ qg kYa σ s ∧ cI s S rf e) := by
    intro s0 e0 s hB hf
    refine qy_wp_ok (c := CX11_years) (cuts := []) vX11_years wX11_years 2000 98 _ _ _ ?_
    refine And.intro rfl (Exists.intro 156 (And.intro rfl ?_))
    refine And.intro rfl (Exists.intro _ (And.intro (by decide) (qx_M_mono (c_askAsUsual) ?_)))
    rintro _ ρ ⟨rfl, eρ⟩
    refine And.intro rfl (Exists.intro 15 (And.intro rfl ?_))
    obtain ⟨σ2, eσ2⟩ : ∃ zs, zs = (qx_wi ρ 15 10 (S 8)) := ⟨_, rfl⟩
    have fσ2 := qn_wif eσ2
    refine And.intro rfl (Exists.intro 10 (Exists.intro σ2 (And.intro rfl (And.intro eσ2.symm ?_))))
    exact ⟨rfl, fin _ _ _ _ e0 hB hf eρ eσ2⟩
  refine qx_M_in rfl (Nat.le_of_ble_eq_true rfl) ?_
  refine qy_wp_ok (c := CX11_years) (cuts := [75]) vX11_years wX11_years 2000 0 _ _ _ ?_
  refine Exists.intro (nI 1) (And.intro rfl ?_)
  refine And.intro (fun h2 => ?_) (fun h2 => ?_)
  · skip
    have h2 := nI_ltT (a := m) (b := 1) (by omega) (by decide) h2
    exact absurd h2 (by omega)
  · skip
    have h2 := nI_ltF (a := m) (b := 1) (by omega) (by decide) h2
    refine Exists.intro (nI 20) (And.intro rfl ?_)
    refine And.intro (fun h8 => ?_) (fun h8 => ?_)
    · skip
      have h8 := nI_ltT (a := 20) (b := m) (by decide) (by omega) h8
      exact absurd h8 (by omega)
    · skip
      have h8 := nI_ltF (a := 20) (b := m) (by decide) (by omega) h8
      refine Exists.intro (nI 1) (And.intro rfl ?_)
      refine And.intro (fun h13 => ?_) (fun h13 => ?_)
      · skip
        have h13 := nI_ltT (a := n) (b := 1) (by omega) (by decide) h13
        exact absurd h13 (by omega)
      · skip
        have h13 := nI_ltF (a := n) (b := 1) (by omega) (by decide) h13
        refine Exists.intro (nI 200) (And.intro rfl ?_)
        refine And.intro (fun h20 => ?_) (fun h20 => ?_)
        · skip
          have h20 := nI_leT (a := n) (b := 200) (by omega) (by decide) h20
          refine And.intro (fun h26 => ?_) (fun h26 => ?_)
          · skip
            have h26 := nI_ltT (a := w) (b := 0) (by omega) (by decide) h26
            exact absurd h26 (by omega)
          · skip
            have h26 := nI_ltF (a := w) (b := 0) (by omega) (by decide) h26
            refine Exists.intro (nI 2) (And.intro rfl ?_)
            refine And.intro (fun h31 => ?_) (fun h31 => ?_)
            · skip
              have h31 := nI_ltT (a := 2) (b := w) (by decide) (by omega) h31
              exact absurd h31 (by omega)
            · skip
              have h31 := nI_ltF (a := 2) (b := w) (by decide) (by omega) h31
              refine And.intro rfl (Exists.intro 15 (And.intro rfl ?_))
              refine And.intro rfl (Exists.intro 16 (And.intro rfl ?_))
              refine And.intro rfl (Exists.intro 5 (Exists.intro (nI (s_n S 1)) (And.intro rfl (And.intro (hI.2.1.1.2.1.trans hI.1.1.2.1.2.1.1) ?_))))
              refine And.intro (fun h44 => ?_) (fun h44 => ?_)
              · skip
                have h44 := nI_neT (a := s_n S 1) (b := 0) (by omega) (by decide) h44
                refine And.intro rfl (Exists.intro 15 (And.intro rfl ?_))
                refine And.intro rfl (Exists.intro 10 (Exists.intro (S 8) (And.intro rfl (And.intro hI.2.1.2.2.2.2.2.2.2.2.2 ?_))))
                refine And.intro rfl (Exists.intro 156 (And.intro rfl ?_))
                refine And.intro rfl (Exists.intro 180 (And.intro rfl ?_))
                refine And.intro rfl (Exists.intro _ (And.intro (by decide) (qx_M_mono (c_askOf hI.2.2.2.2.1) ?_)))
                rintro _ ρ ⟨rfl, eρ⟩
                refine Exists.intro (nI 0) (And.intro rfl ?_)
                refine Exists.intro (nI 0) (And.intro rfl ?_)
                exact l_years h0 hm20 hn hw (key _ eρ) m 0 _ (x, 0, 0, 0) _ (by omega) (yB.of hI eρ e8 hx) (qg.rf (yB.of hI eρ e8 hx).2.2.2.2.2.2.2.1) hZ (by unfold q_tv; split <;> first | rfl | (split <;> rfl))
              · skip
                have h44 := nI_eqT (a := s_n S 1) (b := 0) (by omega) (by decide) h44
                exact absurd h44 (by omega)
        · skip
          have h20 := nI_leF (a := n) (b := 200) (by omega) (by decide) h20
          exact absurd h20 (by omega)

