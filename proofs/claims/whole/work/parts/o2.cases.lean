/-! THE LAW: its cases -/
theorem zb_feed {G : qx_G} {nm : String} {L n : Nat} {xs : Nat → Int32} {σ : qx_S} {v : Int32} (hz : zS L xs σ) (hn : 6 * n + 6 ≤ L) (hL : L ≤ 3072) (hc : qx_call G qc_T 40 YX12_feed [.ref 197, .int (xs (6 * n + 1)), .int (xs (6 * n + 2)), .int (xs (6 * n + 3)), .int (xs (6 * n + 4)), .int (xs (6 * n + 5))] σ (fun r s => r = some (.int v) ∧ zZ (n + 7) s)) (key : ∀ s, zZ (n + 7) s → zHd G nm (n + 1) s) : qx_K G qc_T 40 RL (YL_law nm) 245 [.ref 0, .ref 3, .ref 197, .int (nI (6 * n))] [.int v] σ zF := by
  have hc : qx_call G qc_T 40 YX12_feed [.ref 197, .int (qx_mi σ 0 (nI (6 * n + 1)).toNatClampNeg), .int (qx_mi σ 0 (nI (6 * n + 2)).toNatClampNeg), .int (qx_mi σ 0 (nI (6 * n + 3)).toNatClampNeg), .int (qx_mi σ 0 (nI (6 * n + 4)).toNatClampNeg), .int (qx_mi σ 0 (nI (6 * n + 5)).toNatClampNeg)] σ (fun r s => r = some (.int v) ∧ zZ (n + 7) s) := by rw [zS_at hz (show 6 * n + 1 < L by omega) (by omega), zS_at hz (show 6 * n + 2 < L by omega) (by omega), zS_at hz (show 6 * n + 3 < L by omega) (by omega), zS_at hz (show 6 * n + 4 < L by omega) (by omega), zS_at hz (show 6 * n + 5 < L by omega) (by omega)]; exact hc
  refine qy_wp_ok (c := CL_feed nm) (cuts := [18]) (vL_feed nm) (wL_feed nm) 60 245 _ _ _ ?_
  refine Exists.intro (nI 1) (And.intro rfl ?_)
  refine Exists.intro (nI (6 * n + 1)) (And.intro (nI_add _ _) ?_)
  refine And.intro rfl (And.intro (zS_in hz (by omega) hL) ?_)
  refine Exists.intro (nI 2) (And.intro rfl ?_)
  refine Exists.intro (nI (6 * n + 2)) (And.intro (nI_add _ _) ?_)
  refine And.intro rfl (And.intro (zS_in hz (by omega) hL) ?_)
  refine Exists.intro (nI 3) (And.intro rfl ?_)
  refine Exists.intro (nI (6 * n + 3)) (And.intro (nI_add _ _) ?_)
  refine And.intro rfl (And.intro (zS_in hz (by omega) hL) ?_)
  refine Exists.intro (nI 4) (And.intro rfl ?_)
  refine Exists.intro (nI (6 * n + 4)) (And.intro (nI_add _ _) ?_)
  refine And.intro rfl (And.intro (zS_in hz (by omega) hL) ?_)
  refine Exists.intro (nI 5) (And.intro rfl ?_)
  refine Exists.intro (nI (6 * n + 5)) (And.intro (nI_add _ _) ?_)
  refine And.intro rfl (And.intro (zS_in hz (by omega) hL) ?_)
  refine And.intro rfl (qx_call_mono hc (fun r s hh => ?_))
  obtain ⟨rfl, h1⟩ := hh
  refine And.intro (fun _ => ?_) (fun hne => absurd rfl hne)
  refine Exists.intro (nI (6 * (n + 1))) (And.intro (nI_add _ _) ?_)
  exact key s h1
theorem za_feed {G : qx_G} (hG : kStr G) {nm : String} {L n : Nat} {xs : Nat → Int32} (hS : gScr G L xs) {σ : qx_S} (h : zZ (n + 6) σ) (hz : zS L xs σ) (hn : 6 * n + 6 ≤ L) (hL : L ≤ 3072) (key : ∀ s, zZ (n + 7) s → zHd G nm (n + 1) s) : qx_K G qc_T 40 RL (YL_law nm) 216 [.ref 0, .ref 3, .ref 197, .int (nI (6 * n))] [] σ zF := by
  have hc : zO G YX11_feed YX12_feed [.int (xs (6 * n + 1)), .int (xs (6 * n + 2)), .int (xs (6 * n + 3)), .int (xs (6 * n + 4)), .int (xs (6 * n + 5))] (n + 6) σ := z_feed h _ _ _ _ _
  have hc : qx_call G qc_T 40 YX11_feed [.ref 3, .int (qx_mi σ 0 (nI (6 * n + 1)).toNatClampNeg), .int (qx_mi σ 0 (nI (6 * n + 2)).toNatClampNeg), .int (qx_mi σ 0 (nI (6 * n + 3)).toNatClampNeg), .int (qx_mi σ 0 (nI (6 * n + 4)).toNatClampNeg), .int (qx_mi σ 0 (nI (6 * n + 5)).toNatClampNeg)] σ (fun r s => ∃ v, r = some (.int v) ∧ qx_call G qc_T 40 YX12_feed [.ref 197, .int (xs (6 * n + 1)), .int (xs (6 * n + 2)), .int (xs (6 * n + 3)), .int (xs (6 * n + 4)), .int (xs (6 * n + 5))] s (fun r s => r = some (.int v) ∧ zZ (n + 7) s)) := by rw [zS_at hz (show 6 * n + 1 < L by omega) (by omega), zS_at hz (show 6 * n + 2 < L by omega) (by omega), zS_at hz (show 6 * n + 3 < L by omega) (by omega), zS_at hz (show 6 * n + 4 < L by omega) (by omega), zS_at hz (show 6 * n + 5 < L by omega) (by omega)]; exact hc
  refine qy_wp_ok (c := CL_feed nm) (cuts := [245, 18]) (vL_feed nm) (wL_feed nm) 60 216 _ _ _ ?_
  refine Exists.intro (nI 1) (And.intro rfl ?_)
  refine Exists.intro (nI (6 * n + 1)) (And.intro (nI_add _ _) ?_)
  refine And.intro rfl (And.intro (zS_in hz (by omega) hL) ?_)
  refine Exists.intro (nI 2) (And.intro rfl ?_)
  refine Exists.intro (nI (6 * n + 2)) (And.intro (nI_add _ _) ?_)
  refine And.intro rfl (And.intro (zS_in hz (by omega) hL) ?_)
  refine Exists.intro (nI 3) (And.intro rfl ?_)
  refine Exists.intro (nI (6 * n + 3)) (And.intro (nI_add _ _) ?_)
  refine And.intro rfl (And.intro (zS_in hz (by omega) hL) ?_)
  refine Exists.intro (nI 4) (And.intro rfl ?_)
  refine Exists.intro (nI (6 * n + 4)) (And.intro (nI_add _ _) ?_)
  refine And.intro rfl (And.intro (zS_in hz (by omega) hL) ?_)
  refine Exists.intro (nI 5) (And.intro rfl ?_)
  refine Exists.intro (nI (6 * n + 5)) (And.intro (nI_add _ _) ?_)
  refine And.intro rfl (And.intro (zS_in hz (by omega) hL) ?_)
  refine And.intro rfl (qx_call_mono hc (fun r s hh => ?_))
  obtain ⟨v, rfl, h1⟩ := hh
  exact qx_K_pure hS (zF_of h1 (by omega)) (fun hz1 => zb_feed hz1 hn hL h1 key)
theorem zb_end {G : qx_G} {nm : String} {L n : Nat} {xs : Nat → Int32} {σ : qx_S} {v : Int32} (hz : zS L xs σ) (hn : 6 * n + 6 ≤ L) (hL : L ≤ 3072) (hc : qx_call G qc_T 40 YX12_end [.ref 197, .int (xs (6 * n + 1))] σ (fun r s => r = some (.int v) ∧ zZ (n + 7) s)) (key : ∀ s, zZ (n + 7) s → zHd G nm (n + 1) s) : qx_K G qc_T 40 RL (YL_law nm) 288 [.ref 0, .ref 3, .ref 197, .int (nI (6 * n))] [.int v] σ zF := by
  have hc : qx_call G qc_T 40 YX12_end [.ref 197, .int (qx_mi σ 0 (nI (6 * n + 1)).toNatClampNeg)] σ (fun r s => r = some (.int v) ∧ zZ (n + 7) s) := by rw [zS_at hz (show 6 * n + 1 < L by omega) (by omega)]; exact hc
  refine qy_wp_ok (c := CL_end nm) (cuts := [18]) (vL_end nm) (wL_end nm) 60 288 _ _ _ ?_
  refine Exists.intro (nI 1) (And.intro rfl ?_)
  refine Exists.intro (nI (6 * n + 1)) (And.intro (nI_add _ _) ?_)
  refine And.intro rfl (And.intro (zS_in hz (by omega) hL) ?_)
  refine And.intro rfl (qx_call_mono hc (fun r s hh => ?_))
  obtain ⟨rfl, h1⟩ := hh
  refine And.intro (fun _ => ?_) (fun hne => absurd rfl hne)
  refine Exists.intro (nI (6 * (n + 1))) (And.intro (nI_add _ _) ?_)
  exact key s h1
theorem za_end {G : qx_G} (hG : kStr G) {nm : String} {L n : Nat} {xs : Nat → Int32} (hS : gScr G L xs) {σ : qx_S} (h : zZ (n + 6) σ) (hz : zS L xs σ) (hn : 6 * n + 6 ≤ L) (hL : L ≤ 3072) (key : ∀ s, zZ (n + 7) s → zHd G nm (n + 1) s) : qx_K G qc_T 40 RL (YL_law nm) 279 [.ref 0, .ref 3, .ref 197, .int (nI (6 * n))] [] σ zF := by
  have hc : zO G YX11_end YX12_end [.int (xs (6 * n + 1))] (n + 6) σ := z_end h _
  have hc : qx_call G qc_T 40 YX11_end [.ref 3, .int (qx_mi σ 0 (nI (6 * n + 1)).toNatClampNeg)] σ (fun r s => ∃ v, r = some (.int v) ∧ qx_call G qc_T 40 YX12_end [.ref 197, .int (xs (6 * n + 1))] s (fun r s => r = some (.int v) ∧ zZ (n + 7) s)) := by rw [zS_at hz (show 6 * n + 1 < L by omega) (by omega)]; exact hc
  refine qy_wp_ok (c := CL_end nm) (cuts := [288, 18]) (vL_end nm) (wL_end nm) 60 279 _ _ _ ?_
  refine Exists.intro (nI 1) (And.intro rfl ?_)
  refine Exists.intro (nI (6 * n + 1)) (And.intro (nI_add _ _) ?_)
  refine And.intro rfl (And.intro (zS_in hz (by omega) hL) ?_)
  refine And.intro rfl (qx_call_mono hc (fun r s hh => ?_))
  obtain ⟨v, rfl, h1⟩ := hh
  exact qx_K_pure hS (zF_of h1 (by omega)) (fun hz1 => zb_end hz1 hn hL h1 key)
theorem zb_country {G : qx_G} {nm : String} {L n : Nat} {xs : Nat → Int32} {σ : qx_S} {v : Int32} (hz : zS L xs σ) (hn : 6 * n + 6 ≤ L) (hL : L ≤ 3072) (hc : qx_call G qc_T 40 YX12_country [.ref 197] σ (fun r s => r = some (.int v) ∧ zZ (n + 7) s)) (key : ∀ s, zZ (n + 7) s → zHd G nm (n + 1) s) : qx_K G qc_T 40 RL (YL_law nm) 306 [.ref 0, .ref 3, .ref 197, .int (nI (6 * n))] [.int v] σ zF := by
  have hc : qx_call G qc_T 40 YX12_country [.ref 197] σ (fun r s => r = some (.int v) ∧ zZ (n + 7) s) := by exact hc
  refine qy_wp_ok (c := CL_country nm) (cuts := [18]) (vL_country nm) (wL_country nm) 60 306 _ _ _ ?_
  refine And.intro rfl (qx_call_mono hc (fun r s hh => ?_))
  obtain ⟨rfl, h1⟩ := hh
  refine And.intro (fun _ => ?_) (fun hne => absurd rfl hne)
  refine Exists.intro (nI (6 * (n + 1))) (And.intro (nI_add _ _) ?_)
  exact key s h1
theorem za_country {G : qx_G} (hG : kStr G) {nm : String} {L n : Nat} {xs : Nat → Int32} (hS : gScr G L xs) {σ : qx_S} (h : zZ (n + 6) σ) (hz : zS L xs σ) (hn : 6 * n + 6 ≤ L) (hL : L ≤ 3072) (key : ∀ s, zZ (n + 7) s → zHd G nm (n + 1) s) : qx_K G qc_T 40 RL (YL_law nm) 302 [.ref 0, .ref 3, .ref 197, .int (nI (6 * n))] [] σ zF := by
  have hc : zO G YX11_country YX12_country [] (n + 6) σ := z_country hG h (by omega)
  have hc : qx_call G qc_T 40 YX11_country [.ref 3] σ (fun r s => ∃ v, r = some (.int v) ∧ qx_call G qc_T 40 YX12_country [.ref 197] s (fun r s => r = some (.int v) ∧ zZ (n + 7) s)) := by exact hc
  refine qy_wp_ok (c := CL_country nm) (cuts := [306, 18]) (vL_country nm) (wL_country nm) 60 302 _ _ _ ?_
  refine And.intro rfl (qx_call_mono hc (fun r s hh => ?_))
  obtain ⟨v, rfl, h1⟩ := hh
  exact qx_K_pure hS (zF_of h1 (by omega)) (fun hz1 => zb_country hz1 hn hL h1 key)
theorem zb_rule {G : qx_G} {nm : String} {L n : Nat} {xs : Nat → Int32} {σ : qx_S} {v : Int32} (hz : zS L xs σ) (hn : 6 * n + 6 ≤ L) (hL : L ≤ 3072) (hc : qx_call G qc_T 40 YX12_rule [.ref 197] σ (fun r s => r = some (.int v) ∧ zZ (n + 7) s)) (key : ∀ s, zZ (n + 7) s → zHd G nm (n + 1) s) : qx_K G qc_T 40 RL (YL_law nm) 319 [.ref 0, .ref 3, .ref 197, .int (nI (6 * n))] [.int v] σ zF := by
  have hc : qx_call G qc_T 40 YX12_rule [.ref 197] σ (fun r s => r = some (.int v) ∧ zZ (n + 7) s) := by exact hc
  refine qy_wp_ok (c := CL_rule nm) (cuts := [18]) (vL_rule nm) (wL_rule nm) 60 319 _ _ _ ?_
  refine And.intro rfl (qx_call_mono hc (fun r s hh => ?_))
  obtain ⟨rfl, h1⟩ := hh
  refine And.intro (fun _ => ?_) (fun hne => absurd rfl hne)
  refine Exists.intro (nI (6 * (n + 1))) (And.intro (nI_add _ _) ?_)
  exact key s h1
theorem za_rule {G : qx_G} (hG : kStr G) {nm : String} {L n : Nat} {xs : Nat → Int32} (hS : gScr G L xs) {σ : qx_S} (h : zZ (n + 6) σ) (hz : zS L xs σ) (hn : 6 * n + 6 ≤ L) (hL : L ≤ 3072) (key : ∀ s, zZ (n + 7) s → zHd G nm (n + 1) s) : qx_K G qc_T 40 RL (YL_law nm) 315 [.ref 0, .ref 3, .ref 197, .int (nI (6 * n))] [] σ zF := by
  have hc : zO G YX11_rule YX12_rule [] (n + 6) σ := z_rule hG h
  have hc : qx_call G qc_T 40 YX11_rule [.ref 3] σ (fun r s => ∃ v, r = some (.int v) ∧ qx_call G qc_T 40 YX12_rule [.ref 197] s (fun r s => r = some (.int v) ∧ zZ (n + 7) s)) := by exact hc
  refine qy_wp_ok (c := CL_rule nm) (cuts := [319, 18]) (vL_rule nm) (wL_rule nm) 60 315 _ _ _ ?_
  refine And.intro rfl (qx_call_mono hc (fun r s hh => ?_))
  obtain ⟨v, rfl, h1⟩ := hh
  exact qx_K_pure hS (zF_of h1 (by omega)) (fun hz1 => zb_rule hz1 hn hL h1 key)
theorem zb_force {G : qx_G} {nm : String} {L n : Nat} {xs : Nat → Int32} {σ : qx_S} {v : Int32} (hz : zS L xs σ) (hn : 6 * n + 6 ≤ L) (hL : L ≤ 3072) (hc : qx_call G qc_T 40 YX12_force [.ref 197, .int (xs (6 * n + 1))] σ (fun r s => r = some (.int v) ∧ zZ (n + 7) s)) (key : ∀ s, zZ (n + 7) s → zHd G nm (n + 1) s) : qx_K G qc_T 40 RL (YL_law nm) 337 [.ref 0, .ref 3, .ref 197, .int (nI (6 * n))] [.int v] σ zF := by
  have hc : qx_call G qc_T 40 YX12_force [.ref 197, .int (qx_mi σ 0 (nI (6 * n + 1)).toNatClampNeg)] σ (fun r s => r = some (.int v) ∧ zZ (n + 7) s) := by rw [zS_at hz (show 6 * n + 1 < L by omega) (by omega)]; exact hc
  refine qy_wp_ok (c := CL_force nm) (cuts := [18]) (vL_force nm) (wL_force nm) 60 337 _ _ _ ?_
  refine Exists.intro (nI 1) (And.intro rfl ?_)
  refine Exists.intro (nI (6 * n + 1)) (And.intro (nI_add _ _) ?_)
  refine And.intro rfl (And.intro (zS_in hz (by omega) hL) ?_)
  refine And.intro rfl (qx_call_mono hc (fun r s hh => ?_))
  obtain ⟨rfl, h1⟩ := hh
  refine And.intro (fun _ => ?_) (fun hne => absurd rfl hne)
  refine Exists.intro (nI (6 * (n + 1))) (And.intro (nI_add _ _) ?_)
  exact key s h1
theorem za_force {G : qx_G} (hG : kStr G) {nm : String} {L n : Nat} {xs : Nat → Int32} (hS : gScr G L xs) {σ : qx_S} (h : zZ (n + 6) σ) (hz : zS L xs σ) (hn : 6 * n + 6 ≤ L) (hL : L ≤ 3072) (key : ∀ s, zZ (n + 7) s → zHd G nm (n + 1) s) : qx_K G qc_T 40 RL (YL_law nm) 328 [.ref 0, .ref 3, .ref 197, .int (nI (6 * n))] [] σ zF := by
  have hc : zO G YX11_force YX12_force [.int (xs (6 * n + 1))] (n + 6) σ := z_force h (by omega) _
  have hc : qx_call G qc_T 40 YX11_force [.ref 3, .int (qx_mi σ 0 (nI (6 * n + 1)).toNatClampNeg)] σ (fun r s => ∃ v, r = some (.int v) ∧ qx_call G qc_T 40 YX12_force [.ref 197, .int (xs (6 * n + 1))] s (fun r s => r = some (.int v) ∧ zZ (n + 7) s)) := by rw [zS_at hz (show 6 * n + 1 < L by omega) (by omega)]; exact hc
  refine qy_wp_ok (c := CL_force nm) (cuts := [337, 18]) (vL_force nm) (wL_force nm) 60 328 _ _ _ ?_
  refine Exists.intro (nI 1) (And.intro rfl ?_)
  refine Exists.intro (nI (6 * n + 1)) (And.intro (nI_add _ _) ?_)
  refine And.intro rfl (And.intro (zS_in hz (by omega) hL) ?_)
  refine And.intro rfl (qx_call_mono hc (fun r s hh => ?_))
  obtain ⟨v, rfl, h1⟩ := hh
  exact qx_K_pure hS (zF_of h1 (by omega)) (fun hz1 => zb_force hz1 hn hL h1 key)
theorem zb_person {G : qx_G} {nm : String} {L n : Nat} {xs : Nat → Int32} {σ : qx_S} {v : Int32} (hz : zS L xs σ) (hn : 6 * n + 6 ≤ L) (hL : L ≤ 3072) (hc : qx_call G qc_T 40 YX12_person [.ref 197, .int (xs (6 * n + 1)), .int (xs (6 * n + 2))] σ (fun r s => r = some (.int v) ∧ zZ (n + 7) s)) (key : ∀ s, zZ (n + 7) s → zHd G nm (n + 1) s) : qx_K G qc_T 40 RL (YL_law nm) 365 [.ref 0, .ref 3, .ref 197, .int (nI (6 * n))] [.int v] σ zF := by
  have hc : qx_call G qc_T 40 YX12_person [.ref 197, .int (qx_mi σ 0 (nI (6 * n + 1)).toNatClampNeg), .int (qx_mi σ 0 (nI (6 * n + 2)).toNatClampNeg)] σ (fun r s => r = some (.int v) ∧ zZ (n + 7) s) := by rw [zS_at hz (show 6 * n + 1 < L by omega) (by omega), zS_at hz (show 6 * n + 2 < L by omega) (by omega)]; exact hc
  refine qy_wp_ok (c := CL_person nm) (cuts := [18]) (vL_person nm) (wL_person nm) 60 365 _ _ _ ?_
  refine Exists.intro (nI 1) (And.intro rfl ?_)
  refine Exists.intro (nI (6 * n + 1)) (And.intro (nI_add _ _) ?_)
  refine And.intro rfl (And.intro (zS_in hz (by omega) hL) ?_)
  refine Exists.intro (nI 2) (And.intro rfl ?_)
  refine Exists.intro (nI (6 * n + 2)) (And.intro (nI_add _ _) ?_)
  refine And.intro rfl (And.intro (zS_in hz (by omega) hL) ?_)
  refine And.intro rfl (qx_call_mono hc (fun r s hh => ?_))
  obtain ⟨rfl, h1⟩ := hh
  refine And.intro (fun _ => ?_) (fun hne => absurd rfl hne)
  refine Exists.intro (nI (6 * (n + 1))) (And.intro (nI_add _ _) ?_)
  exact key s h1
theorem za_person {G : qx_G} (hG : kStr G) {nm : String} {L n : Nat} {xs : Nat → Int32} (hS : gScr G L xs) {σ : qx_S} (h : zZ (n + 6) σ) (hz : zS L xs σ) (hn : 6 * n + 6 ≤ L) (hL : L ≤ 3072) (key : ∀ s, zZ (n + 7) s → zHd G nm (n + 1) s) : qx_K G qc_T 40 RL (YL_law nm) 351 [.ref 0, .ref 3, .ref 197, .int (nI (6 * n))] [] σ zF := by
  have hc : zO G YX11_person YX12_person [.int (xs (6 * n + 1)), .int (xs (6 * n + 2))] (n + 6) σ := z_person h _ _
  have hc : qx_call G qc_T 40 YX11_person [.ref 3, .int (qx_mi σ 0 (nI (6 * n + 1)).toNatClampNeg), .int (qx_mi σ 0 (nI (6 * n + 2)).toNatClampNeg)] σ (fun r s => ∃ v, r = some (.int v) ∧ qx_call G qc_T 40 YX12_person [.ref 197, .int (xs (6 * n + 1)), .int (xs (6 * n + 2))] s (fun r s => r = some (.int v) ∧ zZ (n + 7) s)) := by rw [zS_at hz (show 6 * n + 1 < L by omega) (by omega), zS_at hz (show 6 * n + 2 < L by omega) (by omega)]; exact hc
  refine qy_wp_ok (c := CL_person nm) (cuts := [365, 18]) (vL_person nm) (wL_person nm) 60 351 _ _ _ ?_
  refine Exists.intro (nI 1) (And.intro rfl ?_)
  refine Exists.intro (nI (6 * n + 1)) (And.intro (nI_add _ _) ?_)
  refine And.intro rfl (And.intro (zS_in hz (by omega) hL) ?_)
  refine Exists.intro (nI 2) (And.intro rfl ?_)
  refine Exists.intro (nI (6 * n + 2)) (And.intro (nI_add _ _) ?_)
  refine And.intro rfl (And.intro (zS_in hz (by omega) hL) ?_)
  refine And.intro rfl (qx_call_mono hc (fun r s hh => ?_))
  obtain ⟨v, rfl, h1⟩ := hh
  exact qx_K_pure hS (zF_of h1 (by omega)) (fun hz1 => zb_person hz1 hn hL h1 key)
theorem zb_wish {G : qx_G} {nm : String} {L n : Nat} {xs : Nat → Int32} {σ : qx_S} {v : Int32} (hz : zS L xs σ) (hn : 6 * n + 6 ≤ L) (hL : L ≤ 3072) (hc : qx_call G qc_T 40 YX12_wish [.ref 197, .int (xs (6 * n + 1)), .int (xs (6 * n + 2))] σ (fun r s => r = some (.int v) ∧ zZ (n + 7) s)) (key : ∀ s, zZ (n + 7) s → zHd G nm (n + 1) s) : qx_K G qc_T 40 RL (YL_law nm) 398 [.ref 0, .ref 3, .ref 197, .int (nI (6 * n))] [.int v] σ zF := by
  have hc : qx_call G qc_T 40 YX12_wish [.ref 197, .int (qx_mi σ 0 (nI (6 * n + 1)).toNatClampNeg), .int (qx_mi σ 0 (nI (6 * n + 2)).toNatClampNeg)] σ (fun r s => r = some (.int v) ∧ zZ (n + 7) s) := by rw [zS_at hz (show 6 * n + 1 < L by omega) (by omega), zS_at hz (show 6 * n + 2 < L by omega) (by omega)]; exact hc
  refine qy_wp_ok (c := CL_wish nm) (cuts := [18]) (vL_wish nm) (wL_wish nm) 60 398 _ _ _ ?_
  refine Exists.intro (nI 1) (And.intro rfl ?_)
  refine Exists.intro (nI (6 * n + 1)) (And.intro (nI_add _ _) ?_)
  refine And.intro rfl (And.intro (zS_in hz (by omega) hL) ?_)
  refine Exists.intro (nI 2) (And.intro rfl ?_)
  refine Exists.intro (nI (6 * n + 2)) (And.intro (nI_add _ _) ?_)
  refine And.intro rfl (And.intro (zS_in hz (by omega) hL) ?_)
  refine And.intro rfl (qx_call_mono hc (fun r s hh => ?_))
  obtain ⟨rfl, h1⟩ := hh
  refine And.intro (fun _ => ?_) (fun hne => absurd rfl hne)
  refine Exists.intro (nI (6 * (n + 1))) (And.intro (nI_add _ _) ?_)
  exact key s h1
theorem za_wish {G : qx_G} (hG : kStr G) {nm : String} {L n : Nat} {xs : Nat → Int32} (hS : gScr G L xs) {σ : qx_S} (h : zZ (n + 6) σ) (hz : zS L xs σ) (hn : 6 * n + 6 ≤ L) (hL : L ≤ 3072) (key : ∀ s, zZ (n + 7) s → zHd G nm (n + 1) s) : qx_K G qc_T 40 RL (YL_law nm) 384 [.ref 0, .ref 3, .ref 197, .int (nI (6 * n))] [] σ zF := by
  have hc : zO G YX11_wish YX12_wish [.int (xs (6 * n + 1)), .int (xs (6 * n + 2))] (n + 6) σ := z_wish h _ _
  have hc : qx_call G qc_T 40 YX11_wish [.ref 3, .int (qx_mi σ 0 (nI (6 * n + 1)).toNatClampNeg), .int (qx_mi σ 0 (nI (6 * n + 2)).toNatClampNeg)] σ (fun r s => ∃ v, r = some (.int v) ∧ qx_call G qc_T 40 YX12_wish [.ref 197, .int (xs (6 * n + 1)), .int (xs (6 * n + 2))] s (fun r s => r = some (.int v) ∧ zZ (n + 7) s)) := by rw [zS_at hz (show 6 * n + 1 < L by omega) (by omega), zS_at hz (show 6 * n + 2 < L by omega) (by omega)]; exact hc
  refine qy_wp_ok (c := CL_wish nm) (cuts := [398, 18]) (vL_wish nm) (wL_wish nm) 60 384 _ _ _ ?_
  refine Exists.intro (nI 1) (And.intro rfl ?_)
  refine Exists.intro (nI (6 * n + 1)) (And.intro (nI_add _ _) ?_)
  refine And.intro rfl (And.intro (zS_in hz (by omega) hL) ?_)
  refine Exists.intro (nI 2) (And.intro rfl ?_)
  refine Exists.intro (nI (6 * n + 2)) (And.intro (nI_add _ _) ?_)
  refine And.intro rfl (And.intro (zS_in hz (by omega) hL) ?_)
  refine And.intro rfl (qx_call_mono hc (fun r s hh => ?_))
  obtain ⟨v, rfl, h1⟩ := hh
  exact qx_K_pure hS (zF_of h1 (by omega)) (fun hz1 => zb_wish hz1 hn hL h1 key)
theorem zb_liking {G : qx_G} {nm : String} {L n : Nat} {xs : Nat → Int32} {σ : qx_S} {v : Int32} (hz : zS L xs σ) (hn : 6 * n + 6 ≤ L) (hL : L ≤ 3072) (hc : qx_call G qc_T 40 YX12_liking [.ref 197, .int (xs (6 * n + 1)), .int (xs (6 * n + 2))] σ (fun r s => r = some (.int v) ∧ zZ (n + 7) s)) (key : ∀ s, zZ (n + 7) s → zHd G nm (n + 1) s) : qx_K G qc_T 40 RL (YL_law nm) 431 [.ref 0, .ref 3, .ref 197, .int (nI (6 * n))] [.int v] σ zF := by
  have hc : qx_call G qc_T 40 YX12_liking [.ref 197, .int (qx_mi σ 0 (nI (6 * n + 1)).toNatClampNeg), .int (qx_mi σ 0 (nI (6 * n + 2)).toNatClampNeg)] σ (fun r s => r = some (.int v) ∧ zZ (n + 7) s) := by rw [zS_at hz (show 6 * n + 1 < L by omega) (by omega), zS_at hz (show 6 * n + 2 < L by omega) (by omega)]; exact hc
  refine qy_wp_ok (c := CL_liking nm) (cuts := [18]) (vL_liking nm) (wL_liking nm) 60 431 _ _ _ ?_
  refine Exists.intro (nI 1) (And.intro rfl ?_)
  refine Exists.intro (nI (6 * n + 1)) (And.intro (nI_add _ _) ?_)
  refine And.intro rfl (And.intro (zS_in hz (by omega) hL) ?_)
  refine Exists.intro (nI 2) (And.intro rfl ?_)
  refine Exists.intro (nI (6 * n + 2)) (And.intro (nI_add _ _) ?_)
  refine And.intro rfl (And.intro (zS_in hz (by omega) hL) ?_)
  refine And.intro rfl (qx_call_mono hc (fun r s hh => ?_))
  obtain ⟨rfl, h1⟩ := hh
  refine And.intro (fun _ => ?_) (fun hne => absurd rfl hne)
  refine Exists.intro (nI (6 * (n + 1))) (And.intro (nI_add _ _) ?_)
  exact key s h1
theorem za_liking {G : qx_G} (hG : kStr G) {nm : String} {L n : Nat} {xs : Nat → Int32} (hS : gScr G L xs) {σ : qx_S} (h : zZ (n + 6) σ) (hz : zS L xs σ) (hn : 6 * n + 6 ≤ L) (hL : L ≤ 3072) (key : ∀ s, zZ (n + 7) s → zHd G nm (n + 1) s) : qx_K G qc_T 40 RL (YL_law nm) 417 [.ref 0, .ref 3, .ref 197, .int (nI (6 * n))] [] σ zF := by
  have hc : zO G YX11_liking YX12_liking [.int (xs (6 * n + 1)), .int (xs (6 * n + 2))] (n + 6) σ := z_liking h _ _
  have hc : qx_call G qc_T 40 YX11_liking [.ref 3, .int (qx_mi σ 0 (nI (6 * n + 1)).toNatClampNeg), .int (qx_mi σ 0 (nI (6 * n + 2)).toNatClampNeg)] σ (fun r s => ∃ v, r = some (.int v) ∧ qx_call G qc_T 40 YX12_liking [.ref 197, .int (xs (6 * n + 1)), .int (xs (6 * n + 2))] s (fun r s => r = some (.int v) ∧ zZ (n + 7) s)) := by rw [zS_at hz (show 6 * n + 1 < L by omega) (by omega), zS_at hz (show 6 * n + 2 < L by omega) (by omega)]; exact hc
  refine qy_wp_ok (c := CL_liking nm) (cuts := [431, 18]) (vL_liking nm) (wL_liking nm) 60 417 _ _ _ ?_
  refine Exists.intro (nI 1) (And.intro rfl ?_)
  refine Exists.intro (nI (6 * n + 1)) (And.intro (nI_add _ _) ?_)
  refine And.intro rfl (And.intro (zS_in hz (by omega) hL) ?_)
  refine Exists.intro (nI 2) (And.intro rfl ?_)
  refine Exists.intro (nI (6 * n + 2)) (And.intro (nI_add _ _) ?_)
  refine And.intro rfl (And.intro (zS_in hz (by omega) hL) ?_)
  refine And.intro rfl (qx_call_mono hc (fun r s hh => ?_))
  obtain ⟨v, rfl, h1⟩ := hh
  exact qx_K_pure hS (zF_of h1 (by omega)) (fun hz1 => zb_liking hz1 hn hL h1 key)
theorem zb_desire {G : qx_G} {nm : String} {L n : Nat} {xs : Nat → Int32} {σ : qx_S} {v : Int32} (hz : zS L xs σ) (hn : 6 * n + 6 ≤ L) (hL : L ≤ 3072) (hc : qx_call G qc_T 40 YX12_desire [.ref 197, .int (xs (6 * n + 1)), .int (xs (6 * n + 2)), .int (xs (6 * n + 3))] σ (fun r s => r = some (.int v) ∧ zZ (n + 7) s)) (key : ∀ s, zZ (n + 7) s → zHd G nm (n + 1) s) : qx_K G qc_T 40 RL (YL_law nm) 469 [.ref 0, .ref 3, .ref 197, .int (nI (6 * n))] [.int v] σ zF := by
  have hc : qx_call G qc_T 40 YX12_desire [.ref 197, .int (qx_mi σ 0 (nI (6 * n + 1)).toNatClampNeg), .int (qx_mi σ 0 (nI (6 * n + 2)).toNatClampNeg), .int (qx_mi σ 0 (nI (6 * n + 3)).toNatClampNeg)] σ (fun r s => r = some (.int v) ∧ zZ (n + 7) s) := by rw [zS_at hz (show 6 * n + 1 < L by omega) (by omega), zS_at hz (show 6 * n + 2 < L by omega) (by omega), zS_at hz (show 6 * n + 3 < L by omega) (by omega)]; exact hc
  refine qy_wp_ok (c := CL_desire nm) (cuts := [18]) (vL_desire nm) (wL_desire nm) 60 469 _ _ _ ?_
  refine Exists.intro (nI 1) (And.intro rfl ?_)
  refine Exists.intro (nI (6 * n + 1)) (And.intro (nI_add _ _) ?_)
  refine And.intro rfl (And.intro (zS_in hz (by omega) hL) ?_)
  refine Exists.intro (nI 2) (And.intro rfl ?_)
  refine Exists.intro (nI (6 * n + 2)) (And.intro (nI_add _ _) ?_)
  refine And.intro rfl (And.intro (zS_in hz (by omega) hL) ?_)
  refine Exists.intro (nI 3) (And.intro rfl ?_)
  refine Exists.intro (nI (6 * n + 3)) (And.intro (nI_add _ _) ?_)
  refine And.intro rfl (And.intro (zS_in hz (by omega) hL) ?_)
  refine And.intro rfl (qx_call_mono hc (fun r s hh => ?_))
  obtain ⟨rfl, h1⟩ := hh
  refine And.intro (fun _ => ?_) (fun hne => absurd rfl hne)
  refine Exists.intro (nI (6 * (n + 1))) (And.intro (nI_add _ _) ?_)
  exact key s h1
theorem za_desire {G : qx_G} (hG : kStr G) {nm : String} {L n : Nat} {xs : Nat → Int32} (hS : gScr G L xs) {σ : qx_S} (h : zZ (n + 6) σ) (hz : zS L xs σ) (hn : 6 * n + 6 ≤ L) (hL : L ≤ 3072) (key : ∀ s, zZ (n + 7) s → zHd G nm (n + 1) s) : qx_K G qc_T 40 RL (YL_law nm) 450 [.ref 0, .ref 3, .ref 197, .int (nI (6 * n))] [] σ zF := by
  have hc : zO G YX11_desire YX12_desire [.int (xs (6 * n + 1)), .int (xs (6 * n + 2)), .int (xs (6 * n + 3))] (n + 6) σ := z_desire h (by omega) _ _ _
  have hc : qx_call G qc_T 40 YX11_desire [.ref 3, .int (qx_mi σ 0 (nI (6 * n + 1)).toNatClampNeg), .int (qx_mi σ 0 (nI (6 * n + 2)).toNatClampNeg), .int (qx_mi σ 0 (nI (6 * n + 3)).toNatClampNeg)] σ (fun r s => ∃ v, r = some (.int v) ∧ qx_call G qc_T 40 YX12_desire [.ref 197, .int (xs (6 * n + 1)), .int (xs (6 * n + 2)), .int (xs (6 * n + 3))] s (fun r s => r = some (.int v) ∧ zZ (n + 7) s)) := by rw [zS_at hz (show 6 * n + 1 < L by omega) (by omega), zS_at hz (show 6 * n + 2 < L by omega) (by omega), zS_at hz (show 6 * n + 3 < L by omega) (by omega)]; exact hc
  refine qy_wp_ok (c := CL_desire nm) (cuts := [469, 18]) (vL_desire nm) (wL_desire nm) 60 450 _ _ _ ?_
  refine Exists.intro (nI 1) (And.intro rfl ?_)
  refine Exists.intro (nI (6 * n + 1)) (And.intro (nI_add _ _) ?_)
  refine And.intro rfl (And.intro (zS_in hz (by omega) hL) ?_)
  refine Exists.intro (nI 2) (And.intro rfl ?_)
  refine Exists.intro (nI (6 * n + 2)) (And.intro (nI_add _ _) ?_)
  refine And.intro rfl (And.intro (zS_in hz (by omega) hL) ?_)
  refine Exists.intro (nI 3) (And.intro rfl ?_)
  refine Exists.intro (nI (6 * n + 3)) (And.intro (nI_add _ _) ?_)
  refine And.intro rfl (And.intro (zS_in hz (by omega) hL) ?_)
  refine And.intro rfl (qx_call_mono hc (fun r s hh => ?_))
  obtain ⟨v, rfl, h1⟩ := hh
  exact qx_K_pure hS (zF_of h1 (by omega)) (fun hz1 => zb_desire hz1 hn hL h1 key)
theorem zb_place {G : qx_G} {nm : String} {L n : Nat} {xs : Nat → Int32} {σ : qx_S} {v : Int32} (hz : zS L xs σ) (hn : 6 * n + 6 ≤ L) (hL : L ≤ 3072) (hc : qx_call G qc_T 40 YX12_place [.ref 197, .int (xs (6 * n + 1)), .int (xs (6 * n + 2))] σ (fun r s => r = some (.int v) ∧ zZ (n + 7) s)) (key : ∀ s, zZ (n + 7) s → zHd G nm (n + 1) s) : qx_K G qc_T 40 RL (YL_law nm) 507 [.ref 0, .ref 3, .ref 197, .int (nI (6 * n))] [.int v] σ zF := by
  have hc : qx_call G qc_T 40 YX12_place [.ref 197, .int (qx_mi σ 0 (nI (6 * n + 1)).toNatClampNeg), .int (qx_mi σ 0 (nI (6 * n + 2)).toNatClampNeg)] σ (fun r s => r = some (.int v) ∧ zZ (n + 7) s) := by rw [zS_at hz (show 6 * n + 1 < L by omega) (by omega), zS_at hz (show 6 * n + 2 < L by omega) (by omega)]; exact hc
  refine qy_wp_ok (c := CL_place nm) (cuts := [18]) (vL_place nm) (wL_place nm) 60 507 _ _ _ ?_
  refine Exists.intro (nI 1) (And.intro rfl ?_)
  refine Exists.intro (nI (6 * n + 1)) (And.intro (nI_add _ _) ?_)
  refine And.intro rfl (And.intro (zS_in hz (by omega) hL) ?_)
  refine Exists.intro (nI 2) (And.intro rfl ?_)
  refine Exists.intro (nI (6 * n + 2)) (And.intro (nI_add _ _) ?_)
  refine And.intro rfl (And.intro (zS_in hz (by omega) hL) ?_)
  refine And.intro rfl (qx_call_mono hc (fun r s hh => ?_))
  obtain ⟨rfl, h1⟩ := hh
  refine And.intro (fun _ => ?_) (fun hne => absurd rfl hne)
  refine Exists.intro (nI (6 * (n + 1))) (And.intro (nI_add _ _) ?_)
  exact key s h1
theorem za_place {G : qx_G} (hG : kStr G) {nm : String} {L n : Nat} {xs : Nat → Int32} (hS : gScr G L xs) {σ : qx_S} (h : zZ (n + 6) σ) (hz : zS L xs σ) (hn : 6 * n + 6 ≤ L) (hL : L ≤ 3072) (key : ∀ s, zZ (n + 7) s → zHd G nm (n + 1) s) : qx_K G qc_T 40 RL (YL_law nm) 493 [.ref 0, .ref 3, .ref 197, .int (nI (6 * n))] [] σ zF := by
  have hc : zO G YX11_place YX12_place [.int (xs (6 * n + 1)), .int (xs (6 * n + 2))] (n + 6) σ := z_place h _ _
  have hc : qx_call G qc_T 40 YX11_place [.ref 3, .int (qx_mi σ 0 (nI (6 * n + 1)).toNatClampNeg), .int (qx_mi σ 0 (nI (6 * n + 2)).toNatClampNeg)] σ (fun r s => ∃ v, r = some (.int v) ∧ qx_call G qc_T 40 YX12_place [.ref 197, .int (xs (6 * n + 1)), .int (xs (6 * n + 2))] s (fun r s => r = some (.int v) ∧ zZ (n + 7) s)) := by rw [zS_at hz (show 6 * n + 1 < L by omega) (by omega), zS_at hz (show 6 * n + 2 < L by omega) (by omega)]; exact hc
  refine qy_wp_ok (c := CL_place nm) (cuts := [507, 18]) (vL_place nm) (wL_place nm) 60 493 _ _ _ ?_
  refine Exists.intro (nI 1) (And.intro rfl ?_)
  refine Exists.intro (nI (6 * n + 1)) (And.intro (nI_add _ _) ?_)
  refine And.intro rfl (And.intro (zS_in hz (by omega) hL) ?_)
  refine Exists.intro (nI 2) (And.intro rfl ?_)
  refine Exists.intro (nI (6 * n + 2)) (And.intro (nI_add _ _) ?_)
  refine And.intro rfl (And.intro (zS_in hz (by omega) hL) ?_)
  refine And.intro rfl (qx_call_mono hc (fun r s hh => ?_))
  obtain ⟨v, rfl, h1⟩ := hh
  exact qx_K_pure hS (zF_of h1 (by omega)) (fun hz1 => zb_place hz1 hn hL h1 key)
theorem zb_call {G : qx_G} {nm : String} {L n : Nat} {xs : Nat → Int32} {σ : qx_S} {v : Int32} (hz : zS L xs σ) (hn : 6 * n + 6 ≤ L) (hL : L ≤ 3072) (hc : qx_call G qc_T 40 YX12_call [.ref 197, .int (xs (6 * n + 1))] σ (fun r s => r = some (.int v) ∧ zZ (n + 7) s)) (key : ∀ s, zZ (n + 7) s → zHd G nm (n + 1) s) : qx_K G qc_T 40 RL (YL_law nm) 535 [.ref 0, .ref 3, .ref 197, .int (nI (6 * n))] [.int v] σ zF := by
  have hc : qx_call G qc_T 40 YX12_call [.ref 197, .int (qx_mi σ 0 (nI (6 * n + 1)).toNatClampNeg)] σ (fun r s => r = some (.int v) ∧ zZ (n + 7) s) := by rw [zS_at hz (show 6 * n + 1 < L by omega) (by omega)]; exact hc
  refine qy_wp_ok (c := CL_call nm) (cuts := [18]) (vL_call nm) (wL_call nm) 60 535 _ _ _ ?_
  refine Exists.intro (nI 1) (And.intro rfl ?_)
  refine Exists.intro (nI (6 * n + 1)) (And.intro (nI_add _ _) ?_)
  refine And.intro rfl (And.intro (zS_in hz (by omega) hL) ?_)
  refine And.intro rfl (qx_call_mono hc (fun r s hh => ?_))
  obtain ⟨rfl, h1⟩ := hh
  refine And.intro (fun _ => ?_) (fun hne => absurd rfl hne)
  refine Exists.intro (nI (6 * (n + 1))) (And.intro (nI_add _ _) ?_)
  exact key s h1
theorem za_call {G : qx_G} (hG : kStr G) {nm : String} {L n : Nat} {xs : Nat → Int32} (hS : gScr G L xs) {σ : qx_S} (h : zZ (n + 6) σ) (hz : zS L xs σ) (hn : 6 * n + 6 ≤ L) (hL : L ≤ 3072) (key : ∀ s, zZ (n + 7) s → zHd G nm (n + 1) s) : qx_K G qc_T 40 RL (YL_law nm) 526 [.ref 0, .ref 3, .ref 197, .int (nI (6 * n))] [] σ zF := by
  have hc : zO G YX11_call YX12_call [.int (xs (6 * n + 1))] (n + 6) σ := z_call h _
  have hc : qx_call G qc_T 40 YX11_call [.ref 3, .int (qx_mi σ 0 (nI (6 * n + 1)).toNatClampNeg)] σ (fun r s => ∃ v, r = some (.int v) ∧ qx_call G qc_T 40 YX12_call [.ref 197, .int (xs (6 * n + 1))] s (fun r s => r = some (.int v) ∧ zZ (n + 7) s)) := by rw [zS_at hz (show 6 * n + 1 < L by omega) (by omega)]; exact hc
  refine qy_wp_ok (c := CL_call nm) (cuts := [535, 18]) (vL_call nm) (wL_call nm) 60 526 _ _ _ ?_
  refine Exists.intro (nI 1) (And.intro rfl ?_)
  refine Exists.intro (nI (6 * n + 1)) (And.intro (nI_add _ _) ?_)
  refine And.intro rfl (And.intro (zS_in hz (by omega) hL) ?_)
  refine And.intro rfl (qx_call_mono hc (fun r s hh => ?_))
  obtain ⟨v, rfl, h1⟩ := hh
  exact qx_K_pure hS (zF_of h1 (by omega)) (fun hz1 => zb_call hz1 hn hL h1 key)
theorem zb_may {G : qx_G} {nm : String} {L n : Nat} {xs : Nat → Int32} {σ : qx_S} {v : Int32} (hz : zS L xs σ) (hn : 6 * n + 6 ≤ L) (hL : L ≤ 3072) (hc : qx_call G qc_T 40 YX12_may [.ref 197] σ (fun r s => r = some (.int v) ∧ zZ (n + 7) s)) (key : ∀ s, zZ (n + 7) s → zHd G nm (n + 1) s) : qx_K G qc_T 40 RL (YL_law nm) 553 [.ref 0, .ref 3, .ref 197, .int (nI (6 * n))] [.int v] σ zF := by
  have hc : qx_call G qc_T 40 YX12_may [.ref 197] σ (fun r s => r = some (.int v) ∧ zZ (n + 7) s) := by exact hc
  refine qy_wp_ok (c := CL_may nm) (cuts := [18]) (vL_may nm) (wL_may nm) 60 553 _ _ _ ?_
  refine And.intro rfl (qx_call_mono hc (fun r s hh => ?_))
  obtain ⟨rfl, h1⟩ := hh
  refine And.intro (fun _ => ?_) (fun hne => absurd rfl hne)
  refine Exists.intro (nI (6 * (n + 1))) (And.intro (nI_add _ _) ?_)
  exact key s h1
theorem za_may {G : qx_G} (hG : kStr G) {nm : String} {L n : Nat} {xs : Nat → Int32} (hS : gScr G L xs) {σ : qx_S} (h : zZ (n + 6) σ) (hz : zS L xs σ) (hn : 6 * n + 6 ≤ L) (hL : L ≤ 3072) (key : ∀ s, zZ (n + 7) s → zHd G nm (n + 1) s) : qx_K G qc_T 40 RL (YL_law nm) 549 [.ref 0, .ref 3, .ref 197, .int (nI (6 * n))] [] σ zF := by
  have hc : zO G YX11_may YX12_may [] (n + 6) σ := z_may h
  have hc : qx_call G qc_T 40 YX11_may [.ref 3] σ (fun r s => ∃ v, r = some (.int v) ∧ qx_call G qc_T 40 YX12_may [.ref 197] s (fun r s => r = some (.int v) ∧ zZ (n + 7) s)) := by exact hc
  refine qy_wp_ok (c := CL_may nm) (cuts := [553, 18]) (vL_may nm) (wL_may nm) 60 549 _ _ _ ?_
  refine And.intro rfl (qx_call_mono hc (fun r s hh => ?_))
  obtain ⟨v, rfl, h1⟩ := hh
  exact qx_K_pure hS (zF_of h1 (by omega)) (fun hz1 => zb_may hz1 hn hL h1 key)
theorem zb_go {G : qx_G} {nm : String} {L n : Nat} {xs : Nat → Int32} {σ : qx_S} {v : Int32} (hz : zS L xs σ) (hn : 6 * n + 6 ≤ L) (hL : L ≤ 3072) (hc : qx_call G qc_T 40 YX12_go [.ref 197] σ (fun r s => r = some (.int v) ∧ zZ (n + 7) s)) (key : ∀ s, zZ (n + 7) s → zHd G nm (n + 1) s) : qx_K G qc_T 40 RL (YL_law nm) 566 [.ref 0, .ref 3, .ref 197, .int (nI (6 * n))] [.int v] σ zF := by
  have hc : qx_call G qc_T 40 YX12_go [.ref 197] σ (fun r s => r = some (.int v) ∧ zZ (n + 7) s) := by exact hc
  refine qy_wp_ok (c := CL_go nm) (cuts := [18]) (vL_go nm) (wL_go nm) 60 566 _ _ _ ?_
  refine And.intro rfl (qx_call_mono hc (fun r s hh => ?_))
  obtain ⟨rfl, h1⟩ := hh
  refine And.intro (fun _ => ?_) (fun hne => absurd rfl hne)
  refine Exists.intro (nI (6 * (n + 1))) (And.intro (nI_add _ _) ?_)
  exact key s h1
theorem za_go {G : qx_G} (hG : kStr G) {nm : String} {L n : Nat} {xs : Nat → Int32} (hS : gScr G L xs) {σ : qx_S} (h : zZ (n + 6) σ) (hz : zS L xs σ) (hn : 6 * n + 6 ≤ L) (hL : L ≤ 3072) (key : ∀ s, zZ (n + 7) s → zHd G nm (n + 1) s) : qx_K G qc_T 40 RL (YL_law nm) 562 [.ref 0, .ref 3, .ref 197, .int (nI (6 * n))] [] σ zF := by
  have hc : zO G YX11_go YX12_go [] (n + 6) σ := z_go h (by omega)
  have hc : qx_call G qc_T 40 YX11_go [.ref 3] σ (fun r s => ∃ v, r = some (.int v) ∧ qx_call G qc_T 40 YX12_go [.ref 197] s (fun r s => r = some (.int v) ∧ zZ (n + 7) s)) := by exact hc
  refine qy_wp_ok (c := CL_go nm) (cuts := [566, 18]) (vL_go nm) (wL_go nm) 60 562 _ _ _ ?_
  refine And.intro rfl (qx_call_mono hc (fun r s hh => ?_))
  obtain ⟨v, rfl, h1⟩ := hh
  exact qx_K_pure hS (zF_of h1 (by omega)) (fun hz1 => zb_go hz1 hn hL h1 key)
theorem zb_undo {G : qx_G} {nm : String} {L n : Nat} {xs : Nat → Int32} {σ : qx_S} {v : Int32} (hz : zS L xs σ) (hn : 6 * n + 6 ≤ L) (hL : L ≤ 3072) (hc : qx_call G qc_T 40 YX12_undo [.ref 197] σ (fun r s => r = some (.int v) ∧ zZ (n + 7) s)) (key : ∀ s, zZ (n + 7) s → zHd G nm (n + 1) s) : qx_K G qc_T 40 RL (YL_law nm) 579 [.ref 0, .ref 3, .ref 197, .int (nI (6 * n))] [.int v] σ zF := by
  have hc : qx_call G qc_T 40 YX12_undo [.ref 197] σ (fun r s => r = some (.int v) ∧ zZ (n + 7) s) := by exact hc
  refine qy_wp_ok (c := CL_undo nm) (cuts := [18]) (vL_undo nm) (wL_undo nm) 60 579 _ _ _ ?_
  refine And.intro rfl (qx_call_mono hc (fun r s hh => ?_))
  obtain ⟨rfl, h1⟩ := hh
  refine And.intro (fun _ => ?_) (fun hne => absurd rfl hne)
  refine Exists.intro (nI (6 * (n + 1))) (And.intro (nI_add _ _) ?_)
  exact key s h1
theorem za_undo {G : qx_G} (hG : kStr G) {nm : String} {L n : Nat} {xs : Nat → Int32} (hS : gScr G L xs) {σ : qx_S} (h : zZ (n + 6) σ) (hz : zS L xs σ) (hn : 6 * n + 6 ≤ L) (hL : L ≤ 3072) (key : ∀ s, zZ (n + 7) s → zHd G nm (n + 1) s) : qx_K G qc_T 40 RL (YL_law nm) 575 [.ref 0, .ref 3, .ref 197, .int (nI (6 * n))] [] σ zF := by
  have hc : zO G YX11_undo YX12_undo [] (n + 6) σ := z_undo h (by omega)
  have hc : qx_call G qc_T 40 YX11_undo [.ref 3] σ (fun r s => ∃ v, r = some (.int v) ∧ qx_call G qc_T 40 YX12_undo [.ref 197] s (fun r s => r = some (.int v) ∧ zZ (n + 7) s)) := by exact hc
  refine qy_wp_ok (c := CL_undo nm) (cuts := [579, 18]) (vL_undo nm) (wL_undo nm) 60 575 _ _ _ ?_
  refine And.intro rfl (qx_call_mono hc (fun r s hh => ?_))
  obtain ⟨v, rfl, h1⟩ := hh
  exact qx_K_pure hS (zF_of h1 (by omega)) (fun hz1 => zb_undo hz1 hn hL h1 key)
theorem zb_owes {G : qx_G} {nm : String} {L n : Nat} {xs : Nat → Int32} {σ : qx_S} {v : Int32} (hz : zS L xs σ) (hn : 6 * n + 6 ≤ L) (hL : L ≤ 3072) (hc : qx_call G qc_T 40 YX12_owes [.ref 197, .int (xs (6 * n + 1)), .int (xs (6 * n + 2))] σ (fun r s => r = some (.int v) ∧ zZ (n + 7) s)) (key : ∀ s, zZ (n + 7) s → zHd G nm (n + 1) s) : qx_K G qc_T 40 RL (YL_law nm) 602 [.ref 0, .ref 3, .ref 197, .int (nI (6 * n))] [.int v] σ zF := by
  have hc : qx_call G qc_T 40 YX12_owes [.ref 197, .int (qx_mi σ 0 (nI (6 * n + 1)).toNatClampNeg), .int (qx_mi σ 0 (nI (6 * n + 2)).toNatClampNeg)] σ (fun r s => r = some (.int v) ∧ zZ (n + 7) s) := by rw [zS_at hz (show 6 * n + 1 < L by omega) (by omega), zS_at hz (show 6 * n + 2 < L by omega) (by omega)]; exact hc
  refine qy_wp_ok (c := CL_owes nm) (cuts := [18]) (vL_owes nm) (wL_owes nm) 60 602 _ _ _ ?_
  refine Exists.intro (nI 1) (And.intro rfl ?_)
  refine Exists.intro (nI (6 * n + 1)) (And.intro (nI_add _ _) ?_)
  refine And.intro rfl (And.intro (zS_in hz (by omega) hL) ?_)
  refine Exists.intro (nI 2) (And.intro rfl ?_)
  refine Exists.intro (nI (6 * n + 2)) (And.intro (nI_add _ _) ?_)
  refine And.intro rfl (And.intro (zS_in hz (by omega) hL) ?_)
  refine And.intro rfl (qx_call_mono hc (fun r s hh => ?_))
  obtain ⟨rfl, h1⟩ := hh
  refine And.intro (fun _ => ?_) (fun hne => absurd rfl hne)
  refine Exists.intro (nI (6 * (n + 1))) (And.intro (nI_add _ _) ?_)
  exact key s h1
theorem za_owes {G : qx_G} (hG : kStr G) {nm : String} {L n : Nat} {xs : Nat → Int32} (hS : gScr G L xs) {σ : qx_S} (h : zZ (n + 6) σ) (hz : zS L xs σ) (hn : 6 * n + 6 ≤ L) (hL : L ≤ 3072) (key : ∀ s, zZ (n + 7) s → zHd G nm (n + 1) s) : qx_K G qc_T 40 RL (YL_law nm) 588 [.ref 0, .ref 3, .ref 197, .int (nI (6 * n))] [] σ zF := by
  have hc : zO G YX11_owes YX12_owes [.int (xs (6 * n + 1)), .int (xs (6 * n + 2))] (n + 6) σ := z_owes h _ _
  have hc : qx_call G qc_T 40 YX11_owes [.ref 3, .int (qx_mi σ 0 (nI (6 * n + 1)).toNatClampNeg), .int (qx_mi σ 0 (nI (6 * n + 2)).toNatClampNeg)] σ (fun r s => ∃ v, r = some (.int v) ∧ qx_call G qc_T 40 YX12_owes [.ref 197, .int (xs (6 * n + 1)), .int (xs (6 * n + 2))] s (fun r s => r = some (.int v) ∧ zZ (n + 7) s)) := by rw [zS_at hz (show 6 * n + 1 < L by omega) (by omega), zS_at hz (show 6 * n + 2 < L by omega) (by omega)]; exact hc
  refine qy_wp_ok (c := CL_owes nm) (cuts := [602, 18]) (vL_owes nm) (wL_owes nm) 60 588 _ _ _ ?_
  refine Exists.intro (nI 1) (And.intro rfl ?_)
  refine Exists.intro (nI (6 * n + 1)) (And.intro (nI_add _ _) ?_)
  refine And.intro rfl (And.intro (zS_in hz (by omega) hL) ?_)
  refine Exists.intro (nI 2) (And.intro rfl ?_)
  refine Exists.intro (nI (6 * n + 2)) (And.intro (nI_add _ _) ?_)
  refine And.intro rfl (And.intro (zS_in hz (by omega) hL) ?_)
  refine And.intro rfl (qx_call_mono hc (fun r s hh => ?_))
  obtain ⟨v, rfl, h1⟩ := hh
  exact qx_K_pure hS (zF_of h1 (by omega)) (fun hz1 => zb_owes hz1 hn hL h1 key)
theorem zb_pay {G : qx_G} {nm : String} {L n : Nat} {xs : Nat → Int32} {σ : qx_S} {v : Int32} (hz : zS L xs σ) (hn : 6 * n + 6 ≤ L) (hL : L ≤ 3072) (hc : qx_call G qc_T 40 YX12_pay [.ref 197, .int (xs (6 * n + 1)), .int (xs (6 * n + 2)), .int (xs (6 * n + 3))] σ (fun r s => r = some (.int v) ∧ zZ (n + 7) s)) (key : ∀ s, zZ (n + 7) s → zHd G nm (n + 1) s) : qx_K G qc_T 40 RL (YL_law nm) 640 [.ref 0, .ref 3, .ref 197, .int (nI (6 * n))] [.int v] σ zF := by
  have hc : qx_call G qc_T 40 YX12_pay [.ref 197, .int (qx_mi σ 0 (nI (6 * n + 1)).toNatClampNeg), .int (qx_mi σ 0 (nI (6 * n + 2)).toNatClampNeg), .int (qx_mi σ 0 (nI (6 * n + 3)).toNatClampNeg)] σ (fun r s => r = some (.int v) ∧ zZ (n + 7) s) := by rw [zS_at hz (show 6 * n + 1 < L by omega) (by omega), zS_at hz (show 6 * n + 2 < L by omega) (by omega), zS_at hz (show 6 * n + 3 < L by omega) (by omega)]; exact hc
  refine qy_wp_ok (c := CL_pay nm) (cuts := [18]) (vL_pay nm) (wL_pay nm) 60 640 _ _ _ ?_
  refine Exists.intro (nI 1) (And.intro rfl ?_)
  refine Exists.intro (nI (6 * n + 1)) (And.intro (nI_add _ _) ?_)
  refine And.intro rfl (And.intro (zS_in hz (by omega) hL) ?_)
  refine Exists.intro (nI 2) (And.intro rfl ?_)
  refine Exists.intro (nI (6 * n + 2)) (And.intro (nI_add _ _) ?_)
  refine And.intro rfl (And.intro (zS_in hz (by omega) hL) ?_)
  refine Exists.intro (nI 3) (And.intro rfl ?_)
  refine Exists.intro (nI (6 * n + 3)) (And.intro (nI_add _ _) ?_)
  refine And.intro rfl (And.intro (zS_in hz (by omega) hL) ?_)
  refine And.intro rfl (qx_call_mono hc (fun r s hh => ?_))
  obtain ⟨rfl, h1⟩ := hh
  refine And.intro (fun _ => ?_) (fun hne => absurd rfl hne)
  refine Exists.intro (nI (6 * (n + 1))) (And.intro (nI_add _ _) ?_)
  exact key s h1
theorem za_pay {G : qx_G} (hG : kStr G) {nm : String} {L n : Nat} {xs : Nat → Int32} (hS : gScr G L xs) {σ : qx_S} (h : zZ (n + 6) σ) (hz : zS L xs σ) (hn : 6 * n + 6 ≤ L) (hL : L ≤ 3072) (key : ∀ s, zZ (n + 7) s → zHd G nm (n + 1) s) : qx_K G qc_T 40 RL (YL_law nm) 621 [.ref 0, .ref 3, .ref 197, .int (nI (6 * n))] [] σ zF := by
  have hc : zO G YX11_pay YX12_pay [.int (xs (6 * n + 1)), .int (xs (6 * n + 2)), .int (xs (6 * n + 3))] (n + 6) σ := z_pay h (by omega) _ _ _
  have hc : qx_call G qc_T 40 YX11_pay [.ref 3, .int (qx_mi σ 0 (nI (6 * n + 1)).toNatClampNeg), .int (qx_mi σ 0 (nI (6 * n + 2)).toNatClampNeg), .int (qx_mi σ 0 (nI (6 * n + 3)).toNatClampNeg)] σ (fun r s => ∃ v, r = some (.int v) ∧ qx_call G qc_T 40 YX12_pay [.ref 197, .int (xs (6 * n + 1)), .int (xs (6 * n + 2)), .int (xs (6 * n + 3))] s (fun r s => r = some (.int v) ∧ zZ (n + 7) s)) := by rw [zS_at hz (show 6 * n + 1 < L by omega) (by omega), zS_at hz (show 6 * n + 2 < L by omega) (by omega), zS_at hz (show 6 * n + 3 < L by omega) (by omega)]; exact hc
  refine qy_wp_ok (c := CL_pay nm) (cuts := [640, 18]) (vL_pay nm) (wL_pay nm) 60 621 _ _ _ ?_
  refine Exists.intro (nI 1) (And.intro rfl ?_)
  refine Exists.intro (nI (6 * n + 1)) (And.intro (nI_add _ _) ?_)
  refine And.intro rfl (And.intro (zS_in hz (by omega) hL) ?_)
  refine Exists.intro (nI 2) (And.intro rfl ?_)
  refine Exists.intro (nI (6 * n + 2)) (And.intro (nI_add _ _) ?_)
  refine And.intro rfl (And.intro (zS_in hz (by omega) hL) ?_)
  refine Exists.intro (nI 3) (And.intro rfl ?_)
  refine Exists.intro (nI (6 * n + 3)) (And.intro (nI_add _ _) ?_)
  refine And.intro rfl (And.intro (zS_in hz (by omega) hL) ?_)
  refine And.intro rfl (qx_call_mono hc (fun r s hh => ?_))
  obtain ⟨v, rfl, h1⟩ := hh
  exact qx_K_pure hS (zF_of h1 (by omega)) (fun hz1 => zb_pay hz1 hn hL h1 key)
theorem zb_strike {G : qx_G} {nm : String} {L n : Nat} {xs : Nat → Int32} {σ : qx_S} {v : Int32} (hz : zS L xs σ) (hn : 6 * n + 6 ≤ L) (hL : L ≤ 3072) (hc : qx_call G qc_T 40 YX12_strike [.ref 197] σ (fun r s => r = some (.int v) ∧ zZ (n + 7) s)) (key : ∀ s, zZ (n + 7) s → zHd G nm (n + 1) s) : qx_K G qc_T 40 RL (YL_law nm) 668 [.ref 0, .ref 3, .ref 197, .int (nI (6 * n))] [.int v] σ zF := by
  have hc : qx_call G qc_T 40 YX12_strike [.ref 197] σ (fun r s => r = some (.int v) ∧ zZ (n + 7) s) := by exact hc
  refine qy_wp_ok (c := CL_strike nm) (cuts := [18]) (vL_strike nm) (wL_strike nm) 60 668 _ _ _ ?_
  refine And.intro rfl (qx_call_mono hc (fun r s hh => ?_))
  obtain ⟨rfl, h1⟩ := hh
  refine And.intro (fun _ => ?_) (fun hne => absurd rfl hne)
  refine Exists.intro (nI (6 * (n + 1))) (And.intro (nI_add _ _) ?_)
  exact key s h1
theorem za_strike {G : qx_G} (hG : kStr G) {nm : String} {L n : Nat} {xs : Nat → Int32} (hS : gScr G L xs) {σ : qx_S} (h : zZ (n + 6) σ) (hz : zS L xs σ) (hn : 6 * n + 6 ≤ L) (hL : L ≤ 3072) (key : ∀ s, zZ (n + 7) s → zHd G nm (n + 1) s) : qx_K G qc_T 40 RL (YL_law nm) 664 [.ref 0, .ref 3, .ref 197, .int (nI (6 * n))] [] σ zF := by
  have hc : zO G YX11_strike YX12_strike [] (n + 6) σ := z_strike h (by omega)
  have hc : qx_call G qc_T 40 YX11_strike [.ref 3] σ (fun r s => ∃ v, r = some (.int v) ∧ qx_call G qc_T 40 YX12_strike [.ref 197] s (fun r s => r = some (.int v) ∧ zZ (n + 7) s)) := by exact hc
  refine qy_wp_ok (c := CL_strike nm) (cuts := [668, 18]) (vL_strike nm) (wL_strike nm) 60 664 _ _ _ ?_
  refine And.intro rfl (qx_call_mono hc (fun r s hh => ?_))
  obtain ⟨v, rfl, h1⟩ := hh
  exact qx_K_pure hS (zF_of h1 (by omega)) (fun hz1 => zb_strike hz1 hn hL h1 key)
theorem zb_dawn {G : qx_G} {nm : String} {L n : Nat} {xs : Nat → Int32} {σ : qx_S} {v : Int32} (hz : zS L xs σ) (hn : 6 * n + 6 ≤ L) (hL : L ≤ 3072) (hc : qx_call G qc_T 40 YX12_dawn [.ref 197] σ (fun r s => r = some (.int v) ∧ zZ (n + 7) s)) (key : ∀ s, zZ (n + 7) s → zHd G nm (n + 1) s) : qx_K G qc_T 40 RL (YL_law nm) 681 [.ref 0, .ref 3, .ref 197, .int (nI (6 * n))] [.int v] σ zF := by
  have hc : qx_call G qc_T 40 YX12_dawn [.ref 197] σ (fun r s => r = some (.int v) ∧ zZ (n + 7) s) := by exact hc
  refine qy_wp_ok (c := CL_dawn nm) (cuts := [18]) (vL_dawn nm) (wL_dawn nm) 60 681 _ _ _ ?_
  refine And.intro rfl (qx_call_mono hc (fun r s hh => ?_))
  obtain ⟨rfl, h1⟩ := hh
  refine And.intro (fun _ => ?_) (fun hne => absurd rfl hne)
  refine Exists.intro (nI (6 * (n + 1))) (And.intro (nI_add _ _) ?_)
  exact key s h1
theorem za_dawn {G : qx_G} (hG : kStr G) {nm : String} {L n : Nat} {xs : Nat → Int32} (hS : gScr G L xs) {σ : qx_S} (h : zZ (n + 6) σ) (hz : zS L xs σ) (hn : 6 * n + 6 ≤ L) (hL : L ≤ 3072) (key : ∀ s, zZ (n + 7) s → zHd G nm (n + 1) s) : qx_K G qc_T 40 RL (YL_law nm) 677 [.ref 0, .ref 3, .ref 197, .int (nI (6 * n))] [] σ zF := by
  have hc : zO G YX11_dawn YX12_dawn [] (n + 6) σ := z_dawn h (by omega)
  have hc : qx_call G qc_T 40 YX11_dawn [.ref 3] σ (fun r s => ∃ v, r = some (.int v) ∧ qx_call G qc_T 40 YX12_dawn [.ref 197] s (fun r s => r = some (.int v) ∧ zZ (n + 7) s)) := by exact hc
  refine qy_wp_ok (c := CL_dawn nm) (cuts := [681, 18]) (vL_dawn nm) (wL_dawn nm) 60 677 _ _ _ ?_
  refine And.intro rfl (qx_call_mono hc (fun r s hh => ?_))
  obtain ⟨v, rfl, h1⟩ := hh
  exact qx_K_pure hS (zF_of h1 (by omega)) (fun hz1 => zb_dawn hz1 hn hL h1 key)
theorem zb_book {G : qx_G} {nm : String} {L n : Nat} {xs : Nat → Int32} {σ : qx_S} {v : Int32} (hz : zS L xs σ) (hn : 6 * n + 6 ≤ L) (hL : L ≤ 3072) (hc : qx_call G qc_T 40 YX12_book [.ref 197] σ (fun r s => r = some (.int v) ∧ zZ (n + 7) s)) (key : ∀ s, zZ (n + 7) s → zHd G nm (n + 1) s) : qx_K G qc_T 40 RL (YL_law nm) 694 [.ref 0, .ref 3, .ref 197, .int (nI (6 * n))] [.int v] σ zF := by
  have hc : qx_call G qc_T 40 YX12_book [.ref 197] σ (fun r s => r = some (.int v) ∧ zZ (n + 7) s) := by exact hc
  refine qy_wp_ok (c := CL_book nm) (cuts := [18]) (vL_book nm) (wL_book nm) 60 694 _ _ _ ?_
  refine And.intro rfl (qx_call_mono hc (fun r s hh => ?_))
  obtain ⟨rfl, h1⟩ := hh
  refine And.intro (fun _ => ?_) (fun hne => absurd rfl hne)
  refine Exists.intro (nI (6 * (n + 1))) (And.intro (nI_add _ _) ?_)
  exact key s h1
theorem za_book {G : qx_G} (hG : kStr G) {nm : String} {L n : Nat} {xs : Nat → Int32} (hS : gScr G L xs) {σ : qx_S} (h : zZ (n + 6) σ) (hz : zS L xs σ) (hn : 6 * n + 6 ≤ L) (hL : L ≤ 3072) (key : ∀ s, zZ (n + 7) s → zHd G nm (n + 1) s) : qx_K G qc_T 40 RL (YL_law nm) 690 [.ref 0, .ref 3, .ref 197, .int (nI (6 * n))] [] σ zF := by
  have hc : zO G YX11_book YX12_book [] (n + 6) σ := z_book h
  have hc : qx_call G qc_T 40 YX11_book [.ref 3] σ (fun r s => ∃ v, r = some (.int v) ∧ qx_call G qc_T 40 YX12_book [.ref 197] s (fun r s => r = some (.int v) ∧ zZ (n + 7) s)) := by exact hc
  refine qy_wp_ok (c := CL_book nm) (cuts := [694, 18]) (vL_book nm) (wL_book nm) 60 690 _ _ _ ?_
  refine And.intro rfl (qx_call_mono hc (fun r s hh => ?_))
  obtain ⟨v, rfl, h1⟩ := hh
  exact qx_K_pure hS (zF_of h1 (by omega)) (fun hz1 => zb_book hz1 hn hL h1 key)
theorem zb_burn {G : qx_G} {nm : String} {L n : Nat} {xs : Nat → Int32} {σ : qx_S} {v : Int32} (hz : zS L xs σ) (hn : 6 * n + 6 ≤ L) (hL : L ≤ 3072) (hc : qx_call G qc_T 40 YX12_burn [.ref 197] σ (fun r s => r = some (.int v) ∧ zZ (n + 7) s)) (key : ∀ s, zZ (n + 7) s → zHd G nm (n + 1) s) : qx_K G qc_T 40 RL (YL_law nm) 707 [.ref 0, .ref 3, .ref 197, .int (nI (6 * n))] [.int v] σ zF := by
  have hc : qx_call G qc_T 40 YX12_burn [.ref 197] σ (fun r s => r = some (.int v) ∧ zZ (n + 7) s) := by exact hc
  refine qy_wp_ok (c := CL_burn nm) (cuts := [18]) (vL_burn nm) (wL_burn nm) 60 707 _ _ _ ?_
  refine And.intro rfl (qx_call_mono hc (fun r s hh => ?_))
  obtain ⟨rfl, h1⟩ := hh
  refine And.intro (fun _ => ?_) (fun hne => absurd rfl hne)
  refine Exists.intro (nI (6 * (n + 1))) (And.intro (nI_add _ _) ?_)
  exact key s h1
theorem za_burn {G : qx_G} (hG : kStr G) {nm : String} {L n : Nat} {xs : Nat → Int32} (hS : gScr G L xs) {σ : qx_S} (h : zZ (n + 6) σ) (hz : zS L xs σ) (hn : 6 * n + 6 ≤ L) (hL : L ≤ 3072) (key : ∀ s, zZ (n + 7) s → zHd G nm (n + 1) s) : qx_K G qc_T 40 RL (YL_law nm) 703 [.ref 0, .ref 3, .ref 197, .int (nI (6 * n))] [] σ zF := by
  have hc : zO G YX11_burn YX12_burn [] (n + 6) σ := z_burn h
  have hc : qx_call G qc_T 40 YX11_burn [.ref 3] σ (fun r s => ∃ v, r = some (.int v) ∧ qx_call G qc_T 40 YX12_burn [.ref 197] s (fun r s => r = some (.int v) ∧ zZ (n + 7) s)) := by exact hc
  refine qy_wp_ok (c := CL_burn nm) (cuts := [707, 18]) (vL_burn nm) (wL_burn nm) 60 703 _ _ _ ?_
  refine And.intro rfl (qx_call_mono hc (fun r s hh => ?_))
  obtain ⟨v, rfl, h1⟩ := hh
  exact qx_K_pure hS (zF_of h1 (by omega)) (fun hz1 => zb_burn hz1 hn hL h1 key)
theorem zb_judged {G : qx_G} {nm : String} {L n : Nat} {xs : Nat → Int32} {σ : qx_S} {v : Int32} (hz : zS L xs σ) (hn : 6 * n + 6 ≤ L) (hL : L ≤ 3072) (hc : qx_call G qc_T 40 YX12_judged [.ref 197, .int (xs (6 * n + 1))] σ (fun r s => r = some (.int v) ∧ zZ (n + 7) s)) (key : ∀ s, zZ (n + 7) s → zHd G nm (n + 1) s) : qx_K G qc_T 40 RL (YL_law nm) 725 [.ref 0, .ref 3, .ref 197, .int (nI (6 * n))] [.int v] σ zF := by
  have hc : qx_call G qc_T 40 YX12_judged [.ref 197, .int (qx_mi σ 0 (nI (6 * n + 1)).toNatClampNeg)] σ (fun r s => r = some (.int v) ∧ zZ (n + 7) s) := by rw [zS_at hz (show 6 * n + 1 < L by omega) (by omega)]; exact hc
  refine qy_wp_ok (c := CL_judged nm) (cuts := [18]) (vL_judged nm) (wL_judged nm) 60 725 _ _ _ ?_
  refine Exists.intro (nI 1) (And.intro rfl ?_)
  refine Exists.intro (nI (6 * n + 1)) (And.intro (nI_add _ _) ?_)
  refine And.intro rfl (And.intro (zS_in hz (by omega) hL) ?_)
  refine And.intro rfl (qx_call_mono hc (fun r s hh => ?_))
  obtain ⟨rfl, h1⟩ := hh
  refine And.intro (fun _ => ?_) (fun hne => absurd rfl hne)
  refine Exists.intro (nI (6 * (n + 1))) (And.intro (nI_add _ _) ?_)
  exact key s h1
theorem za_judged {G : qx_G} (hG : kStr G) {nm : String} {L n : Nat} {xs : Nat → Int32} (hS : gScr G L xs) {σ : qx_S} (h : zZ (n + 6) σ) (hz : zS L xs σ) (hn : 6 * n + 6 ≤ L) (hL : L ≤ 3072) (key : ∀ s, zZ (n + 7) s → zHd G nm (n + 1) s) : qx_K G qc_T 40 RL (YL_law nm) 716 [.ref 0, .ref 3, .ref 197, .int (nI (6 * n))] [] σ zF := by
  have hc : zO G YX11_judged YX12_judged [.int (xs (6 * n + 1))] (n + 6) σ := z_judged h _
  have hc : qx_call G qc_T 40 YX11_judged [.ref 3, .int (qx_mi σ 0 (nI (6 * n + 1)).toNatClampNeg)] σ (fun r s => ∃ v, r = some (.int v) ∧ qx_call G qc_T 40 YX12_judged [.ref 197, .int (xs (6 * n + 1))] s (fun r s => r = some (.int v) ∧ zZ (n + 7) s)) := by rw [zS_at hz (show 6 * n + 1 < L by omega) (by omega)]; exact hc
  refine qy_wp_ok (c := CL_judged nm) (cuts := [725, 18]) (vL_judged nm) (wL_judged nm) 60 716 _ _ _ ?_
  refine Exists.intro (nI 1) (And.intro rfl ?_)
  refine Exists.intro (nI (6 * n + 1)) (And.intro (nI_add _ _) ?_)
  refine And.intro rfl (And.intro (zS_in hz (by omega) hL) ?_)
  refine And.intro rfl (qx_call_mono hc (fun r s hh => ?_))
  obtain ⟨v, rfl, h1⟩ := hh
  exact qx_K_pure hS (zF_of h1 (by omega)) (fun hz1 => zb_judged hz1 hn hL h1 key)
theorem zb_then {G : qx_G} {nm : String} {L n : Nat} {xs : Nat → Int32} {σ : qx_S} {v : Int32} (hz : zS L xs σ) (hn : 6 * n + 6 ≤ L) (hL : L ≤ 3072) (hc : qx_call G qc_T 40 YX12_then [.ref 197, .int (xs (6 * n + 1))] σ (fun r s => r = some (.int v) ∧ zZ (n + 7) s)) (key : ∀ s, zZ (n + 7) s → zHd G nm (n + 1) s) : qx_K G qc_T 40 RL (YL_law nm) 748 [.ref 0, .ref 3, .ref 197, .int (nI (6 * n))] [.int v] σ zF := by
  have hc : qx_call G qc_T 40 YX12_then [.ref 197, .int (qx_mi σ 0 (nI (6 * n + 1)).toNatClampNeg)] σ (fun r s => r = some (.int v) ∧ zZ (n + 7) s) := by rw [zS_at hz (show 6 * n + 1 < L by omega) (by omega)]; exact hc
  refine qy_wp_ok (c := CL_then nm) (cuts := [18]) (vL_then nm) (wL_then nm) 60 748 _ _ _ ?_
  refine Exists.intro (nI 1) (And.intro rfl ?_)
  refine Exists.intro (nI (6 * n + 1)) (And.intro (nI_add _ _) ?_)
  refine And.intro rfl (And.intro (zS_in hz (by omega) hL) ?_)
  refine And.intro rfl (qx_call_mono hc (fun r s hh => ?_))
  obtain ⟨rfl, h1⟩ := hh
  refine And.intro (fun _ => ?_) (fun hne => absurd rfl hne)
  refine Exists.intro (nI (6 * (n + 1))) (And.intro (nI_add _ _) ?_)
  exact key s h1
theorem za_then {G : qx_G} (hG : kStr G) {nm : String} {L n : Nat} {xs : Nat → Int32} (hS : gScr G L xs) {σ : qx_S} (h : zZ (n + 6) σ) (hz : zS L xs σ) (hn : 6 * n + 6 ≤ L) (hL : L ≤ 3072) (key : ∀ s, zZ (n + 7) s → zHd G nm (n + 1) s) : qx_K G qc_T 40 RL (YL_law nm) 739 [.ref 0, .ref 3, .ref 197, .int (nI (6 * n))] [] σ zF := by
  have hc : zO G YX11_then YX12_then [.int (xs (6 * n + 1))] (n + 6) σ := z_then h _
  have hc : qx_call G qc_T 40 YX11_then [.ref 3, .int (qx_mi σ 0 (nI (6 * n + 1)).toNatClampNeg)] σ (fun r s => ∃ v, r = some (.int v) ∧ qx_call G qc_T 40 YX12_then [.ref 197, .int (xs (6 * n + 1))] s (fun r s => r = some (.int v) ∧ zZ (n + 7) s)) := by rw [zS_at hz (show 6 * n + 1 < L by omega) (by omega)]; exact hc
  refine qy_wp_ok (c := CL_then nm) (cuts := [748, 18]) (vL_then nm) (wL_then nm) 60 739 _ _ _ ?_
  refine Exists.intro (nI 1) (And.intro rfl ?_)
  refine Exists.intro (nI (6 * n + 1)) (And.intro (nI_add _ _) ?_)
  refine And.intro rfl (And.intro (zS_in hz (by omega) hL) ?_)
  refine And.intro rfl (qx_call_mono hc (fun r s hh => ?_))
  obtain ⟨v, rfl, h1⟩ := hh
  exact qx_K_pure hS (zF_of h1 (by omega)) (fun hz1 => zb_then hz1 hn hL h1 key)
theorem zb_laidOut {G : qx_G} {nm : String} {L n : Nat} {xs : Nat → Int32} {σ : qx_S} {v : Int32} (hz : zS L xs σ) (hn : 6 * n + 6 ≤ L) (hL : L ≤ 3072) (hc : qx_call G qc_T 40 YX12_laidOut [.ref 197, .int (xs (6 * n + 1))] σ (fun r s => r = some (.int v) ∧ zZ (n + 7) s)) (key : ∀ s, zZ (n + 7) s → zHd G nm (n + 1) s) : qx_K G qc_T 40 RL (YL_law nm) 771 [.ref 0, .ref 3, .ref 197, .int (nI (6 * n))] [.int v] σ zF := by
  have hc : qx_call G qc_T 40 YX12_laidOut [.ref 197, .int (qx_mi σ 0 (nI (6 * n + 1)).toNatClampNeg)] σ (fun r s => r = some (.int v) ∧ zZ (n + 7) s) := by rw [zS_at hz (show 6 * n + 1 < L by omega) (by omega)]; exact hc
  refine qy_wp_ok (c := CL_laidOut nm) (cuts := [18]) (vL_laidOut nm) (wL_laidOut nm) 60 771 _ _ _ ?_
  refine Exists.intro (nI 1) (And.intro rfl ?_)
  refine Exists.intro (nI (6 * n + 1)) (And.intro (nI_add _ _) ?_)
  refine And.intro rfl (And.intro (zS_in hz (by omega) hL) ?_)
  refine And.intro rfl (qx_call_mono hc (fun r s hh => ?_))
  obtain ⟨rfl, h1⟩ := hh
  refine And.intro (fun _ => ?_) (fun hne => absurd rfl hne)
  refine Exists.intro (nI (6 * (n + 1))) (And.intro (nI_add _ _) ?_)
  exact key s h1
theorem za_laidOut {G : qx_G} (hG : kStr G) {nm : String} {L n : Nat} {xs : Nat → Int32} (hS : gScr G L xs) {σ : qx_S} (h : zZ (n + 6) σ) (hz : zS L xs σ) (hn : 6 * n + 6 ≤ L) (hL : L ≤ 3072) (key : ∀ s, zZ (n + 7) s → zHd G nm (n + 1) s) : qx_K G qc_T 40 RL (YL_law nm) 762 [.ref 0, .ref 3, .ref 197, .int (nI (6 * n))] [] σ zF := by
  have hc : zO G YX11_laidOut YX12_laidOut [.int (xs (6 * n + 1))] (n + 6) σ := z_laidOut h _
  have hc : qx_call G qc_T 40 YX11_laidOut [.ref 3, .int (qx_mi σ 0 (nI (6 * n + 1)).toNatClampNeg)] σ (fun r s => ∃ v, r = some (.int v) ∧ qx_call G qc_T 40 YX12_laidOut [.ref 197, .int (xs (6 * n + 1))] s (fun r s => r = some (.int v) ∧ zZ (n + 7) s)) := by rw [zS_at hz (show 6 * n + 1 < L by omega) (by omega)]; exact hc
  refine qy_wp_ok (c := CL_laidOut nm) (cuts := [771, 18]) (vL_laidOut nm) (wL_laidOut nm) 60 762 _ _ _ ?_
  refine Exists.intro (nI 1) (And.intro rfl ?_)
  refine Exists.intro (nI (6 * n + 1)) (And.intro (nI_add _ _) ?_)
  refine And.intro rfl (And.intro (zS_in hz (by omega) hL) ?_)
  refine And.intro rfl (qx_call_mono hc (fun r s hh => ?_))
  obtain ⟨v, rfl, h1⟩ := hh
  exact qx_K_pure hS (zF_of h1 (by omega)) (fun hz1 => zb_laidOut hz1 hn hL h1 key)
theorem zb_changers {G : qx_G} {nm : String} {L n : Nat} {xs : Nat → Int32} {σ : qx_S} {v : Int32} (hz : zS L xs σ) (hn : 6 * n + 6 ≤ L) (hL : L ≤ 3072) (hc : qx_call G qc_T 40 YX12_changers [.ref 197, .int (xs (6 * n + 1)), .int (xs (6 * n + 2))] σ (fun r s => r = some (.int v) ∧ zZ (n + 7) s)) (key : ∀ s, zZ (n + 7) s → zHd G nm (n + 1) s) : qx_K G qc_T 40 RL (YL_law nm) 799 [.ref 0, .ref 3, .ref 197, .int (nI (6 * n))] [.int v] σ zF := by
  have hc : qx_call G qc_T 40 YX12_changers [.ref 197, .int (qx_mi σ 0 (nI (6 * n + 1)).toNatClampNeg), .int (qx_mi σ 0 (nI (6 * n + 2)).toNatClampNeg)] σ (fun r s => r = some (.int v) ∧ zZ (n + 7) s) := by rw [zS_at hz (show 6 * n + 1 < L by omega) (by omega), zS_at hz (show 6 * n + 2 < L by omega) (by omega)]; exact hc
  refine qy_wp_ok (c := CL_changers nm) (cuts := [18]) (vL_changers nm) (wL_changers nm) 60 799 _ _ _ ?_
  refine Exists.intro (nI 1) (And.intro rfl ?_)
  refine Exists.intro (nI (6 * n + 1)) (And.intro (nI_add _ _) ?_)
  refine And.intro rfl (And.intro (zS_in hz (by omega) hL) ?_)
  refine Exists.intro (nI 2) (And.intro rfl ?_)
  refine Exists.intro (nI (6 * n + 2)) (And.intro (nI_add _ _) ?_)
  refine And.intro rfl (And.intro (zS_in hz (by omega) hL) ?_)
  refine And.intro rfl (qx_call_mono hc (fun r s hh => ?_))
  obtain ⟨rfl, h1⟩ := hh
  refine And.intro (fun _ => ?_) (fun hne => absurd rfl hne)
  refine Exists.intro (nI (6 * (n + 1))) (And.intro (nI_add _ _) ?_)
  exact key s h1
theorem za_changers {G : qx_G} (hG : kStr G) {nm : String} {L n : Nat} {xs : Nat → Int32} (hS : gScr G L xs) {σ : qx_S} (h : zZ (n + 6) σ) (hz : zS L xs σ) (hn : 6 * n + 6 ≤ L) (hL : L ≤ 3072) (key : ∀ s, zZ (n + 7) s → zHd G nm (n + 1) s) : qx_K G qc_T 40 RL (YL_law nm) 785 [.ref 0, .ref 3, .ref 197, .int (nI (6 * n))] [] σ zF := by
  have hc : zO G YX11_changers YX12_changers [.int (xs (6 * n + 1)), .int (xs (6 * n + 2))] (n + 6) σ := z_changers h _ _
  have hc : qx_call G qc_T 40 YX11_changers [.ref 3, .int (qx_mi σ 0 (nI (6 * n + 1)).toNatClampNeg), .int (qx_mi σ 0 (nI (6 * n + 2)).toNatClampNeg)] σ (fun r s => ∃ v, r = some (.int v) ∧ qx_call G qc_T 40 YX12_changers [.ref 197, .int (xs (6 * n + 1)), .int (xs (6 * n + 2))] s (fun r s => r = some (.int v) ∧ zZ (n + 7) s)) := by rw [zS_at hz (show 6 * n + 1 < L by omega) (by omega), zS_at hz (show 6 * n + 2 < L by omega) (by omega)]; exact hc
  refine qy_wp_ok (c := CL_changers nm) (cuts := [799, 18]) (vL_changers nm) (wL_changers nm) 60 785 _ _ _ ?_
  refine Exists.intro (nI 1) (And.intro rfl ?_)
  refine Exists.intro (nI (6 * n + 1)) (And.intro (nI_add _ _) ?_)
  refine And.intro rfl (And.intro (zS_in hz (by omega) hL) ?_)
  refine Exists.intro (nI 2) (And.intro rfl ?_)
  refine Exists.intro (nI (6 * n + 2)) (And.intro (nI_add _ _) ?_)
  refine And.intro rfl (And.intro (zS_in hz (by omega) hL) ?_)
  refine And.intro rfl (qx_call_mono hc (fun r s hh => ?_))
  obtain ⟨v, rfl, h1⟩ := hh
  exact qx_K_pure hS (zF_of h1 (by omega)) (fun hz1 => zb_changers hz1 hn hL h1 key)
theorem zb_most {G : qx_G} {nm : String} {L n : Nat} {xs : Nat → Int32} {σ : qx_S} {v : Int32} (hz : zS L xs σ) (hn : 6 * n + 6 ≤ L) (hL : L ≤ 3072) (hc : qx_call G qc_T 40 YX12_most [.ref 197, .int (xs (6 * n + 1)), .int (xs (6 * n + 2))] σ (fun r s => r = some (.int v) ∧ zZ (n + 7) s)) (key : ∀ s, zZ (n + 7) s → zHd G nm (n + 1) s) : qx_K G qc_T 40 RL (YL_law nm) 832 [.ref 0, .ref 3, .ref 197, .int (nI (6 * n))] [.int v] σ zF := by
  have hc : qx_call G qc_T 40 YX12_most [.ref 197, .int (qx_mi σ 0 (nI (6 * n + 1)).toNatClampNeg), .int (qx_mi σ 0 (nI (6 * n + 2)).toNatClampNeg)] σ (fun r s => r = some (.int v) ∧ zZ (n + 7) s) := by rw [zS_at hz (show 6 * n + 1 < L by omega) (by omega), zS_at hz (show 6 * n + 2 < L by omega) (by omega)]; exact hc
  refine qy_wp_ok (c := CL_most nm) (cuts := [18]) (vL_most nm) (wL_most nm) 60 832 _ _ _ ?_
  refine Exists.intro (nI 1) (And.intro rfl ?_)
  refine Exists.intro (nI (6 * n + 1)) (And.intro (nI_add _ _) ?_)
  refine And.intro rfl (And.intro (zS_in hz (by omega) hL) ?_)
  refine Exists.intro (nI 2) (And.intro rfl ?_)
  refine Exists.intro (nI (6 * n + 2)) (And.intro (nI_add _ _) ?_)
  refine And.intro rfl (And.intro (zS_in hz (by omega) hL) ?_)
  refine And.intro rfl (qx_call_mono hc (fun r s hh => ?_))
  obtain ⟨rfl, h1⟩ := hh
  refine And.intro (fun _ => ?_) (fun hne => absurd rfl hne)
  refine Exists.intro (nI (6 * (n + 1))) (And.intro (nI_add _ _) ?_)
  exact key s h1
theorem za_most {G : qx_G} (hG : kStr G) {nm : String} {L n : Nat} {xs : Nat → Int32} (hS : gScr G L xs) {σ : qx_S} (h : zZ (n + 6) σ) (hz : zS L xs σ) (hn : 6 * n + 6 ≤ L) (hL : L ≤ 3072) (key : ∀ s, zZ (n + 7) s → zHd G nm (n + 1) s) : qx_K G qc_T 40 RL (YL_law nm) 818 [.ref 0, .ref 3, .ref 197, .int (nI (6 * n))] [] σ zF := by
  have hc : zO G YX11_most YX12_most [.int (xs (6 * n + 1)), .int (xs (6 * n + 2))] (n + 6) σ := z_most h _ _
  have hc : qx_call G qc_T 40 YX11_most [.ref 3, .int (qx_mi σ 0 (nI (6 * n + 1)).toNatClampNeg), .int (qx_mi σ 0 (nI (6 * n + 2)).toNatClampNeg)] σ (fun r s => ∃ v, r = some (.int v) ∧ qx_call G qc_T 40 YX12_most [.ref 197, .int (xs (6 * n + 1)), .int (xs (6 * n + 2))] s (fun r s => r = some (.int v) ∧ zZ (n + 7) s)) := by rw [zS_at hz (show 6 * n + 1 < L by omega) (by omega), zS_at hz (show 6 * n + 2 < L by omega) (by omega)]; exact hc
  refine qy_wp_ok (c := CL_most nm) (cuts := [832, 18]) (vL_most nm) (wL_most nm) 60 818 _ _ _ ?_
  refine Exists.intro (nI 1) (And.intro rfl ?_)
  refine Exists.intro (nI (6 * n + 1)) (And.intro (nI_add _ _) ?_)
  refine And.intro rfl (And.intro (zS_in hz (by omega) hL) ?_)
  refine Exists.intro (nI 2) (And.intro rfl ?_)
  refine Exists.intro (nI (6 * n + 2)) (And.intro (nI_add _ _) ?_)
  refine And.intro rfl (And.intro (zS_in hz (by omega) hL) ?_)
  refine And.intro rfl (qx_call_mono hc (fun r s hh => ?_))
  obtain ⟨v, rfl, h1⟩ := hh
  exact qx_K_pure hS (zF_of h1 (by omega)) (fun hz1 => zb_most hz1 hn hL h1 key)
theorem zb_mostOf {G : qx_G} {nm : String} {L n : Nat} {xs : Nat → Int32} {σ : qx_S} {v : Int32} (hz : zS L xs σ) (hn : 6 * n + 6 ≤ L) (hL : L ≤ 3072) (hc : qx_call G qc_T 40 YX12_mostOf [.ref 197, .int (xs (6 * n + 1)), .int (xs (6 * n + 2))] σ (fun r s => r = some (.int v) ∧ zZ (n + 7) s)) (key : ∀ s, zZ (n + 7) s → zHd G nm (n + 1) s) : qx_K G qc_T 40 RL (YL_law nm) 865 [.ref 0, .ref 3, .ref 197, .int (nI (6 * n))] [.int v] σ zF := by
  have hc : qx_call G qc_T 40 YX12_mostOf [.ref 197, .int (qx_mi σ 0 (nI (6 * n + 1)).toNatClampNeg), .int (qx_mi σ 0 (nI (6 * n + 2)).toNatClampNeg)] σ (fun r s => r = some (.int v) ∧ zZ (n + 7) s) := by rw [zS_at hz (show 6 * n + 1 < L by omega) (by omega), zS_at hz (show 6 * n + 2 < L by omega) (by omega)]; exact hc
  refine qy_wp_ok (c := CL_mostOf nm) (cuts := [18]) (vL_mostOf nm) (wL_mostOf nm) 60 865 _ _ _ ?_
  refine Exists.intro (nI 1) (And.intro rfl ?_)
  refine Exists.intro (nI (6 * n + 1)) (And.intro (nI_add _ _) ?_)
  refine And.intro rfl (And.intro (zS_in hz (by omega) hL) ?_)
  refine Exists.intro (nI 2) (And.intro rfl ?_)
  refine Exists.intro (nI (6 * n + 2)) (And.intro (nI_add _ _) ?_)
  refine And.intro rfl (And.intro (zS_in hz (by omega) hL) ?_)
  refine And.intro rfl (qx_call_mono hc (fun r s hh => ?_))
  obtain ⟨rfl, h1⟩ := hh
  refine And.intro (fun _ => ?_) (fun hne => absurd rfl hne)
  refine Exists.intro (nI (6 * (n + 1))) (And.intro (nI_add _ _) ?_)
  exact key s h1
theorem za_mostOf {G : qx_G} (hG : kStr G) {nm : String} {L n : Nat} {xs : Nat → Int32} (hS : gScr G L xs) {σ : qx_S} (h : zZ (n + 6) σ) (hz : zS L xs σ) (hn : 6 * n + 6 ≤ L) (hL : L ≤ 3072) (key : ∀ s, zZ (n + 7) s → zHd G nm (n + 1) s) : qx_K G qc_T 40 RL (YL_law nm) 851 [.ref 0, .ref 3, .ref 197, .int (nI (6 * n))] [] σ zF := by
  have hc : zO G YX11_mostOf YX12_mostOf [.int (xs (6 * n + 1)), .int (xs (6 * n + 2))] (n + 6) σ := z_mostOf h _ _
  have hc : qx_call G qc_T 40 YX11_mostOf [.ref 3, .int (qx_mi σ 0 (nI (6 * n + 1)).toNatClampNeg), .int (qx_mi σ 0 (nI (6 * n + 2)).toNatClampNeg)] σ (fun r s => ∃ v, r = some (.int v) ∧ qx_call G qc_T 40 YX12_mostOf [.ref 197, .int (xs (6 * n + 1)), .int (xs (6 * n + 2))] s (fun r s => r = some (.int v) ∧ zZ (n + 7) s)) := by rw [zS_at hz (show 6 * n + 1 < L by omega) (by omega), zS_at hz (show 6 * n + 2 < L by omega) (by omega)]; exact hc
  refine qy_wp_ok (c := CL_mostOf nm) (cuts := [865, 18]) (vL_mostOf nm) (wL_mostOf nm) 60 851 _ _ _ ?_
  refine Exists.intro (nI 1) (And.intro rfl ?_)
  refine Exists.intro (nI (6 * n + 1)) (And.intro (nI_add _ _) ?_)
  refine And.intro rfl (And.intro (zS_in hz (by omega) hL) ?_)
  refine Exists.intro (nI 2) (And.intro rfl ?_)
  refine Exists.intro (nI (6 * n + 2)) (And.intro (nI_add _ _) ?_)
  refine And.intro rfl (And.intro (zS_in hz (by omega) hL) ?_)
  refine And.intro rfl (qx_call_mono hc (fun r s hh => ?_))
  obtain ⟨v, rfl, h1⟩ := hh
  exact qx_K_pure hS (zF_of h1 (by omega)) (fun hz1 => zb_mostOf hz1 hn hL h1 key)
theorem zb_core {G : qx_G} {nm : String} {L n : Nat} {xs : Nat → Int32} {σ : qx_S} {v : Int32} (hz : zS L xs σ) (hn : 6 * n + 6 ≤ L) (hL : L ≤ 3072) (hc : qx_call G qc_T 40 YX12_core [.ref 197, .int (xs (6 * n + 1))] σ (fun r s => r = some (.int v) ∧ zZ (n + 7) s)) (key : ∀ s, zZ (n + 7) s → zHd G nm (n + 1) s) : qx_K G qc_T 40 RL (YL_law nm) 893 [.ref 0, .ref 3, .ref 197, .int (nI (6 * n))] [.int v] σ zF := by
  have hc : qx_call G qc_T 40 YX12_core [.ref 197, .int (qx_mi σ 0 (nI (6 * n + 1)).toNatClampNeg)] σ (fun r s => r = some (.int v) ∧ zZ (n + 7) s) := by rw [zS_at hz (show 6 * n + 1 < L by omega) (by omega)]; exact hc
  refine qy_wp_ok (c := CL_core nm) (cuts := [18]) (vL_core nm) (wL_core nm) 60 893 _ _ _ ?_
  refine Exists.intro (nI 1) (And.intro rfl ?_)
  refine Exists.intro (nI (6 * n + 1)) (And.intro (nI_add _ _) ?_)
  refine And.intro rfl (And.intro (zS_in hz (by omega) hL) ?_)
  refine And.intro rfl (qx_call_mono hc (fun r s hh => ?_))
  obtain ⟨rfl, h1⟩ := hh
  refine And.intro (fun _ => ?_) (fun hne => absurd rfl hne)
  refine Exists.intro (nI (6 * (n + 1))) (And.intro (nI_add _ _) ?_)
  exact key s h1
theorem za_core {G : qx_G} (hG : kStr G) {nm : String} {L n : Nat} {xs : Nat → Int32} (hS : gScr G L xs) {σ : qx_S} (h : zZ (n + 6) σ) (hz : zS L xs σ) (hn : 6 * n + 6 ≤ L) (hL : L ≤ 3072) (key : ∀ s, zZ (n + 7) s → zHd G nm (n + 1) s) : qx_K G qc_T 40 RL (YL_law nm) 884 [.ref 0, .ref 3, .ref 197, .int (nI (6 * n))] [] σ zF := by
  have hc : zO G YX11_core YX12_core [.int (xs (6 * n + 1))] (n + 6) σ := z_core h _
  have hc : qx_call G qc_T 40 YX11_core [.ref 3, .int (qx_mi σ 0 (nI (6 * n + 1)).toNatClampNeg)] σ (fun r s => ∃ v, r = some (.int v) ∧ qx_call G qc_T 40 YX12_core [.ref 197, .int (xs (6 * n + 1))] s (fun r s => r = some (.int v) ∧ zZ (n + 7) s)) := by rw [zS_at hz (show 6 * n + 1 < L by omega) (by omega)]; exact hc
  refine qy_wp_ok (c := CL_core nm) (cuts := [893, 18]) (vL_core nm) (wL_core nm) 60 884 _ _ _ ?_
  refine Exists.intro (nI 1) (And.intro rfl ?_)
  refine Exists.intro (nI (6 * n + 1)) (And.intro (nI_add _ _) ?_)
  refine And.intro rfl (And.intro (zS_in hz (by omega) hL) ?_)
  refine And.intro rfl (qx_call_mono hc (fun r s hh => ?_))
  obtain ⟨v, rfl, h1⟩ := hh
  exact qx_K_pure hS (zF_of h1 (by omega)) (fun hz1 => zb_core hz1 hn hL h1 key)
theorem zb_blocks {G : qx_G} {nm : String} {L n : Nat} {xs : Nat → Int32} {σ : qx_S} {v : Int32} (hz : zS L xs σ) (hn : 6 * n + 6 ≤ L) (hL : L ≤ 3072) (hc : qx_call G qc_T 40 YX12_blocks [.ref 197, .int (xs (6 * n + 1))] σ (fun r s => r = some (.int v) ∧ zZ (n + 7) s)) (key : ∀ s, zZ (n + 7) s → zHd G nm (n + 1) s) : qx_K G qc_T 40 RL (YL_law nm) 916 [.ref 0, .ref 3, .ref 197, .int (nI (6 * n))] [.int v] σ zF := by
  have hc : qx_call G qc_T 40 YX12_blocks [.ref 197, .int (qx_mi σ 0 (nI (6 * n + 1)).toNatClampNeg)] σ (fun r s => r = some (.int v) ∧ zZ (n + 7) s) := by rw [zS_at hz (show 6 * n + 1 < L by omega) (by omega)]; exact hc
  refine qy_wp_ok (c := CL_blocks nm) (cuts := [18]) (vL_blocks nm) (wL_blocks nm) 60 916 _ _ _ ?_
  refine Exists.intro (nI 1) (And.intro rfl ?_)
  refine Exists.intro (nI (6 * n + 1)) (And.intro (nI_add _ _) ?_)
  refine And.intro rfl (And.intro (zS_in hz (by omega) hL) ?_)
  refine And.intro rfl (qx_call_mono hc (fun r s hh => ?_))
  obtain ⟨rfl, h1⟩ := hh
  refine And.intro (fun _ => ?_) (fun hne => absurd rfl hne)
  refine Exists.intro (nI (6 * (n + 1))) (And.intro (nI_add _ _) ?_)
  exact key s h1
theorem za_blocks {G : qx_G} (hG : kStr G) {nm : String} {L n : Nat} {xs : Nat → Int32} (hS : gScr G L xs) {σ : qx_S} (h : zZ (n + 6) σ) (hz : zS L xs σ) (hn : 6 * n + 6 ≤ L) (hL : L ≤ 3072) (key : ∀ s, zZ (n + 7) s → zHd G nm (n + 1) s) : qx_K G qc_T 40 RL (YL_law nm) 907 [.ref 0, .ref 3, .ref 197, .int (nI (6 * n))] [] σ zF := by
  have hc : zO G YX11_blocks YX12_blocks [.int (xs (6 * n + 1))] (n + 6) σ := z_blocks h _
  have hc : qx_call G qc_T 40 YX11_blocks [.ref 3, .int (qx_mi σ 0 (nI (6 * n + 1)).toNatClampNeg)] σ (fun r s => ∃ v, r = some (.int v) ∧ qx_call G qc_T 40 YX12_blocks [.ref 197, .int (xs (6 * n + 1))] s (fun r s => r = some (.int v) ∧ zZ (n + 7) s)) := by rw [zS_at hz (show 6 * n + 1 < L by omega) (by omega)]; exact hc
  refine qy_wp_ok (c := CL_blocks nm) (cuts := [916, 18]) (vL_blocks nm) (wL_blocks nm) 60 907 _ _ _ ?_
  refine Exists.intro (nI 1) (And.intro rfl ?_)
  refine Exists.intro (nI (6 * n + 1)) (And.intro (nI_add _ _) ?_)
  refine And.intro rfl (And.intro (zS_in hz (by omega) hL) ?_)
  refine And.intro rfl (qx_call_mono hc (fun r s hh => ?_))
  obtain ⟨v, rfl, h1⟩ := hh
  exact qx_K_pure hS (zF_of h1 (by omega)) (fun hz1 => zb_blocks hz1 hn hL h1 key)
theorem zb_journey {G : qx_G} {nm : String} {L n : Nat} {xs : Nat → Int32} {σ : qx_S} {v : Int32} (hz : zS L xs σ) (hn : 6 * n + 6 ≤ L) (hL : L ≤ 3072) (hc : qx_call G qc_T 40 YX12_journey [.ref 197, .int (xs (6 * n + 1)), .int (xs (6 * n + 2))] σ (fun r s => r = some (.int v) ∧ zZ (n + 7) s)) (key : ∀ s, zZ (n + 7) s → zHd G nm (n + 1) s) : qx_K G qc_T 40 RL (YL_law nm) 944 [.ref 0, .ref 3, .ref 197, .int (nI (6 * n))] [.int v] σ zF := by
  have hc : qx_call G qc_T 40 YX12_journey [.ref 197, .int (qx_mi σ 0 (nI (6 * n + 1)).toNatClampNeg), .int (qx_mi σ 0 (nI (6 * n + 2)).toNatClampNeg)] σ (fun r s => r = some (.int v) ∧ zZ (n + 7) s) := by rw [zS_at hz (show 6 * n + 1 < L by omega) (by omega), zS_at hz (show 6 * n + 2 < L by omega) (by omega)]; exact hc
  refine qy_wp_ok (c := CL_journey nm) (cuts := [18]) (vL_journey nm) (wL_journey nm) 60 944 _ _ _ ?_
  refine Exists.intro (nI 1) (And.intro rfl ?_)
  refine Exists.intro (nI (6 * n + 1)) (And.intro (nI_add _ _) ?_)
  refine And.intro rfl (And.intro (zS_in hz (by omega) hL) ?_)
  refine Exists.intro (nI 2) (And.intro rfl ?_)
  refine Exists.intro (nI (6 * n + 2)) (And.intro (nI_add _ _) ?_)
  refine And.intro rfl (And.intro (zS_in hz (by omega) hL) ?_)
  refine And.intro rfl (qx_call_mono hc (fun r s hh => ?_))
  obtain ⟨rfl, h1⟩ := hh
  refine And.intro (fun _ => ?_) (fun hne => absurd rfl hne)
  refine Exists.intro (nI (6 * (n + 1))) (And.intro (nI_add _ _) ?_)
  exact key s h1
theorem za_journey {G : qx_G} (hG : kStr G) {nm : String} {L n : Nat} {xs : Nat → Int32} (hS : gScr G L xs) {σ : qx_S} (h : zZ (n + 6) σ) (hz : zS L xs σ) (hn : 6 * n + 6 ≤ L) (hL : L ≤ 3072) (key : ∀ s, zZ (n + 7) s → zHd G nm (n + 1) s) : qx_K G qc_T 40 RL (YL_law nm) 930 [.ref 0, .ref 3, .ref 197, .int (nI (6 * n))] [] σ zF := by
  have hc : zO G YX11_journey YX12_journey [.int (xs (6 * n + 1)), .int (xs (6 * n + 2))] (n + 6) σ := z_journey h _ _
  have hc : qx_call G qc_T 40 YX11_journey [.ref 3, .int (qx_mi σ 0 (nI (6 * n + 1)).toNatClampNeg), .int (qx_mi σ 0 (nI (6 * n + 2)).toNatClampNeg)] σ (fun r s => ∃ v, r = some (.int v) ∧ qx_call G qc_T 40 YX12_journey [.ref 197, .int (xs (6 * n + 1)), .int (xs (6 * n + 2))] s (fun r s => r = some (.int v) ∧ zZ (n + 7) s)) := by rw [zS_at hz (show 6 * n + 1 < L by omega) (by omega), zS_at hz (show 6 * n + 2 < L by omega) (by omega)]; exact hc
  refine qy_wp_ok (c := CL_journey nm) (cuts := [944, 18]) (vL_journey nm) (wL_journey nm) 60 930 _ _ _ ?_
  refine Exists.intro (nI 1) (And.intro rfl ?_)
  refine Exists.intro (nI (6 * n + 1)) (And.intro (nI_add _ _) ?_)
  refine And.intro rfl (And.intro (zS_in hz (by omega) hL) ?_)
  refine Exists.intro (nI 2) (And.intro rfl ?_)
  refine Exists.intro (nI (6 * n + 2)) (And.intro (nI_add _ _) ?_)
  refine And.intro rfl (And.intro (zS_in hz (by omega) hL) ?_)
  refine And.intro rfl (qx_call_mono hc (fun r s hh => ?_))
  obtain ⟨v, rfl, h1⟩ := hh
  exact qx_K_pure hS (zF_of h1 (by omega)) (fun hz1 => zb_journey hz1 hn hL h1 key)
theorem zb_row {G : qx_G} {nm : String} {L n : Nat} {xs : Nat → Int32} {σ : qx_S} {v : Int32} (hz : zS L xs σ) (hn : 6 * n + 6 ≤ L) (hL : L ≤ 3072) (hc : qx_call G qc_T 40 YX12_row [.ref 197, .int (xs (6 * n + 1)), .int (xs (6 * n + 2)), .int (xs (6 * n + 3)), .int (xs (6 * n + 4))] σ (fun r s => r = some (.int v) ∧ zZ (n + 7) s)) (key : ∀ s, zZ (n + 7) s → zHd G nm (n + 1) s) : qx_K G qc_T 40 RL (YL_law nm) 987 [.ref 0, .ref 3, .ref 197, .int (nI (6 * n))] [.int v] σ zF := by
  have hc : qx_call G qc_T 40 YX12_row [.ref 197, .int (qx_mi σ 0 (nI (6 * n + 1)).toNatClampNeg), .int (qx_mi σ 0 (nI (6 * n + 2)).toNatClampNeg), .int (qx_mi σ 0 (nI (6 * n + 3)).toNatClampNeg), .int (qx_mi σ 0 (nI (6 * n + 4)).toNatClampNeg)] σ (fun r s => r = some (.int v) ∧ zZ (n + 7) s) := by rw [zS_at hz (show 6 * n + 1 < L by omega) (by omega), zS_at hz (show 6 * n + 2 < L by omega) (by omega), zS_at hz (show 6 * n + 3 < L by omega) (by omega), zS_at hz (show 6 * n + 4 < L by omega) (by omega)]; exact hc
  refine qy_wp_ok (c := CL_row nm) (cuts := [18]) (vL_row nm) (wL_row nm) 60 987 _ _ _ ?_
  refine Exists.intro (nI 1) (And.intro rfl ?_)
  refine Exists.intro (nI (6 * n + 1)) (And.intro (nI_add _ _) ?_)
  refine And.intro rfl (And.intro (zS_in hz (by omega) hL) ?_)
  refine Exists.intro (nI 2) (And.intro rfl ?_)
  refine Exists.intro (nI (6 * n + 2)) (And.intro (nI_add _ _) ?_)
  refine And.intro rfl (And.intro (zS_in hz (by omega) hL) ?_)
  refine Exists.intro (nI 3) (And.intro rfl ?_)
  refine Exists.intro (nI (6 * n + 3)) (And.intro (nI_add _ _) ?_)
  refine And.intro rfl (And.intro (zS_in hz (by omega) hL) ?_)
  refine Exists.intro (nI 4) (And.intro rfl ?_)
  refine Exists.intro (nI (6 * n + 4)) (And.intro (nI_add _ _) ?_)
  refine And.intro rfl (And.intro (zS_in hz (by omega) hL) ?_)
  refine And.intro rfl (qx_call_mono hc (fun r s hh => ?_))
  obtain ⟨rfl, h1⟩ := hh
  refine And.intro (fun _ => ?_) (fun hne => absurd rfl hne)
  refine Exists.intro (nI (6 * (n + 1))) (And.intro (nI_add _ _) ?_)
  exact key s h1
theorem za_row {G : qx_G} (hG : kStr G) {nm : String} {L n : Nat} {xs : Nat → Int32} (hS : gScr G L xs) {σ : qx_S} (h : zZ (n + 6) σ) (hz : zS L xs σ) (hn : 6 * n + 6 ≤ L) (hL : L ≤ 3072) (key : ∀ s, zZ (n + 7) s → zHd G nm (n + 1) s) : qx_K G qc_T 40 RL (YL_law nm) 963 [.ref 0, .ref 3, .ref 197, .int (nI (6 * n))] [] σ zF := by
  have hc : zO G YX11_row YX12_row [.int (xs (6 * n + 1)), .int (xs (6 * n + 2)), .int (xs (6 * n + 3)), .int (xs (6 * n + 4))] (n + 6) σ := z_row h _ _ _ _
  have hc : qx_call G qc_T 40 YX11_row [.ref 3, .int (qx_mi σ 0 (nI (6 * n + 1)).toNatClampNeg), .int (qx_mi σ 0 (nI (6 * n + 2)).toNatClampNeg), .int (qx_mi σ 0 (nI (6 * n + 3)).toNatClampNeg), .int (qx_mi σ 0 (nI (6 * n + 4)).toNatClampNeg)] σ (fun r s => ∃ v, r = some (.int v) ∧ qx_call G qc_T 40 YX12_row [.ref 197, .int (xs (6 * n + 1)), .int (xs (6 * n + 2)), .int (xs (6 * n + 3)), .int (xs (6 * n + 4))] s (fun r s => r = some (.int v) ∧ zZ (n + 7) s)) := by rw [zS_at hz (show 6 * n + 1 < L by omega) (by omega), zS_at hz (show 6 * n + 2 < L by omega) (by omega), zS_at hz (show 6 * n + 3 < L by omega) (by omega), zS_at hz (show 6 * n + 4 < L by omega) (by omega)]; exact hc
  refine qy_wp_ok (c := CL_row nm) (cuts := [987, 18]) (vL_row nm) (wL_row nm) 60 963 _ _ _ ?_
  refine Exists.intro (nI 1) (And.intro rfl ?_)
  refine Exists.intro (nI (6 * n + 1)) (And.intro (nI_add _ _) ?_)
  refine And.intro rfl (And.intro (zS_in hz (by omega) hL) ?_)
  refine Exists.intro (nI 2) (And.intro rfl ?_)
  refine Exists.intro (nI (6 * n + 2)) (And.intro (nI_add _ _) ?_)
  refine And.intro rfl (And.intro (zS_in hz (by omega) hL) ?_)
  refine Exists.intro (nI 3) (And.intro rfl ?_)
  refine Exists.intro (nI (6 * n + 3)) (And.intro (nI_add _ _) ?_)
  refine And.intro rfl (And.intro (zS_in hz (by omega) hL) ?_)
  refine Exists.intro (nI 4) (And.intro rfl ?_)
  refine Exists.intro (nI (6 * n + 4)) (And.intro (nI_add _ _) ?_)
  refine And.intro rfl (And.intro (zS_in hz (by omega) hL) ?_)
  refine And.intro rfl (qx_call_mono hc (fun r s hh => ?_))
  obtain ⟨v, rfl, h1⟩ := hh
  exact qx_K_pure hS (zF_of h1 (by omega)) (fun hz1 => zb_row hz1 hn hL h1 key)
theorem zb_reached {G : qx_G} {nm : String} {L n : Nat} {xs : Nat → Int32} {σ : qx_S} {v : Int32} (hz : zS L xs σ) (hn : 6 * n + 6 ≤ L) (hL : L ≤ 3072) (hc : qx_call G qc_T 40 YX12_reached [.ref 197, .int (xs (6 * n + 1))] σ (fun r s => r = some (.int v) ∧ zZ (n + 7) s)) (key : ∀ s, zZ (n + 7) s → zHd G nm (n + 1) s) : qx_K G qc_T 40 RL (YL_law nm) 1025 [.ref 0, .ref 3, .ref 197, .int (nI (6 * n))] [.int v] σ zF := by
  have hc : qx_call G qc_T 40 YX12_reached [.ref 197, .int (qx_mi σ 0 (nI (6 * n + 1)).toNatClampNeg)] σ (fun r s => r = some (.int v) ∧ zZ (n + 7) s) := by rw [zS_at hz (show 6 * n + 1 < L by omega) (by omega)]; exact hc
  refine qy_wp_ok (c := CL_reached nm) (cuts := [18]) (vL_reached nm) (wL_reached nm) 60 1025 _ _ _ ?_
  refine Exists.intro (nI 1) (And.intro rfl ?_)
  refine Exists.intro (nI (6 * n + 1)) (And.intro (nI_add _ _) ?_)
  refine And.intro rfl (And.intro (zS_in hz (by omega) hL) ?_)
  refine And.intro rfl (qx_call_mono hc (fun r s hh => ?_))
  obtain ⟨rfl, h1⟩ := hh
  refine And.intro (fun _ => ?_) (fun hne => absurd rfl hne)
  refine Exists.intro (nI (6 * (n + 1))) (And.intro (nI_add _ _) ?_)
  exact key s h1
theorem za_reached {G : qx_G} (hG : kStr G) {nm : String} {L n : Nat} {xs : Nat → Int32} (hS : gScr G L xs) {σ : qx_S} (h : zZ (n + 6) σ) (hz : zS L xs σ) (hn : 6 * n + 6 ≤ L) (hL : L ≤ 3072) (key : ∀ s, zZ (n + 7) s → zHd G nm (n + 1) s) : qx_K G qc_T 40 RL (YL_law nm) 1016 [.ref 0, .ref 3, .ref 197, .int (nI (6 * n))] [] σ zF := by
  have hc : zO G YX11_reached YX12_reached [.int (xs (6 * n + 1))] (n + 6) σ := z_reached h _
  have hc : qx_call G qc_T 40 YX11_reached [.ref 3, .int (qx_mi σ 0 (nI (6 * n + 1)).toNatClampNeg)] σ (fun r s => ∃ v, r = some (.int v) ∧ qx_call G qc_T 40 YX12_reached [.ref 197, .int (xs (6 * n + 1))] s (fun r s => r = some (.int v) ∧ zZ (n + 7) s)) := by rw [zS_at hz (show 6 * n + 1 < L by omega) (by omega)]; exact hc
  refine qy_wp_ok (c := CL_reached nm) (cuts := [1025, 18]) (vL_reached nm) (wL_reached nm) 60 1016 _ _ _ ?_
  refine Exists.intro (nI 1) (And.intro rfl ?_)
  refine Exists.intro (nI (6 * n + 1)) (And.intro (nI_add _ _) ?_)
  refine And.intro rfl (And.intro (zS_in hz (by omega) hL) ?_)
  refine And.intro rfl (qx_call_mono hc (fun r s hh => ?_))
  obtain ⟨v, rfl, h1⟩ := hh
  exact qx_K_pure hS (zF_of h1 (by omega)) (fun hz1 => zb_reached hz1 hn hL h1 key)
theorem zb_found {G : qx_G} {nm : String} {L n : Nat} {xs : Nat → Int32} {σ : qx_S} {v : Int32} (hz : zS L xs σ) (hn : 6 * n + 6 ≤ L) (hL : L ≤ 3072) (hc : qx_call G qc_T 40 YX12_found [.ref 197, .int (xs (6 * n + 1)), .int (xs (6 * n + 2))] σ (fun r s => r = some (.int v) ∧ zZ (n + 7) s)) (key : ∀ s, zZ (n + 7) s → zHd G nm (n + 1) s) : qx_K G qc_T 40 RL (YL_law nm) 1053 [.ref 0, .ref 3, .ref 197, .int (nI (6 * n))] [.int v] σ zF := by
  have hc : qx_call G qc_T 40 YX12_found [.ref 197, .int (qx_mi σ 0 (nI (6 * n + 1)).toNatClampNeg), .int (qx_mi σ 0 (nI (6 * n + 2)).toNatClampNeg)] σ (fun r s => r = some (.int v) ∧ zZ (n + 7) s) := by rw [zS_at hz (show 6 * n + 1 < L by omega) (by omega), zS_at hz (show 6 * n + 2 < L by omega) (by omega)]; exact hc
  refine qy_wp_ok (c := CL_found nm) (cuts := [18]) (vL_found nm) (wL_found nm) 60 1053 _ _ _ ?_
  refine Exists.intro (nI 1) (And.intro rfl ?_)
  refine Exists.intro (nI (6 * n + 1)) (And.intro (nI_add _ _) ?_)
  refine And.intro rfl (And.intro (zS_in hz (by omega) hL) ?_)
  refine Exists.intro (nI 2) (And.intro rfl ?_)
  refine Exists.intro (nI (6 * n + 2)) (And.intro (nI_add _ _) ?_)
  refine And.intro rfl (And.intro (zS_in hz (by omega) hL) ?_)
  refine And.intro rfl (qx_call_mono hc (fun r s hh => ?_))
  obtain ⟨rfl, h1⟩ := hh
  refine And.intro (fun _ => ?_) (fun hne => absurd rfl hne)
  refine Exists.intro (nI (6 * (n + 1))) (And.intro (nI_add _ _) ?_)
  exact key s h1
theorem za_found {G : qx_G} (hG : kStr G) {nm : String} {L n : Nat} {xs : Nat → Int32} (hS : gScr G L xs) {σ : qx_S} (h : zZ (n + 6) σ) (hz : zS L xs σ) (hn : 6 * n + 6 ≤ L) (hL : L ≤ 3072) (key : ∀ s, zZ (n + 7) s → zHd G nm (n + 1) s) : qx_K G qc_T 40 RL (YL_law nm) 1039 [.ref 0, .ref 3, .ref 197, .int (nI (6 * n))] [] σ zF := by
  have hc : zO G YX11_found YX12_found [.int (xs (6 * n + 1)), .int (xs (6 * n + 2))] (n + 6) σ := z_found h _ _
  have hc : qx_call G qc_T 40 YX11_found [.ref 3, .int (qx_mi σ 0 (nI (6 * n + 1)).toNatClampNeg), .int (qx_mi σ 0 (nI (6 * n + 2)).toNatClampNeg)] σ (fun r s => ∃ v, r = some (.int v) ∧ qx_call G qc_T 40 YX12_found [.ref 197, .int (xs (6 * n + 1)), .int (xs (6 * n + 2))] s (fun r s => r = some (.int v) ∧ zZ (n + 7) s)) := by rw [zS_at hz (show 6 * n + 1 < L by omega) (by omega), zS_at hz (show 6 * n + 2 < L by omega) (by omega)]; exact hc
  refine qy_wp_ok (c := CL_found nm) (cuts := [1053, 18]) (vL_found nm) (wL_found nm) 60 1039 _ _ _ ?_
  refine Exists.intro (nI 1) (And.intro rfl ?_)
  refine Exists.intro (nI (6 * n + 1)) (And.intro (nI_add _ _) ?_)
  refine And.intro rfl (And.intro (zS_in hz (by omega) hL) ?_)
  refine Exists.intro (nI 2) (And.intro rfl ?_)
  refine Exists.intro (nI (6 * n + 2)) (And.intro (nI_add _ _) ?_)
  refine And.intro rfl (And.intro (zS_in hz (by omega) hL) ?_)
  refine And.intro rfl (qx_call_mono hc (fun r s hh => ?_))
  obtain ⟨v, rfl, h1⟩ := hh
  exact qx_K_pure hS (zF_of h1 (by omega)) (fun hz1 => zb_found hz1 hn hL h1 key)
theorem zb_done {G : qx_G} {nm : String} {L n : Nat} {xs : Nat → Int32} {σ : qx_S} {v : Int32} (hz : zS L xs σ) (hn : 6 * n + 6 ≤ L) (hL : L ≤ 3072) (hc : qx_call G qc_T 40 YX12_done [.ref 197, .int (xs (6 * n + 1))] σ (fun r s => r = some (.int v) ∧ zZ (n + 7) s)) (key : ∀ s, zZ (n + 7) s → zHd G nm (n + 1) s) : qx_K G qc_T 40 RL (YL_law nm) 1081 [.ref 0, .ref 3, .ref 197, .int (nI (6 * n))] [.int v] σ zF := by
  have hc : qx_call G qc_T 40 YX12_done [.ref 197, .int (qx_mi σ 0 (nI (6 * n + 1)).toNatClampNeg)] σ (fun r s => r = some (.int v) ∧ zZ (n + 7) s) := by rw [zS_at hz (show 6 * n + 1 < L by omega) (by omega)]; exact hc
  refine qy_wp_ok (c := CL_done nm) (cuts := [18]) (vL_done nm) (wL_done nm) 60 1081 _ _ _ ?_
  refine Exists.intro (nI 1) (And.intro rfl ?_)
  refine Exists.intro (nI (6 * n + 1)) (And.intro (nI_add _ _) ?_)
  refine And.intro rfl (And.intro (zS_in hz (by omega) hL) ?_)
  refine And.intro rfl (qx_call_mono hc (fun r s hh => ?_))
  obtain ⟨rfl, h1⟩ := hh
  refine And.intro (fun _ => ?_) (fun hne => absurd rfl hne)
  refine Exists.intro (nI (6 * (n + 1))) (And.intro (nI_add _ _) ?_)
  exact key s h1
theorem za_done {G : qx_G} (hG : kStr G) {nm : String} {L n : Nat} {xs : Nat → Int32} (hS : gScr G L xs) {σ : qx_S} (h : zZ (n + 6) σ) (hz : zS L xs σ) (hn : 6 * n + 6 ≤ L) (hL : L ≤ 3072) (key : ∀ s, zZ (n + 7) s → zHd G nm (n + 1) s) : qx_K G qc_T 40 RL (YL_law nm) 1072 [.ref 0, .ref 3, .ref 197, .int (nI (6 * n))] [] σ zF := by
  have hc : zO G YX11_done YX12_done [.int (xs (6 * n + 1))] (n + 6) σ := z_done h _
  have hc : qx_call G qc_T 40 YX11_done [.ref 3, .int (qx_mi σ 0 (nI (6 * n + 1)).toNatClampNeg)] σ (fun r s => ∃ v, r = some (.int v) ∧ qx_call G qc_T 40 YX12_done [.ref 197, .int (xs (6 * n + 1))] s (fun r s => r = some (.int v) ∧ zZ (n + 7) s)) := by rw [zS_at hz (show 6 * n + 1 < L by omega) (by omega)]; exact hc
  refine qy_wp_ok (c := CL_done nm) (cuts := [1081, 18]) (vL_done nm) (wL_done nm) 60 1072 _ _ _ ?_
  refine Exists.intro (nI 1) (And.intro rfl ?_)
  refine Exists.intro (nI (6 * n + 1)) (And.intro (nI_add _ _) ?_)
  refine And.intro rfl (And.intro (zS_in hz (by omega) hL) ?_)
  refine And.intro rfl (qx_call_mono hc (fun r s hh => ?_))
  obtain ⟨v, rfl, h1⟩ := hh
  exact qx_K_pure hS (zF_of h1 (by omega)) (fun hz1 => zb_done hz1 hn hL h1 key)
theorem zb_doctors {G : qx_G} {nm : String} {L n : Nat} {xs : Nat → Int32} {σ : qx_S} {v : Int32} (hz : zS L xs σ) (hn : 6 * n + 6 ≤ L) (hL : L ≤ 3072) (hc : qx_call G qc_T 40 YX12_doctors [.ref 197, .int (xs (6 * n + 1))] σ (fun r s => r = some (.int v) ∧ zZ (n + 7) s)) (key : ∀ s, zZ (n + 7) s → zHd G nm (n + 1) s) : qx_K G qc_T 40 RL (YL_law nm) 1104 [.ref 0, .ref 3, .ref 197, .int (nI (6 * n))] [.int v] σ zF := by
  have hc : qx_call G qc_T 40 YX12_doctors [.ref 197, .int (qx_mi σ 0 (nI (6 * n + 1)).toNatClampNeg)] σ (fun r s => r = some (.int v) ∧ zZ (n + 7) s) := by rw [zS_at hz (show 6 * n + 1 < L by omega) (by omega)]; exact hc
  refine qy_wp_ok (c := CL_doctors nm) (cuts := [18]) (vL_doctors nm) (wL_doctors nm) 60 1104 _ _ _ ?_
  refine Exists.intro (nI 1) (And.intro rfl ?_)
  refine Exists.intro (nI (6 * n + 1)) (And.intro (nI_add _ _) ?_)
  refine And.intro rfl (And.intro (zS_in hz (by omega) hL) ?_)
  refine And.intro rfl (qx_call_mono hc (fun r s hh => ?_))
  obtain ⟨rfl, h1⟩ := hh
  refine And.intro (fun _ => ?_) (fun hne => absurd rfl hne)
  refine Exists.intro (nI (6 * (n + 1))) (And.intro (nI_add _ _) ?_)
  exact key s h1
theorem za_doctors {G : qx_G} (hG : kStr G) {nm : String} {L n : Nat} {xs : Nat → Int32} (hS : gScr G L xs) {σ : qx_S} (h : zZ (n + 6) σ) (hz : zS L xs σ) (hn : 6 * n + 6 ≤ L) (hL : L ≤ 3072) (key : ∀ s, zZ (n + 7) s → zHd G nm (n + 1) s) : qx_K G qc_T 40 RL (YL_law nm) 1095 [.ref 0, .ref 3, .ref 197, .int (nI (6 * n))] [] σ zF := by
  have hc : zO G YX11_doctors YX12_doctors [.int (xs (6 * n + 1))] (n + 6) σ := z_doctors h _
  have hc : qx_call G qc_T 40 YX11_doctors [.ref 3, .int (qx_mi σ 0 (nI (6 * n + 1)).toNatClampNeg)] σ (fun r s => ∃ v, r = some (.int v) ∧ qx_call G qc_T 40 YX12_doctors [.ref 197, .int (xs (6 * n + 1))] s (fun r s => r = some (.int v) ∧ zZ (n + 7) s)) := by rw [zS_at hz (show 6 * n + 1 < L by omega) (by omega)]; exact hc
  refine qy_wp_ok (c := CL_doctors nm) (cuts := [1104, 18]) (vL_doctors nm) (wL_doctors nm) 60 1095 _ _ _ ?_
  refine Exists.intro (nI 1) (And.intro rfl ?_)
  refine Exists.intro (nI (6 * n + 1)) (And.intro (nI_add _ _) ?_)
  refine And.intro rfl (And.intro (zS_in hz (by omega) hL) ?_)
  refine And.intro rfl (qx_call_mono hc (fun r s hh => ?_))
  obtain ⟨v, rfl, h1⟩ := hh
  exact qx_K_pure hS (zF_of h1 (by omega)) (fun hz1 => zb_doctors hz1 hn hL h1 key)
theorem zb_served {G : qx_G} {nm : String} {L n : Nat} {xs : Nat → Int32} {σ : qx_S} {v : Int32} (hz : zS L xs σ) (hn : 6 * n + 6 ≤ L) (hL : L ≤ 3072) (hc : qx_call G qc_T 40 YX12_served [.ref 197, .int (xs (6 * n + 1))] σ (fun r s => r = some (.int v) ∧ zZ (n + 7) s)) (key : ∀ s, zZ (n + 7) s → zHd G nm (n + 1) s) : qx_K G qc_T 40 RL (YL_law nm) 1127 [.ref 0, .ref 3, .ref 197, .int (nI (6 * n))] [.int v] σ zF := by
  have hc : qx_call G qc_T 40 YX12_served [.ref 197, .int (qx_mi σ 0 (nI (6 * n + 1)).toNatClampNeg)] σ (fun r s => r = some (.int v) ∧ zZ (n + 7) s) := by rw [zS_at hz (show 6 * n + 1 < L by omega) (by omega)]; exact hc
  refine qy_wp_ok (c := CL_served nm) (cuts := [18]) (vL_served nm) (wL_served nm) 60 1127 _ _ _ ?_
  refine Exists.intro (nI 1) (And.intro rfl ?_)
  refine Exists.intro (nI (6 * n + 1)) (And.intro (nI_add _ _) ?_)
  refine And.intro rfl (And.intro (zS_in hz (by omega) hL) ?_)
  refine And.intro rfl (qx_call_mono hc (fun r s hh => ?_))
  obtain ⟨rfl, h1⟩ := hh
  refine And.intro (fun _ => ?_) (fun hne => absurd rfl hne)
  refine Exists.intro (nI (6 * (n + 1))) (And.intro (nI_add _ _) ?_)
  exact key s h1
theorem za_served {G : qx_G} (hG : kStr G) {nm : String} {L n : Nat} {xs : Nat → Int32} (hS : gScr G L xs) {σ : qx_S} (h : zZ (n + 6) σ) (hz : zS L xs σ) (hn : 6 * n + 6 ≤ L) (hL : L ≤ 3072) (key : ∀ s, zZ (n + 7) s → zHd G nm (n + 1) s) : qx_K G qc_T 40 RL (YL_law nm) 1118 [.ref 0, .ref 3, .ref 197, .int (nI (6 * n))] [] σ zF := by
  have hc : zO G YX11_served YX12_served [.int (xs (6 * n + 1))] (n + 6) σ := z_served h _
  have hc : qx_call G qc_T 40 YX11_served [.ref 3, .int (qx_mi σ 0 (nI (6 * n + 1)).toNatClampNeg)] σ (fun r s => ∃ v, r = some (.int v) ∧ qx_call G qc_T 40 YX12_served [.ref 197, .int (xs (6 * n + 1))] s (fun r s => r = some (.int v) ∧ zZ (n + 7) s)) := by rw [zS_at hz (show 6 * n + 1 < L by omega) (by omega)]; exact hc
  refine qy_wp_ok (c := CL_served nm) (cuts := [1127, 18]) (vL_served nm) (wL_served nm) 60 1118 _ _ _ ?_
  refine Exists.intro (nI 1) (And.intro rfl ?_)
  refine Exists.intro (nI (6 * n + 1)) (And.intro (nI_add _ _) ?_)
  refine And.intro rfl (And.intro (zS_in hz (by omega) hL) ?_)
  refine And.intro rfl (qx_call_mono hc (fun r s hh => ?_))
  obtain ⟨v, rfl, h1⟩ := hh
  exact qx_K_pure hS (zF_of h1 (by omega)) (fun hz1 => zb_served hz1 hn hL h1 key)
theorem zb_liars {G : qx_G} {nm : String} {L n : Nat} {xs : Nat → Int32} {σ : qx_S} {v : Int32} (hz : zS L xs σ) (hn : 6 * n + 6 ≤ L) (hL : L ≤ 3072) (hc : qx_call G qc_T 40 YX12_liars [.ref 197, .int (xs (6 * n + 1))] σ (fun r s => r = some (.int v) ∧ zZ (n + 7) s)) (key : ∀ s, zZ (n + 7) s → zHd G nm (n + 1) s) : qx_K G qc_T 40 RL (YL_law nm) 1150 [.ref 0, .ref 3, .ref 197, .int (nI (6 * n))] [.int v] σ zF := by
  have hc : qx_call G qc_T 40 YX12_liars [.ref 197, .int (qx_mi σ 0 (nI (6 * n + 1)).toNatClampNeg)] σ (fun r s => r = some (.int v) ∧ zZ (n + 7) s) := by rw [zS_at hz (show 6 * n + 1 < L by omega) (by omega)]; exact hc
  refine qy_wp_ok (c := CL_liars nm) (cuts := [18]) (vL_liars nm) (wL_liars nm) 60 1150 _ _ _ ?_
  refine Exists.intro (nI 1) (And.intro rfl ?_)
  refine Exists.intro (nI (6 * n + 1)) (And.intro (nI_add _ _) ?_)
  refine And.intro rfl (And.intro (zS_in hz (by omega) hL) ?_)
  refine And.intro rfl (qx_call_mono hc (fun r s hh => ?_))
  obtain ⟨rfl, h1⟩ := hh
  refine And.intro (fun _ => ?_) (fun hne => absurd rfl hne)
  refine Exists.intro (nI (6 * (n + 1))) (And.intro (nI_add _ _) ?_)
  exact key s h1
theorem za_liars {G : qx_G} (hG : kStr G) {nm : String} {L n : Nat} {xs : Nat → Int32} (hS : gScr G L xs) {σ : qx_S} (h : zZ (n + 6) σ) (hz : zS L xs σ) (hn : 6 * n + 6 ≤ L) (hL : L ≤ 3072) (key : ∀ s, zZ (n + 7) s → zHd G nm (n + 1) s) : qx_K G qc_T 40 RL (YL_law nm) 1141 [.ref 0, .ref 3, .ref 197, .int (nI (6 * n))] [] σ zF := by
  have hc : zO G YX11_liars YX12_liars [.int (xs (6 * n + 1))] (n + 6) σ := z_liars h _
  have hc : qx_call G qc_T 40 YX11_liars [.ref 3, .int (qx_mi σ 0 (nI (6 * n + 1)).toNatClampNeg)] σ (fun r s => ∃ v, r = some (.int v) ∧ qx_call G qc_T 40 YX12_liars [.ref 197, .int (xs (6 * n + 1))] s (fun r s => r = some (.int v) ∧ zZ (n + 7) s)) := by rw [zS_at hz (show 6 * n + 1 < L by omega) (by omega)]; exact hc
  refine qy_wp_ok (c := CL_liars nm) (cuts := [1150, 18]) (vL_liars nm) (wL_liars nm) 60 1141 _ _ _ ?_
  refine Exists.intro (nI 1) (And.intro rfl ?_)
  refine Exists.intro (nI (6 * n + 1)) (And.intro (nI_add _ _) ?_)
  refine And.intro rfl (And.intro (zS_in hz (by omega) hL) ?_)
  refine And.intro rfl (qx_call_mono hc (fun r s hh => ?_))
  obtain ⟨v, rfl, h1⟩ := hh
  exact qx_K_pure hS (zF_of h1 (by omega)) (fun hz1 => zb_liars hz1 hn hL h1 key)
theorem zb_lie {G : qx_G} {nm : String} {L n : Nat} {xs : Nat → Int32} {σ : qx_S} {v : Int32} (hz : zS L xs σ) (hn : 6 * n + 6 ≤ L) (hL : L ≤ 3072) (hc : qx_call G qc_T 40 YX12_lie [.ref 197, .int (xs (6 * n + 1)), .int (xs (6 * n + 2))] σ (fun r s => r = some (.int v) ∧ zZ (n + 7) s)) (key : ∀ s, zZ (n + 7) s → zHd G nm (n + 1) s) : qx_K G qc_T 40 RL (YL_law nm) 1178 [.ref 0, .ref 3, .ref 197, .int (nI (6 * n))] [.int v] σ zF := by
  have hc : qx_call G qc_T 40 YX12_lie [.ref 197, .int (qx_mi σ 0 (nI (6 * n + 1)).toNatClampNeg), .int (qx_mi σ 0 (nI (6 * n + 2)).toNatClampNeg)] σ (fun r s => r = some (.int v) ∧ zZ (n + 7) s) := by rw [zS_at hz (show 6 * n + 1 < L by omega) (by omega), zS_at hz (show 6 * n + 2 < L by omega) (by omega)]; exact hc
  refine qy_wp_ok (c := CL_lie nm) (cuts := [18]) (vL_lie nm) (wL_lie nm) 60 1178 _ _ _ ?_
  refine Exists.intro (nI 1) (And.intro rfl ?_)
  refine Exists.intro (nI (6 * n + 1)) (And.intro (nI_add _ _) ?_)
  refine And.intro rfl (And.intro (zS_in hz (by omega) hL) ?_)
  refine Exists.intro (nI 2) (And.intro rfl ?_)
  refine Exists.intro (nI (6 * n + 2)) (And.intro (nI_add _ _) ?_)
  refine And.intro rfl (And.intro (zS_in hz (by omega) hL) ?_)
  refine And.intro rfl (qx_call_mono hc (fun r s hh => ?_))
  obtain ⟨rfl, h1⟩ := hh
  refine And.intro (fun _ => ?_) (fun hne => absurd rfl hne)
  refine Exists.intro (nI (6 * (n + 1))) (And.intro (nI_add _ _) ?_)
  exact key s h1
theorem za_lie {G : qx_G} (hG : kStr G) {nm : String} {L n : Nat} {xs : Nat → Int32} (hS : gScr G L xs) {σ : qx_S} (h : zZ (n + 6) σ) (hz : zS L xs σ) (hn : 6 * n + 6 ≤ L) (hL : L ≤ 3072) (key : ∀ s, zZ (n + 7) s → zHd G nm (n + 1) s) : qx_K G qc_T 40 RL (YL_law nm) 1164 [.ref 0, .ref 3, .ref 197, .int (nI (6 * n))] [] σ zF := by
  have hc : zO G YX11_lie YX12_lie [.int (xs (6 * n + 1)), .int (xs (6 * n + 2))] (n + 6) σ := z_lie h _ _
  have hc : qx_call G qc_T 40 YX11_lie [.ref 3, .int (qx_mi σ 0 (nI (6 * n + 1)).toNatClampNeg), .int (qx_mi σ 0 (nI (6 * n + 2)).toNatClampNeg)] σ (fun r s => ∃ v, r = some (.int v) ∧ qx_call G qc_T 40 YX12_lie [.ref 197, .int (xs (6 * n + 1)), .int (xs (6 * n + 2))] s (fun r s => r = some (.int v) ∧ zZ (n + 7) s)) := by rw [zS_at hz (show 6 * n + 1 < L by omega) (by omega), zS_at hz (show 6 * n + 2 < L by omega) (by omega)]; exact hc
  refine qy_wp_ok (c := CL_lie nm) (cuts := [1178, 18]) (vL_lie nm) (wL_lie nm) 60 1164 _ _ _ ?_
  refine Exists.intro (nI 1) (And.intro rfl ?_)
  refine Exists.intro (nI (6 * n + 1)) (And.intro (nI_add _ _) ?_)
  refine And.intro rfl (And.intro (zS_in hz (by omega) hL) ?_)
  refine Exists.intro (nI 2) (And.intro rfl ?_)
  refine Exists.intro (nI (6 * n + 2)) (And.intro (nI_add _ _) ?_)
  refine And.intro rfl (And.intro (zS_in hz (by omega) hL) ?_)
  refine And.intro rfl (qx_call_mono hc (fun r s hh => ?_))
  obtain ⟨v, rfl, h1⟩ := hh
  exact qx_K_pure hS (zF_of h1 (by omega)) (fun hz1 => zb_lie hz1 hn hL h1 key)
theorem zb_seed {G : qx_G} {nm : String} {L n : Nat} {xs : Nat → Int32} {σ : qx_S} {v : Int32} (hz : zS L xs σ) (hn : 6 * n + 6 ≤ L) (hL : L ≤ 3072) (hc : qx_call G qc_T 40 YX12_seed [.ref 197, .int (xs (6 * n + 1))] σ (fun r s => r = some (.int v) ∧ zZ (n + 7) s)) (key : ∀ s, zZ (n + 7) s → zHd G nm (n + 1) s) : qx_K G qc_T 40 RL (YL_law nm) 1206 [.ref 0, .ref 3, .ref 197, .int (nI (6 * n))] [.int v] σ zF := by
  have hc : qx_call G qc_T 40 YX12_seed [.ref 197, .int (qx_mi σ 0 (nI (6 * n + 1)).toNatClampNeg)] σ (fun r s => r = some (.int v) ∧ zZ (n + 7) s) := by rw [zS_at hz (show 6 * n + 1 < L by omega) (by omega)]; exact hc
  refine qy_wp_ok (c := CL_seed nm) (cuts := [18]) (vL_seed nm) (wL_seed nm) 60 1206 _ _ _ ?_
  refine Exists.intro (nI 1) (And.intro rfl ?_)
  refine Exists.intro (nI (6 * n + 1)) (And.intro (nI_add _ _) ?_)
  refine And.intro rfl (And.intro (zS_in hz (by omega) hL) ?_)
  refine And.intro rfl (qx_call_mono hc (fun r s hh => ?_))
  obtain ⟨rfl, h1⟩ := hh
  refine And.intro (fun _ => ?_) (fun hne => absurd rfl hne)
  refine Exists.intro (nI (6 * (n + 1))) (And.intro (nI_add _ _) ?_)
  exact key s h1
theorem za_seed {G : qx_G} (hG : kStr G) {nm : String} {L n : Nat} {xs : Nat → Int32} (hS : gScr G L xs) {σ : qx_S} (h : zZ (n + 6) σ) (hz : zS L xs σ) (hn : 6 * n + 6 ≤ L) (hL : L ≤ 3072) (key : ∀ s, zZ (n + 7) s → zHd G nm (n + 1) s) : qx_K G qc_T 40 RL (YL_law nm) 1197 [.ref 0, .ref 3, .ref 197, .int (nI (6 * n))] [] σ zF := by
  have hc : zO G YX11_seed YX12_seed [.int (xs (6 * n + 1))] (n + 6) σ := z_seed h _
  have hc : qx_call G qc_T 40 YX11_seed [.ref 3, .int (qx_mi σ 0 (nI (6 * n + 1)).toNatClampNeg)] σ (fun r s => ∃ v, r = some (.int v) ∧ qx_call G qc_T 40 YX12_seed [.ref 197, .int (xs (6 * n + 1))] s (fun r s => r = some (.int v) ∧ zZ (n + 7) s)) := by rw [zS_at hz (show 6 * n + 1 < L by omega) (by omega)]; exact hc
  refine qy_wp_ok (c := CL_seed nm) (cuts := [1206, 18]) (vL_seed nm) (wL_seed nm) 60 1197 _ _ _ ?_
  refine Exists.intro (nI 1) (And.intro rfl ?_)
  refine Exists.intro (nI (6 * n + 1)) (And.intro (nI_add _ _) ?_)
  refine And.intro rfl (And.intro (zS_in hz (by omega) hL) ?_)
  refine And.intro rfl (qx_call_mono hc (fun r s hh => ?_))
  obtain ⟨v, rfl, h1⟩ := hh
  exact qx_K_pure hS (zF_of h1 (by omega)) (fun hz1 => zb_seed hz1 hn hL h1 key)
theorem zb_years {G : qx_G} {nm : String} {L n : Nat} {xs : Nat → Int32} {σ : qx_S} {v : Int32} (hz : zS L xs σ) (hn : 6 * n + 6 ≤ L) (hL : L ≤ 3072) (hc : qx_call G qc_T 40 YX12_years [.ref 197, .int (xs (6 * n + 1)), .int (xs (6 * n + 2)), .int (xs (6 * n + 3))] σ (fun r s => r = some (.int v) ∧ zZ (n + 7) s)) (key : ∀ s, zZ (n + 7) s → zHd G nm (n + 1) s) : qx_K G qc_T 40 RL (YL_law nm) 1239 [.ref 0, .ref 3, .ref 197, .int (nI (6 * n))] [.int v] σ zF := by
  have hc : qx_call G qc_T 40 YX12_years [.ref 197, .int (qx_mi σ 0 (nI (6 * n + 1)).toNatClampNeg), .int (qx_mi σ 0 (nI (6 * n + 2)).toNatClampNeg), .int (qx_mi σ 0 (nI (6 * n + 3)).toNatClampNeg)] σ (fun r s => r = some (.int v) ∧ zZ (n + 7) s) := by rw [zS_at hz (show 6 * n + 1 < L by omega) (by omega), zS_at hz (show 6 * n + 2 < L by omega) (by omega), zS_at hz (show 6 * n + 3 < L by omega) (by omega)]; exact hc
  refine qy_wp_ok (c := CL_years nm) (cuts := [18]) (vL_years nm) (wL_years nm) 60 1239 _ _ _ ?_
  refine Exists.intro (nI 1) (And.intro rfl ?_)
  refine Exists.intro (nI (6 * n + 1)) (And.intro (nI_add _ _) ?_)
  refine And.intro rfl (And.intro (zS_in hz (by omega) hL) ?_)
  refine Exists.intro (nI 2) (And.intro rfl ?_)
  refine Exists.intro (nI (6 * n + 2)) (And.intro (nI_add _ _) ?_)
  refine And.intro rfl (And.intro (zS_in hz (by omega) hL) ?_)
  refine Exists.intro (nI 3) (And.intro rfl ?_)
  refine Exists.intro (nI (6 * n + 3)) (And.intro (nI_add _ _) ?_)
  refine And.intro rfl (And.intro (zS_in hz (by omega) hL) ?_)
  refine And.intro rfl (qx_call_mono hc (fun r s hh => ?_))
  obtain ⟨rfl, h1⟩ := hh
  refine And.intro (fun _ => ?_) (fun hne => absurd rfl hne)
  refine Exists.intro (nI (6 * (n + 1))) (And.intro (nI_add _ _) ?_)
  exact key s h1
theorem za_years {G : qx_G} (hG : kStr G) {nm : String} {L n : Nat} {xs : Nat → Int32} (hS : gScr G L xs) {σ : qx_S} (h : zZ (n + 6) σ) (hz : zS L xs σ) (hn : 6 * n + 6 ≤ L) (hL : L ≤ 3072) (key : ∀ s, zZ (n + 7) s → zHd G nm (n + 1) s) : qx_K G qc_T 40 RL (YL_law nm) 1220 [.ref 0, .ref 3, .ref 197, .int (nI (6 * n))] [] σ zF := by
  have hc : zO G YX11_years YX12_years [.int (xs (6 * n + 1)), .int (xs (6 * n + 2)), .int (xs (6 * n + 3))] (n + 6) σ := z_years h _ _ _
  have hc : qx_call G qc_T 40 YX11_years [.ref 3, .int (qx_mi σ 0 (nI (6 * n + 1)).toNatClampNeg), .int (qx_mi σ 0 (nI (6 * n + 2)).toNatClampNeg), .int (qx_mi σ 0 (nI (6 * n + 3)).toNatClampNeg)] σ (fun r s => ∃ v, r = some (.int v) ∧ qx_call G qc_T 40 YX12_years [.ref 197, .int (xs (6 * n + 1)), .int (xs (6 * n + 2)), .int (xs (6 * n + 3))] s (fun r s => r = some (.int v) ∧ zZ (n + 7) s)) := by rw [zS_at hz (show 6 * n + 1 < L by omega) (by omega), zS_at hz (show 6 * n + 2 < L by omega) (by omega), zS_at hz (show 6 * n + 3 < L by omega) (by omega)]; exact hc
  refine qy_wp_ok (c := CL_years nm) (cuts := [1239, 18]) (vL_years nm) (wL_years nm) 60 1220 _ _ _ ?_
  refine Exists.intro (nI 1) (And.intro rfl ?_)
  refine Exists.intro (nI (6 * n + 1)) (And.intro (nI_add _ _) ?_)
  refine And.intro rfl (And.intro (zS_in hz (by omega) hL) ?_)
  refine Exists.intro (nI 2) (And.intro rfl ?_)
  refine Exists.intro (nI (6 * n + 2)) (And.intro (nI_add _ _) ?_)
  refine And.intro rfl (And.intro (zS_in hz (by omega) hL) ?_)
  refine Exists.intro (nI 3) (And.intro rfl ?_)
  refine Exists.intro (nI (6 * n + 3)) (And.intro (nI_add _ _) ?_)
  refine And.intro rfl (And.intro (zS_in hz (by omega) hL) ?_)
  refine And.intro rfl (qx_call_mono hc (fun r s hh => ?_))
  obtain ⟨v, rfl, h1⟩ := hh
  exact qx_K_pure hS (zF_of h1 (by omega)) (fun hz1 => zb_years hz1 hn hL h1 key)
theorem zb_count {G : qx_G} {nm : String} {L n : Nat} {xs : Nat → Int32} {σ : qx_S} {v : Int32} (hz : zS L xs σ) (hn : 6 * n + 6 ≤ L) (hL : L ≤ 3072) (hc : qx_call G qc_T 40 YX12_count [.ref 197, .int (xs (6 * n + 1))] σ (fun r s => r = some (.int v) ∧ zZ (n + 7) s)) (key : ∀ s, zZ (n + 7) s → zHd G nm (n + 1) s) : qx_K G qc_T 40 RL (YL_law nm) 1272 [.ref 0, .ref 3, .ref 197, .int (nI (6 * n))] [.int v] σ zF := by
  have hc : qx_call G qc_T 40 YX12_count [.ref 197, .int (qx_mi σ 0 (nI (6 * n + 1)).toNatClampNeg)] σ (fun r s => r = some (.int v) ∧ zZ (n + 7) s) := by rw [zS_at hz (show 6 * n + 1 < L by omega) (by omega)]; exact hc
  refine qy_wp_ok (c := CL_count nm) (cuts := [18]) (vL_count nm) (wL_count nm) 60 1272 _ _ _ ?_
  refine Exists.intro (nI 1) (And.intro rfl ?_)
  refine Exists.intro (nI (6 * n + 1)) (And.intro (nI_add _ _) ?_)
  refine And.intro rfl (And.intro (zS_in hz (by omega) hL) ?_)
  refine And.intro rfl (qx_call_mono hc (fun r s hh => ?_))
  obtain ⟨rfl, h1⟩ := hh
  refine And.intro (fun _ => ?_) (fun hne => absurd rfl hne)
  refine Exists.intro (nI (6 * (n + 1))) (And.intro (nI_add _ _) ?_)
  exact key s h1
theorem za_count {G : qx_G} (hG : kStr G) {nm : String} {L n : Nat} {xs : Nat → Int32} (hS : gScr G L xs) {σ : qx_S} (h : zZ (n + 6) σ) (hz : zS L xs σ) (hn : 6 * n + 6 ≤ L) (hL : L ≤ 3072) (key : ∀ s, zZ (n + 7) s → zHd G nm (n + 1) s) : qx_K G qc_T 40 RL (YL_law nm) 1263 [.ref 0, .ref 3, .ref 197, .int (nI (6 * n))] [] σ zF := by
  have hc : zO G YX11_count YX12_count [.int (xs (6 * n + 1))] (n + 6) σ := z_count h _
  have hc : qx_call G qc_T 40 YX11_count [.ref 3, .int (qx_mi σ 0 (nI (6 * n + 1)).toNatClampNeg)] σ (fun r s => ∃ v, r = some (.int v) ∧ qx_call G qc_T 40 YX12_count [.ref 197, .int (xs (6 * n + 1))] s (fun r s => r = some (.int v) ∧ zZ (n + 7) s)) := by rw [zS_at hz (show 6 * n + 1 < L by omega) (by omega)]; exact hc
  refine qy_wp_ok (c := CL_count nm) (cuts := [1272, 18]) (vL_count nm) (wL_count nm) 60 1263 _ _ _ ?_
  refine Exists.intro (nI 1) (And.intro rfl ?_)
  refine Exists.intro (nI (6 * n + 1)) (And.intro (nI_add _ _) ?_)
  refine And.intro rfl (And.intro (zS_in hz (by omega) hL) ?_)
  refine And.intro rfl (qx_call_mono hc (fun r s hh => ?_))
  obtain ⟨v, rfl, h1⟩ := hh
  exact qx_K_pure hS (zF_of h1 (by omega)) (fun hz1 => zb_count hz1 hn hL h1 key)
theorem zb_image {G : qx_G} {nm : String} {L n : Nat} {xs : Nat → Int32} {σ : qx_S} {v : Int32} (hz : zS L xs σ) (hn : 6 * n + 6 ≤ L) (hL : L ≤ 3072) (hc : qx_call G qc_T 40 YX12_image [.ref 197, .int (xs (6 * n + 1))] σ (fun r s => r = some (.int v) ∧ zZ (n + 7) s)) (key : ∀ s, zZ (n + 7) s → zHd G nm (n + 1) s) : qx_K G qc_T 40 RL (YL_law nm) 1295 [.ref 0, .ref 3, .ref 197, .int (nI (6 * n))] [.int v] σ zF := by
  have hc : qx_call G qc_T 40 YX12_image [.ref 197, .int (qx_mi σ 0 (nI (6 * n + 1)).toNatClampNeg)] σ (fun r s => r = some (.int v) ∧ zZ (n + 7) s) := by rw [zS_at hz (show 6 * n + 1 < L by omega) (by omega)]; exact hc
  refine qy_wp_ok (c := CL_image nm) (cuts := [18]) (vL_image nm) (wL_image nm) 60 1295 _ _ _ ?_
  refine Exists.intro (nI 1) (And.intro rfl ?_)
  refine Exists.intro (nI (6 * n + 1)) (And.intro (nI_add _ _) ?_)
  refine And.intro rfl (And.intro (zS_in hz (by omega) hL) ?_)
  refine And.intro rfl (qx_call_mono hc (fun r s hh => ?_))
  obtain ⟨rfl, h1⟩ := hh
  refine And.intro (fun _ => ?_) (fun hne => absurd rfl hne)
  refine Exists.intro (nI (6 * (n + 1))) (And.intro (nI_add _ _) ?_)
  exact key s h1
theorem za_image {G : qx_G} (hG : kStr G) {nm : String} {L n : Nat} {xs : Nat → Int32} (hS : gScr G L xs) {σ : qx_S} (h : zZ (n + 6) σ) (hz : zS L xs σ) (hn : 6 * n + 6 ≤ L) (hL : L ≤ 3072) (key : ∀ s, zZ (n + 7) s → zHd G nm (n + 1) s) : qx_K G qc_T 40 RL (YL_law nm) 1286 [.ref 0, .ref 3, .ref 197, .int (nI (6 * n))] [] σ zF := by
  have hc : zO G YX11_image YX12_image [.int (xs (6 * n + 1))] (n + 6) σ := z_image h _
  have hc : qx_call G qc_T 40 YX11_image [.ref 3, .int (qx_mi σ 0 (nI (6 * n + 1)).toNatClampNeg)] σ (fun r s => ∃ v, r = some (.int v) ∧ qx_call G qc_T 40 YX12_image [.ref 197, .int (xs (6 * n + 1))] s (fun r s => r = some (.int v) ∧ zZ (n + 7) s)) := by rw [zS_at hz (show 6 * n + 1 < L by omega) (by omega)]; exact hc
  refine qy_wp_ok (c := CL_image nm) (cuts := [1295, 18]) (vL_image nm) (wL_image nm) 60 1286 _ _ _ ?_
  refine Exists.intro (nI 1) (And.intro rfl ?_)
  refine Exists.intro (nI (6 * n + 1)) (And.intro (nI_add _ _) ?_)
  refine And.intro rfl (And.intro (zS_in hz (by omega) hL) ?_)
  refine And.intro rfl (qx_call_mono hc (fun r s hh => ?_))
  obtain ⟨v, rfl, h1⟩ := hh
  exact qx_K_pure hS (zF_of h1 (by omega)) (fun hz1 => zb_image hz1 hn hL h1 key)
theorem zb_back {G : qx_G} {nm : String} {L n : Nat} {xs : Nat → Int32} {σ : qx_S} {v : Int32} (hz : zS L xs σ) (hn : 6 * n + 6 ≤ L) (hL : L ≤ 3072) (hc : qx_call G qc_T 40 YX12_back [.ref 197, .int (xs (6 * n + 1))] σ (fun r s => r = some (.int v) ∧ zZ (n + 7) s)) (key : ∀ s, zZ (n + 7) s → zHd G nm (n + 1) s) : qx_K G qc_T 40 RL (YL_law nm) 1318 [.ref 0, .ref 3, .ref 197, .int (nI (6 * n))] [.int v] σ zF := by
  have hc : qx_call G qc_T 40 YX12_back [.ref 197, .int (qx_mi σ 0 (nI (6 * n + 1)).toNatClampNeg)] σ (fun r s => r = some (.int v) ∧ zZ (n + 7) s) := by rw [zS_at hz (show 6 * n + 1 < L by omega) (by omega)]; exact hc
  refine qy_wp_ok (c := CL_back nm) (cuts := [18]) (vL_back nm) (wL_back nm) 60 1318 _ _ _ ?_
  refine Exists.intro (nI 1) (And.intro rfl ?_)
  refine Exists.intro (nI (6 * n + 1)) (And.intro (nI_add _ _) ?_)
  refine And.intro rfl (And.intro (zS_in hz (by omega) hL) ?_)
  refine And.intro rfl (qx_call_mono hc (fun r s hh => ?_))
  obtain ⟨rfl, h1⟩ := hh
  refine And.intro (fun _ => ?_) (fun hne => absurd rfl hne)
  refine Exists.intro (nI (6 * (n + 1))) (And.intro (nI_add _ _) ?_)
  exact key s h1
theorem za_back {G : qx_G} (hG : kStr G) {nm : String} {L n : Nat} {xs : Nat → Int32} (hS : gScr G L xs) {σ : qx_S} (h : zZ (n + 6) σ) (hz : zS L xs σ) (hn : 6 * n + 6 ≤ L) (hL : L ≤ 3072) (key : ∀ s, zZ (n + 7) s → zHd G nm (n + 1) s) : qx_K G qc_T 40 RL (YL_law nm) 1309 [.ref 0, .ref 3, .ref 197, .int (nI (6 * n))] [] σ zF := by
  have hc : zO G YX11_back YX12_back [.int (xs (6 * n + 1))] (n + 6) σ := z_back h (by omega) _
  have hc : qx_call G qc_T 40 YX11_back [.ref 3, .int (qx_mi σ 0 (nI (6 * n + 1)).toNatClampNeg)] σ (fun r s => ∃ v, r = some (.int v) ∧ qx_call G qc_T 40 YX12_back [.ref 197, .int (xs (6 * n + 1))] s (fun r s => r = some (.int v) ∧ zZ (n + 7) s)) := by rw [zS_at hz (show 6 * n + 1 < L by omega) (by omega)]; exact hc
  refine qy_wp_ok (c := CL_back nm) (cuts := [1318, 18]) (vL_back nm) (wL_back nm) 60 1309 _ _ _ ?_
  refine Exists.intro (nI 1) (And.intro rfl ?_)
  refine Exists.intro (nI (6 * n + 1)) (And.intro (nI_add _ _) ?_)
  refine And.intro rfl (And.intro (zS_in hz (by omega) hL) ?_)
  refine And.intro rfl (qx_call_mono hc (fun r s hh => ?_))
  obtain ⟨v, rfl, h1⟩ := hh
  exact qx_K_pure hS (zF_of h1 (by omega)) (fun hz1 => zb_back hz1 hn hL h1 key)
