/-! THE CLASS: lie, liars -/
abbrev kLl : List (Nat × Option Nat) := kLi160 ++ (kLi174 ++ kLn)
/-- what is kept of MOST, CORE and lies -/
def cWy (σ : qx_S) (S : qS) (rf : Option qR) (e : Nat) : Prop := cI σ S rf e ∧ cLk σ S rf e ∧ cMs σ S rf e ∧ cLi σ 160 S rf e 0 ∧ cLi σ 174 S rf e 1
theorem c_lie_no {G : qx_G} {σ : qx_S} {S : qS} {rf : Option qR} {e : Nat} (hI : cI σ S rf e) {w x : Int32} (hb : (q_in64 w.toInt64 (lN 0) (lN 1) && q_is x (s_n S 1)) = false) : qx_M G qc_T 9 YX11_lie [.ref 3, .int w, .int x] σ (qr (-1) σ) := by
  refine qx_M_in rfl (Nat.le_of_ble_eq_true rfl) ?_
  refine qy_wp_ok (c := CX11_lie) (cuts := []) vX11_lie wX11_lie 2000 0 _ _ _ ?_
  refine And.intro rfl (Exists.intro _ (And.intro (by decide) (qx_M_mono (c_isPerson hI.2.1.1 hI.1.1.2.1.2.1.1 x) ?_)))
  rintro _ _ ⟨rfl, rfl⟩
  refine And.intro (fun h5 => ?_) (fun h5 => ?_)
  · skip
    have h5 := bI_f h5
    refine Exists.intro ((-1)) (And.intro (by decide) ?_)
    exact ⟨rfl, rfl⟩
  · skip
    have h5 := bI_t h5
    refine And.intro (fun h9 => ?_) (fun h9 => ?_)
    · skip
      refine Exists.intro ((-1)) (And.intro (by decide) ?_)
      exact ⟨rfl, rfl⟩
    · skip
      refine Exists.intro (nI 1) (And.intro rfl ?_)
      refine And.intro (fun h14 => ?_) (fun h14 => ?_)
      · skip
        exfalso; rw [h5, q_in_iff w (by decide) (by decide), decide_eq_true (show nI 0 ≤ w ∧ w ≤ nI 1 from ⟨Int32.not_lt.mp h9, h14⟩)] at hb
        cases hb
      · skip
        refine Exists.intro ((-1)) (And.intro (by decide) ?_)
        exact ⟨rfl, rfl⟩
theorem c_liars_no {G : qx_G} {σ : qx_S} {S : qS} {rf : Option qR} {e : Nat} (hI : cI σ S rf e) {w : Int32} (hb : (decide (0 < s_n S 0) && q_in64 w.toInt64 (lN 0) (lN 1)) = false) : qx_M G qc_T 9 YX11_liars [.ref 3, .int w] σ (qr (-1) σ) := by
  refine qx_M_in rfl (Nat.le_of_ble_eq_true rfl) ?_
  refine qy_wp_ok (c := CX11_liars) (cuts := [22]) vX11_liars wX11_liars 2000 0 _ _ _ ?_
  refine And.intro rfl (Exists.intro _ (And.intro (by decide) (qx_M_mono (c_hasCountry hI.2.1.1 hI.1.1.2.1.1.1 hI.1.1.2.1.1.2) ?_)))
  rintro _ _ ⟨rfl, rfl⟩
  refine And.intro (fun h4 => ?_) (fun h4 => ?_)
  · skip
    have h4 := bI_f h4
    refine Exists.intro ((-1)) (And.intro (by decide) ?_)
    exact ⟨rfl, rfl⟩
  · skip
    have h4 := bI_t h4
    refine And.intro (fun h8 => ?_) (fun h8 => ?_)
    · skip
      refine Exists.intro ((-1)) (And.intro (by decide) ?_)
      exact ⟨rfl, rfl⟩
    · skip
      refine Exists.intro (nI 1) (And.intro rfl ?_)
      refine And.intro (fun h13 => ?_) (fun h13 => ?_)
      · skip
        exfalso; rw [h4, q_in_iff w (by decide) (by decide), decide_eq_true (show nI 0 ≤ w ∧ w ≤ nI 1 from ⟨Int32.not_lt.mp h8, h13⟩)] at hb
        cases hb
      · skip
        refine Exists.intro ((-1)) (And.intro (by decide) ?_)
        exact ⟨rfl, rfl⟩
theorem cWy.ln {σ s : qx_S} {S : qS} {rf : Option qR} {e : Nat} (h : cWy σ S rf e) (f : ql kLn σ s) (hI : cI s S rf e) (hL : cLk s S rf e) : cWy s S rf e := ⟨hI, hL, h.2.2.1.fr f (fun x j h => pL_ne (by simp; omega)), h.2.2.2.1.fr f (fun _ => rfl) (fun _ => rfl), h.2.2.2.2.fr f (fun _ => rfl) (fun _ => rfl)⟩
theorem cWy.l160 {σ s : qx_S} {S : qS} {rf : Option qR} {e : Nat} (h : cWy σ S rf e) (f : ql kLi160 σ s) (hW : wI160 s S rf e) (hE : eE160 s ∨ σ = s) (hC : cLi s 160 S rf e 0) : cWy s S rf e := by
  refine ⟨hW.1, h.2.1.fr f rfl (fun _ => rfl), ?_, hC, h.2.2.2.2.fr f (fun _ => rfl) (fun _ => rfl)⟩
  rcases hE with z | z
  · have he := hW.1.K.2.1.1
    exact ⟨hW.2.1, hW.2.2, 2, 0, by decide, z.1, z.2, Nat.zero_le _, fun y => absurd y (by omega)⟩
  · rw [← z]
    exact h.2.2.1
theorem cWy.l174 {σ s : qx_S} {S : qS} {rf : Option qR} {e : Nat} (h : cWy σ S rf e) (f : ql kLi174 σ s) (hW : wI174 s S rf e) (_ : eE174 s ∨ σ = s) (hC : cLi s 174 S rf e 1) : cWy s S rf e := ⟨hW.1, h.2.1.fr f rfl (fun _ => rfl), h.2.2.1.fr f (fun x j h => pL_ne (by simp; omega)), h.2.2.2.1.fr f (fun _ => rfl) (fun _ => rfl), hC⟩
theorem cWy.w160 {σ : qx_S} {S : qS} {rf : Option qR} {e : Nat} (h : cWy σ S rf e) : wI160 σ S rf e ∧ cLi σ 160 S rf e 0 := ⟨⟨h.1, h.2.2.1.1, h.2.2.1.2.1⟩, h.2.2.2.1⟩
theorem cWy.w174 {σ : qx_S} {S : qS} {rf : Option qR} {e : Nat} (h : cWy σ S rf e) : wI174 σ S rf e ∧ cLi σ 174 S rf e 1 := ⟨⟨h.1, trivial, trivial⟩, h.2.2.2.2⟩
theorem c_wayOf160 {G : qx_G} {σ : qx_S} : qx_M G qc_T 0 YX11_wayOf [.ref 3, .int (nI 0)] σ (fun r s => r = some (.ref 160) ∧ σ = s) := by
  refine qx_M_in rfl (Nat.le_of_ble_eq_true rfl) ?_
  refine qy_wp_ok (c := CX11_wayOf) (cuts := []) vX11_wayOf wX11_wayOf 2000 0 _ _ _ ?_
  refine And.intro (fun h1 => ?_) (fun h1 => ?_)
  · skip
    exact absurd (by decide) h1
  · skip
    refine And.intro rfl (Exists.intro 160 (And.intro rfl ?_))
    exact ⟨rfl, rfl⟩
theorem c_lie0_ok {G : qx_G} {σ : qx_S} {S : qS} {rf : Option qR} {e p : Nat} (hy : cWy σ S rf e) (hp : p < s_n S 1) : qx_M G qc_T 9 YX11_lie [.ref 3, .int (nI 0), .int (nI p)] σ (fun r s => r = some (.int (q_gb S rf 0 p)) ∧ ql kLl σ s ∧ cWy s S rf e) := by
  have hI := hy.1
  have hpe := hI.1.pe
  refine qx_M_in rfl (Nat.le_of_ble_eq_true rfl) ?_
  refine qy_wp_ok (c := CX11_lie) (cuts := []) vX11_lie wX11_lie 2000 0 _ _ _ ?_
  refine And.intro rfl (Exists.intro _ (And.intro (by decide) (qx_M_mono (c_isPerson hI.2.1.1 hI.1.1.2.1.2.1.1 (nI p)) ?_)))
  rintro _ _ ⟨rfl, rfl⟩
  refine And.intro (fun h5 => ?_) (fun h5 => ?_)
  · skip
    have h5 := bI_f h5
    exact absurd (h5.symm.trans (q_is_ok hp (by omega))) (by decide)
  · skip
    have h5 := bI_t h5
    refine And.intro (fun h9 => ?_) (fun h9 => ?_)
    · skip
      exact absurd h9 (by decide)
    · skip
      refine Exists.intro (nI 1) (And.intro rfl ?_)
      refine And.intro (fun h14 => ?_) (fun h14 => ?_)
      · skip
        refine And.intro rfl (Exists.intro _ (And.intro (by decide) (qx_M_mono (c_wayOf160) ?_)))
        rintro _ _ ⟨rfl, rfl⟩
        refine And.intro rfl (Exists.intro _ (And.intro (by decide) (qx_M_mono (c_likesNow hI hy.2.1) ?_)))
        rintro _ ρ ⟨rfl, fρ, iρ, aρ, lρ⟩
        refine Or.inr (And.intro rfl (Exists.intro _ (And.intro (by decide) (qx_M_mono (c_lieOf160 hp (hy.ln fρ iρ lρ).w160.1 (hy.ln fρ iρ lρ).w160.2 aρ) ?_))))
        rintro _ τ ⟨rfl, fτ, wτ, eτ, cτ⟩
        exact ⟨rfl, (fρ.mn rfl).tr (fτ.mn rfl), (hy.ln fρ iρ lρ).l160 fτ wτ eτ cτ⟩
      · skip
        exact absurd (by decide) h14
theorem l_liars0 {G : qx_G} {σ0 : qx_S} {S : qS} {rf : Option qR} {e : Nat} : ∀ (m p : Nat) (σ : qx_S), m + p = s_n S 1 → cWy σ S rf e → ql kLl σ0 σ → qx_K G qc_T 9 RX11 YX11_liars 22 [.ref 3, .int (nI 0), .int (nI (q_set (fun p => decide (0 ≤ q_gb S rf 0 p)) p)), .int (nI p)] [] σ (fun r s => r = some (.int (nI (q_set (fun p => decide (0 ≤ q_gb S rf 0 p)) (s_n S 1)))) ∧ ql kLl σ0 s ∧ cWy s S rf e) := by
  intro m
  induction m with
  | zero =>
    intro p σ hm hy hf
    have hpe := hy.1.1.pe
    have e5 := hy.1.2.1.1.2.1.trans hy.1.1.1.2.1.2.1.1
    rw [show p = s_n S 1 by omega]
    refine qy_wp_ok (c := CX11_liars) (cuts := [22]) vX11_liars wX11_liars 2000 22 _ _ _ ?_
    refine And.intro rfl (Exists.intro 15 (And.intro rfl ?_))
    refine And.intro rfl (Exists.intro 16 (And.intro rfl ?_))
    refine And.intro rfl (Exists.intro 5 (Exists.intro (nI (s_n S 1)) (And.intro rfl (And.intro e5 ?_))))
    refine And.intro (fun h33 => ?_) (fun h33 => ?_)
    · skip
      have h33 := nI_leT (a := s_n S 1) (b := s_n S 1) (by omega) (by omega) h33
      exact ⟨rfl, hf, hy⟩
    · skip
      have h33 := nI_leF (a := s_n S 1) (b := s_n S 1) (by omega) (by omega) h33
      exact absurd h33 (by omega)
  | succ m ih =>
    intro p σ hm hy hf
    have hI := hy.1
    have hpe := hI.1.pe
    have hp : p < s_n S 1 := by omega
    have e5 := hy.1.2.1.1.2.1.trans hy.1.1.1.2.1.2.1.1
    refine qy_wp_ok (c := CX11_liars) (cuts := [22]) vX11_liars wX11_liars 2000 22 _ _ _ ?_
    refine And.intro rfl (Exists.intro 15 (And.intro rfl ?_))
    refine And.intro rfl (Exists.intro 16 (And.intro rfl ?_))
    refine And.intro rfl (Exists.intro 5 (Exists.intro (nI (s_n S 1)) (And.intro rfl (And.intro e5 ?_))))
    refine And.intro (fun h33 => ?_) (fun h33 => ?_)
    · skip
      have h33 := nI_leT (a := s_n S 1) (b := p) (by omega) (by omega) h33
      exact absurd h33 (by omega)
    · skip
      have h33 := nI_leF (a := s_n S 1) (b := p) (by omega) (by omega) h33
      refine And.intro rfl (Exists.intro _ (And.intro (by decide) (qx_M_mono (c_wayOf160) ?_)))
      rintro _ _ ⟨rfl, rfl⟩
      refine And.intro rfl (Exists.intro _ (And.intro (by decide) (qx_M_mono (c_likesNow hI hy.2.1) ?_)))
      rintro _ ρ ⟨rfl, fρ, iρ, aρ, lρ⟩
      refine Or.inr (And.intro rfl (Exists.intro _ (And.intro (by decide) (qx_M_mono (c_lieOf160 hp (hy.ln fρ iρ lρ).w160.1 (hy.ln fρ iρ lρ).w160.2 aρ) ?_))))
      rintro _ τ ⟨rfl, fτ, wτ, eτ, cτ⟩
      refine And.intro (fun h49 => ?_) (fun h49 => ?_)
      · skip
        refine Exists.intro (nI (p + 1)) (And.intro (nI_add _ _) ?_)
        have z := ih (p + 1) _ (by omega) ((hy.ln fρ iρ lρ).l160 fτ wτ eτ cτ) ((hf.tr (fρ.mn rfl)).tr (fτ.mn rfl))
        rw [q_set_f (f := fun p => decide (0 ≤ q_gb S rf 0 p)) (decide_eq_false (Int32.not_le.mpr h49))] at z
        exact z
      · skip
        refine Exists.intro (nI 1) (And.intro rfl ?_)
        refine Exists.intro (nI (2 ^ p)) (And.intro (nI_sh1 (by omega)) ?_)
        refine Exists.intro (nI ((q_set (fun p => decide (0 ≤ q_gb S rf 0 p)) p) ||| (2 ^ p))) (And.intro (nI_or _ _) ?_)
        refine Exists.intro (nI (p + 1)) (And.intro (nI_add _ _) ?_)
        have z := ih (p + 1) _ (by omega) ((hy.ln fρ iρ lρ).l160 fτ wτ eτ cτ) ((hf.tr (fρ.mn rfl)).tr (fτ.mn rfl))
        rw [q_set_t (f := fun p => decide (0 ≤ q_gb S rf 0 p)) (decide_eq_true (Int32.not_lt.mp h49))] at z
        exact z
theorem c_liars0_ok {G : qx_G} {σ : qx_S} {S : qS} {rf : Option qR} {e : Nat} (hy : cWy σ S rf e) (hc : 0 < s_n S 0) : qx_M G qc_T 9 YX11_liars [.ref 3, .int (nI 0)] σ (fun r s => r = some (.int (nI (q_set (fun p => decide (0 ≤ q_gb S rf 0 p)) (s_n S 1)))) ∧ ql kLl σ s ∧ cWy s S rf e) := by
  have hI := hy.1
  refine qx_M_in rfl (Nat.le_of_ble_eq_true rfl) ?_
  refine qy_wp_ok (c := CX11_liars) (cuts := [22]) vX11_liars wX11_liars 2000 0 _ _ _ ?_
  refine And.intro rfl (Exists.intro _ (And.intro (by decide) (qx_M_mono (c_hasCountry hI.2.1.1 hI.1.1.2.1.1.1 hI.1.1.2.1.1.2) ?_)))
  rintro _ _ ⟨rfl, rfl⟩
  refine And.intro (fun h4 => ?_) (fun h4 => ?_)
  · skip
    have h4 := bI_f h4
    exact absurd (h4.symm.trans (decide_eq_true hc)) (by decide)
  · skip
    have h4 := bI_t h4
    refine And.intro (fun h8 => ?_) (fun h8 => ?_)
    · skip
      exact absurd h8 (by decide)
    · skip
      refine Exists.intro (nI 1) (And.intro rfl ?_)
      refine And.intro (fun h13 => ?_) (fun h13 => ?_)
      · skip
        refine Exists.intro (nI 0) (And.intro rfl ?_)
        refine Exists.intro (nI 0) (And.intro rfl ?_)
        exact l_liars0 (s_n S 1) 0 σ (by omega) hy qf.rf
      · skip
        exact absurd (by decide) h13
theorem c_wayOf174 {G : qx_G} {σ : qx_S} : qx_M G qc_T 0 YX11_wayOf [.ref 3, .int (nI 1)] σ (fun r s => r = some (.ref 174) ∧ σ = s) := by
  refine qx_M_in rfl (Nat.le_of_ble_eq_true rfl) ?_
  refine qy_wp_ok (c := CX11_wayOf) (cuts := []) vX11_wayOf wX11_wayOf 2000 0 _ _ _ ?_
  refine And.intro (fun h1 => ?_) (fun h1 => ?_)
  · skip
    refine And.intro rfl (Exists.intro 174 (And.intro rfl ?_))
    exact ⟨rfl, rfl⟩
  · skip
    exact absurd h1 (by decide)
theorem c_lie1_ok {G : qx_G} {σ : qx_S} {S : qS} {rf : Option qR} {e p : Nat} (hy : cWy σ S rf e) (hp : p < s_n S 1) : qx_M G qc_T 9 YX11_lie [.ref 3, .int (nI 1), .int (nI p)] σ (fun r s => r = some (.int (q_gb S rf 1 p)) ∧ ql kLl σ s ∧ cWy s S rf e) := by
  have hI := hy.1
  have hpe := hI.1.pe
  refine qx_M_in rfl (Nat.le_of_ble_eq_true rfl) ?_
  refine qy_wp_ok (c := CX11_lie) (cuts := []) vX11_lie wX11_lie 2000 0 _ _ _ ?_
  refine And.intro rfl (Exists.intro _ (And.intro (by decide) (qx_M_mono (c_isPerson hI.2.1.1 hI.1.1.2.1.2.1.1 (nI p)) ?_)))
  rintro _ _ ⟨rfl, rfl⟩
  refine And.intro (fun h5 => ?_) (fun h5 => ?_)
  · skip
    have h5 := bI_f h5
    exact absurd (h5.symm.trans (q_is_ok hp (by omega))) (by decide)
  · skip
    have h5 := bI_t h5
    refine And.intro (fun h9 => ?_) (fun h9 => ?_)
    · skip
      exact absurd h9 (by decide)
    · skip
      refine Exists.intro (nI 1) (And.intro rfl ?_)
      refine And.intro (fun h14 => ?_) (fun h14 => ?_)
      · skip
        refine And.intro rfl (Exists.intro _ (And.intro (by decide) (qx_M_mono (c_wayOf174) ?_)))
        rintro _ _ ⟨rfl, rfl⟩
        refine And.intro rfl (Exists.intro _ (And.intro (by decide) (qx_M_mono (c_likesNow hI hy.2.1) ?_)))
        rintro _ ρ ⟨rfl, fρ, iρ, aρ, lρ⟩
        refine Or.inl (And.intro rfl (Exists.intro _ (And.intro (by decide) (qx_M_mono (c_lieOf174 hp (hy.ln fρ iρ lρ).w174.1 (hy.ln fρ iρ lρ).w174.2 aρ) ?_))))
        rintro _ τ ⟨rfl, fτ, wτ, eτ, cτ⟩
        exact ⟨rfl, (fρ.mn rfl).tr (fτ.mn rfl), (hy.ln fρ iρ lρ).l174 fτ wτ eτ cτ⟩
      · skip
        exact absurd (by decide) h14
theorem l_liars1 {G : qx_G} {σ0 : qx_S} {S : qS} {rf : Option qR} {e : Nat} : ∀ (m p : Nat) (σ : qx_S), m + p = s_n S 1 → cWy σ S rf e → ql kLl σ0 σ → qx_K G qc_T 9 RX11 YX11_liars 22 [.ref 3, .int (nI 1), .int (nI (q_set (fun p => decide (0 ≤ q_gb S rf 1 p)) p)), .int (nI p)] [] σ (fun r s => r = some (.int (nI (q_set (fun p => decide (0 ≤ q_gb S rf 1 p)) (s_n S 1)))) ∧ ql kLl σ0 s ∧ cWy s S rf e) := by
  intro m
  induction m with
  | zero =>
    intro p σ hm hy hf
    have hpe := hy.1.1.pe
    have e5 := hy.1.2.1.1.2.1.trans hy.1.1.1.2.1.2.1.1
    rw [show p = s_n S 1 by omega]
    refine qy_wp_ok (c := CX11_liars) (cuts := [22]) vX11_liars wX11_liars 2000 22 _ _ _ ?_
    refine And.intro rfl (Exists.intro 15 (And.intro rfl ?_))
    refine And.intro rfl (Exists.intro 16 (And.intro rfl ?_))
    refine And.intro rfl (Exists.intro 5 (Exists.intro (nI (s_n S 1)) (And.intro rfl (And.intro e5 ?_))))
    refine And.intro (fun h33 => ?_) (fun h33 => ?_)
    · skip
      have h33 := nI_leT (a := s_n S 1) (b := s_n S 1) (by omega) (by omega) h33
      exact ⟨rfl, hf, hy⟩
    · skip
      have h33 := nI_leF (a := s_n S 1) (b := s_n S 1) (by omega) (by omega) h33
      exact absurd h33 (by omega)
  | succ m ih =>
    intro p σ hm hy hf
    have hI := hy.1
    have hpe := hI.1.pe
    have hp : p < s_n S 1 := by omega
    have e5 := hy.1.2.1.1.2.1.trans hy.1.1.1.2.1.2.1.1
    refine qy_wp_ok (c := CX11_liars) (cuts := [22]) vX11_liars wX11_liars 2000 22 _ _ _ ?_
    refine And.intro rfl (Exists.intro 15 (And.intro rfl ?_))
    refine And.intro rfl (Exists.intro 16 (And.intro rfl ?_))
    refine And.intro rfl (Exists.intro 5 (Exists.intro (nI (s_n S 1)) (And.intro rfl (And.intro e5 ?_))))
    refine And.intro (fun h33 => ?_) (fun h33 => ?_)
    · skip
      have h33 := nI_leT (a := s_n S 1) (b := p) (by omega) (by omega) h33
      exact absurd h33 (by omega)
    · skip
      have h33 := nI_leF (a := s_n S 1) (b := p) (by omega) (by omega) h33
      refine And.intro rfl (Exists.intro _ (And.intro (by decide) (qx_M_mono (c_wayOf174) ?_)))
      rintro _ _ ⟨rfl, rfl⟩
      refine And.intro rfl (Exists.intro _ (And.intro (by decide) (qx_M_mono (c_likesNow hI hy.2.1) ?_)))
      rintro _ ρ ⟨rfl, fρ, iρ, aρ, lρ⟩
      refine Or.inl (And.intro rfl (Exists.intro _ (And.intro (by decide) (qx_M_mono (c_lieOf174 hp (hy.ln fρ iρ lρ).w174.1 (hy.ln fρ iρ lρ).w174.2 aρ) ?_))))
      rintro _ τ ⟨rfl, fτ, wτ, eτ, cτ⟩
      refine And.intro (fun h49 => ?_) (fun h49 => ?_)
      · skip
        refine Exists.intro (nI (p + 1)) (And.intro (nI_add _ _) ?_)
        have z := ih (p + 1) _ (by omega) ((hy.ln fρ iρ lρ).l174 fτ wτ eτ cτ) ((hf.tr (fρ.mn rfl)).tr (fτ.mn rfl))
        rw [q_set_f (f := fun p => decide (0 ≤ q_gb S rf 1 p)) (decide_eq_false (Int32.not_le.mpr h49))] at z
        exact z
      · skip
        refine Exists.intro (nI 1) (And.intro rfl ?_)
        refine Exists.intro (nI (2 ^ p)) (And.intro (nI_sh1 (by omega)) ?_)
        refine Exists.intro (nI ((q_set (fun p => decide (0 ≤ q_gb S rf 1 p)) p) ||| (2 ^ p))) (And.intro (nI_or _ _) ?_)
        refine Exists.intro (nI (p + 1)) (And.intro (nI_add _ _) ?_)
        have z := ih (p + 1) _ (by omega) ((hy.ln fρ iρ lρ).l174 fτ wτ eτ cτ) ((hf.tr (fρ.mn rfl)).tr (fτ.mn rfl))
        rw [q_set_t (f := fun p => decide (0 ≤ q_gb S rf 1 p)) (decide_eq_true (Int32.not_lt.mp h49))] at z
        exact z
theorem c_liars1_ok {G : qx_G} {σ : qx_S} {S : qS} {rf : Option qR} {e : Nat} (hy : cWy σ S rf e) (hc : 0 < s_n S 0) : qx_M G qc_T 9 YX11_liars [.ref 3, .int (nI 1)] σ (fun r s => r = some (.int (nI (q_set (fun p => decide (0 ≤ q_gb S rf 1 p)) (s_n S 1)))) ∧ ql kLl σ s ∧ cWy s S rf e) := by
  have hI := hy.1
  refine qx_M_in rfl (Nat.le_of_ble_eq_true rfl) ?_
  refine qy_wp_ok (c := CX11_liars) (cuts := [22]) vX11_liars wX11_liars 2000 0 _ _ _ ?_
  refine And.intro rfl (Exists.intro _ (And.intro (by decide) (qx_M_mono (c_hasCountry hI.2.1.1 hI.1.1.2.1.1.1 hI.1.1.2.1.1.2) ?_)))
  rintro _ _ ⟨rfl, rfl⟩
  refine And.intro (fun h4 => ?_) (fun h4 => ?_)
  · skip
    have h4 := bI_f h4
    exact absurd (h4.symm.trans (decide_eq_true hc)) (by decide)
  · skip
    have h4 := bI_t h4
    refine And.intro (fun h8 => ?_) (fun h8 => ?_)
    · skip
      exact absurd h8 (by decide)
    · skip
      refine Exists.intro (nI 1) (And.intro rfl ?_)
      refine And.intro (fun h13 => ?_) (fun h13 => ?_)
      · skip
        refine Exists.intro (nI 0) (And.intro rfl ?_)
        refine Exists.intro (nI 0) (And.intro rfl ?_)
        exact l_liars1 (s_n S 1) 0 σ (by omega) hy qf.rf
      · skip
        exact absurd (by decide) h13

