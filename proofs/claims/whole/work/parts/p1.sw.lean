/-! THE START: the law up to its loop -/
/-- from the cells' own shapes to the table's -/
theorem z_sw {G : qx_G} {d : Nat} {own : String} {Y : qx_Y} {pc : Nat} {ls st : List Value} {σ : qx_S} (hσ : 229 ≤ σ.1) (hT : ∀ a, qx_sh qc_T σ a = σ.2.2.1 a) (h : qx_K G qc_T d own Y pc ls st σ zF) : qx_K G zT0 d own Y pc ls st σ zF := by
  obtain ⟨r, s, hΦ, n1, n2, hw⟩ := h
  refine ⟨r, (s.1, s.2.1, qx_sh qc_T s, s.2.2.2), hΦ, n1, n2, fun p e R s0 m args below meth c H locs cells slots lsA a1 a2 a3 a4 a5 hR a7 a8 a9 => ?_⟩
  obtain ⟨b1, b2, b3, b4, b5, b6, b7, b8, b9⟩ := hR
  have hR' : qx_R G qc_T s0 σ H := by
    refine ⟨b1, b2, ?_, b4, b5, b6, b7, fun a ha => qc_hi (by omega), fun a ha => ?_⟩
    · rw [hT 0]
      exact b3
    · rw [hT a] at ha ⊢
      exact b9 a ha
  have k := hw p e R s0 m args below meth c H locs cells slots lsA a1 a2 a3 a4 a5 hR' a7 a8 a9
  intro T0 hT0 X
  obtain ⟨t, g, o, q1, q2, ⟨q3, q4, q5, q6⟩, q7⟩ := k T0 hT0 X
  refine ⟨t, g, o, q1, q2, ⟨q3, ⟨q4.1, q4.2.1, fun _ _ => rfl, fun a ha => q4.2.2.2 a ha⟩, q5, ?_⟩, q7⟩
  exact ⟨q6.1.trans (hT 0), q6.2⟩
/-- the law from its entry -/
theorem z_start {G : qx_G} (hG : kStr G) {nm : String} {L : Nat} {xs : Nat → Int32} (hS : gScr G L xs) (hL : L ≤ 3072) {σ : qx_S} (h1 : σ.1 = 3) (h2 : σ.2.1 = 0) : qx_K G zT0 40 RL (YL_law nm) 0 [.ref 0, .retAddr 0, .retAddr 0, .retAddr 0] [] σ zF := by
  refine qy_wp_ok (c := CL_0start nm) (cuts := [18]) (vL_0start nm) (wL_0start nm) 60 0 _ _ _ ?_
  obtain ⟨s1, e1⟩ : ∃ zs, zs = qx_al σ (50, 0) 19 := ⟨_, rfl⟩
  refine Exists.intro 3 (Exists.intro s1 (And.intro h1 (And.intro e1.symm ?_)))
  refine Exists.intro _ (And.intro (by decide) (qx_M_mono (i11a (T := zT0) (fun _ _ => rfl) (by rw [ka_1 e1, h1]) (show qx_sh zT0 s1 3 = (50, 0) from ka_n e1 h1 rfl) (fun j => ka_0 e1 h1) (fun s h => i11b (fun _ _ => rfl) h)) ?_))
  rintro _ s2 ⟨rfl, h11⟩
  obtain ⟨s3, e3⟩ : ∃ zs, zs = qx_al s2 (51, 0) 53 := ⟨_, rfl⟩
  refine Exists.intro 197 (Exists.intro s3 (And.intro h11.1.1 (And.intro e3.symm ?_)))
  refine Exists.intro _ (And.intro (by decide) (qx_M_mono (c_i12 (T := zT0) (fun _ _ => rfl) (by rw [ka_1 e3, h11.1.1]) (show qx_sh zT0 s3 197 = (51, 0) from ka_n e3 h11.1.1 rfl) (fun j => ka_0 e3 h11.1.1)) ?_))
  rintro _ s4 ⟨rfl, h12⟩
  refine Exists.intro (nI 0) (And.intro rfl ?_)
  exact z_sw (by rw [h12.1.1]; decide) (z_T h11 e3 h12) (z_loop hG hS hL 512 0 s4 rfl (z_init (by rw [ka_2 e1, h2]) h11 e3 h12))
