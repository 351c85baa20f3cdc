/-! THE START: what the constructors leave -/
def zT0 : qx_T := fun _ => none
def zL1 : List (Nat × Nat × Nat) := [(3, (18, 0)), (4, (17, 0)), (5, (1, 400)), (6, (0, 401)), (7, (0, 401)), (8, (0, 401)), (9, (9, 0)), (10, (0, 10)), (11, (0, 10)), (12, (0, 80)), (13, (0, 8)), (14, (5, 6)), (15, (16, 0)), (16, (9, 0)), (17, (0, 10)), (18, (0, 10)), (19, (0, 80)), (20, (0, 8)), (21, (15, 0)), (22, (0, 10)), (23, (0, 10)), (24, (0, 100)), (25, (0, 10)), (26, (6, 20)), (27, (12, 0)), (28, (0, 6)), (29, (4, 12)), (30, (0, 10)), (155, (7, 4)), (156, (10, 0)), (157, (0, 640)), (158, (0, 12)), (159, (3, 64)), (160, (11, 0)), (161, (0, 10)), (162, (0, 80)), (163, (0, 10)), (164, (0, 10)), (165, (0, 50)), (166, (0, 5)), (167, (0, 50)), (168, (0, 100)), (169, (0, 1024)), (170, (0, 1024)), (171, (0, 11)), (172, (0, 1024)), (173, (0, 5)), (174, (8, 0)), (175, (0, 10)), (176, (0, 80)), (177, (0, 10)), (178, (0, 10)), (179, (0, 10)), (180, (15, 0)), (181, (0, 10)), (182, (0, 10)), (183, (0, 100)), (184, (0, 10)), (185, (12, 0)), (186, (0, 6)), (187, (0, 80)), (188, (0, 10)), (189, (0, 12)), (190, (0, 8)), (191, (13, 0)), (192, (0, 400)), (193, (2, 12)), (194, (0, 12)), (195, (0, 12)), (196, (0, 12))]
def zL2 : List (Nat × Nat × Nat) := (List.range 20).flatMap fun t => [(31 + 5 * t, (15, 0)), (31 + 5 * t + 1, (0, 10)), (31 + 5 * t + 2, (0, 10)), (31 + 5 * t + 3, (0, 100)), (31 + 5 * t + 4, (0, 10))]
def zL3 : List (Nat × Nat × Nat) := (List.range 12).flatMap fun t => [(131 + 2 * t, (12, 0)), (131 + 2 * t + 1, (0, 6))]
def zL4 : List (Nat × Nat × Nat) := [(197, (19, 0)), (198, (1, 400)), (199, (0, 2400)), (200, (0, 7)), (201, (0, 360)), (202, (0, 6)), (203, (0, 148)), (204, (0, 400)), (205, (3, 64)), (206, (3, 12)), (207, (0, 2788)), (208, (0, 6)), (209, (0, 11)), (210, (0, 10)), (211, (0, 12)), (212, (2, 500)), (213, (0, 100)), (214, (0, 1024)), (215, (0, 1024)), (216, (0, 1024)), (217, (0, 10)), (218, (0, 10)), (219, (0, 2001)), (220, (0, 2001)), (221, (0, 2001)), (222, (0, 2001)), (223, (0, 2001)), (224, (0, 4096)), (225, (0, 8)), (226, (0, 348)), (227, (0, 11152)), (228, (2, 4))]
theorem zL1_ok {σ s : qx_S} (a : i11P zT0 σ s) : ∀ q ∈ zL1, s.2.2.1 q.1 = q.2 := List.forall_mem_cons.mpr ⟨a.2.2.1.1, List.forall_mem_cons.mpr ⟨a.2.2.1.2.1.1, List.forall_mem_cons.mpr ⟨a.2.2.1.2.1.2.1, List.forall_mem_cons.mpr ⟨a.2.2.1.2.1.2.2.1, List.forall_mem_cons.mpr ⟨a.2.2.1.2.1.2.2.2.1, List.forall_mem_cons.mpr ⟨a.2.2.1.2.1.2.2.2.2, List.forall_mem_cons.mpr ⟨a.2.2.1.2.2.1.1, List.forall_mem_cons.mpr ⟨a.2.2.1.2.2.1.2.1, List.forall_mem_cons.mpr ⟨a.2.2.1.2.2.1.2.2.1, List.forall_mem_cons.mpr ⟨a.2.2.1.2.2.1.2.2.2.1, List.forall_mem_cons.mpr ⟨a.2.2.1.2.2.1.2.2.2.2, List.forall_mem_cons.mpr ⟨a.2.2.1.2.2.2.1, List.forall_mem_cons.mpr ⟨a.2.2.1.2.2.2.2.1, List.forall_mem_cons.mpr ⟨a.2.2.1.2.2.2.2.2.1.1, List.forall_mem_cons.mpr ⟨a.2.2.1.2.2.2.2.2.1.2.1, List.forall_mem_cons.mpr ⟨a.2.2.1.2.2.2.2.2.1.2.2.1, List.forall_mem_cons.mpr ⟨a.2.2.1.2.2.2.2.2.1.2.2.2.1, List.forall_mem_cons.mpr ⟨a.2.2.1.2.2.2.2.2.1.2.2.2.2, List.forall_mem_cons.mpr ⟨a.2.2.1.2.2.2.2.2.2.1.1, List.forall_mem_cons.mpr ⟨a.2.2.1.2.2.2.2.2.2.1.2.1, List.forall_mem_cons.mpr ⟨a.2.2.1.2.2.2.2.2.2.1.2.2.1, List.forall_mem_cons.mpr ⟨a.2.2.1.2.2.2.2.2.2.1.2.2.2.1, List.forall_mem_cons.mpr ⟨a.2.2.1.2.2.2.2.2.2.1.2.2.2.2, List.forall_mem_cons.mpr ⟨a.2.2.1.2.2.2.2.2.2.2.1, List.forall_mem_cons.mpr ⟨a.2.2.1.2.2.2.2.2.2.2.2.1.1, List.forall_mem_cons.mpr ⟨a.2.2.1.2.2.2.2.2.2.2.2.1.2, List.forall_mem_cons.mpr ⟨a.2.2.1.2.2.2.2.2.2.2.2.2.1, List.forall_mem_cons.mpr ⟨a.2.2.1.2.2.2.2.2.2.2.2.2.2.1, List.forall_mem_cons.mpr ⟨a.2.2.2.1.1, List.forall_mem_cons.mpr ⟨a.2.2.2.1.2.1.1, List.forall_mem_cons.mpr ⟨a.2.2.2.1.2.1.2.1, List.forall_mem_cons.mpr ⟨a.2.2.2.1.2.1.2.2.1, List.forall_mem_cons.mpr ⟨a.2.2.2.1.2.1.2.2.2, List.forall_mem_cons.mpr ⟨a.2.2.2.1.2.2.1.1, List.forall_mem_cons.mpr ⟨a.2.2.2.1.2.2.1.2.1, List.forall_mem_cons.mpr ⟨a.2.2.2.1.2.2.1.2.2.1, List.forall_mem_cons.mpr ⟨a.2.2.2.1.2.2.1.2.2.2.1, List.forall_mem_cons.mpr ⟨a.2.2.2.1.2.2.1.2.2.2.2.1, List.forall_mem_cons.mpr ⟨a.2.2.2.1.2.2.1.2.2.2.2.2.1, List.forall_mem_cons.mpr ⟨a.2.2.2.1.2.2.1.2.2.2.2.2.2.1, List.forall_mem_cons.mpr ⟨a.2.2.2.1.2.2.1.2.2.2.2.2.2.2.1, List.forall_mem_cons.mpr ⟨a.2.2.2.1.2.2.1.2.2.2.2.2.2.2.2.1, List.forall_mem_cons.mpr ⟨a.2.2.2.1.2.2.1.2.2.2.2.2.2.2.2.2.1, List.forall_mem_cons.mpr ⟨a.2.2.2.1.2.2.1.2.2.2.2.2.2.2.2.2.2.1, List.forall_mem_cons.mpr ⟨a.2.2.2.1.2.2.1.2.2.2.2.2.2.2.2.2.2.2.1, List.forall_mem_cons.mpr ⟨a.2.2.2.1.2.2.1.2.2.2.2.2.2.2.2.2.2.2.2.1, List.forall_mem_cons.mpr ⟨a.2.2.2.1.2.2.1.2.2.2.2.2.2.2.2.2.2.2.2.2, List.forall_mem_cons.mpr ⟨a.2.2.2.1.2.2.2.1.1, List.forall_mem_cons.mpr ⟨a.2.2.2.1.2.2.2.1.2.1, List.forall_mem_cons.mpr ⟨a.2.2.2.1.2.2.2.1.2.2.1, List.forall_mem_cons.mpr ⟨a.2.2.2.1.2.2.2.1.2.2.2.1, List.forall_mem_cons.mpr ⟨a.2.2.2.1.2.2.2.1.2.2.2.2.1, List.forall_mem_cons.mpr ⟨a.2.2.2.1.2.2.2.1.2.2.2.2.2, List.forall_mem_cons.mpr ⟨a.2.2.2.1.2.2.2.2.1.1, List.forall_mem_cons.mpr ⟨a.2.2.2.1.2.2.2.2.1.2.1, List.forall_mem_cons.mpr ⟨a.2.2.2.1.2.2.2.2.1.2.2.1, List.forall_mem_cons.mpr ⟨a.2.2.2.1.2.2.2.2.1.2.2.2.1, List.forall_mem_cons.mpr ⟨a.2.2.2.1.2.2.2.2.1.2.2.2.2, List.forall_mem_cons.mpr ⟨a.2.2.2.1.2.2.2.2.2.1, List.forall_mem_cons.mpr ⟨a.2.2.2.1.2.2.2.2.2.2, List.forall_mem_cons.mpr ⟨a.2.2.2.2.1.1, List.forall_mem_cons.mpr ⟨a.2.2.2.2.1.2.1, List.forall_mem_cons.mpr ⟨a.2.2.2.2.1.2.2.1, List.forall_mem_cons.mpr ⟨a.2.2.2.2.1.2.2.2.1, List.forall_mem_cons.mpr ⟨a.2.2.2.2.1.2.2.2.2.1, List.forall_mem_cons.mpr ⟨a.2.2.2.2.1.2.2.2.2.2.1, List.forall_mem_cons.mpr ⟨a.2.2.2.2.1.2.2.2.2.2.2.1, List.forall_mem_cons.mpr ⟨a.2.2.2.2.1.2.2.2.2.2.2.2.1, List.forall_mem_cons.mpr ⟨a.2.2.2.2.1.2.2.2.2.2.2.2.2.1, List.forall_mem_cons.mpr ⟨a.2.2.2.2.1.2.2.2.2.2.2.2.2.2, fun _ h => absurd h List.not_mem_nil⟩⟩⟩⟩⟩⟩⟩⟩⟩⟩⟩⟩⟩⟩⟩⟩⟩⟩⟩⟩⟩⟩⟩⟩⟩⟩⟩⟩⟩⟩⟩⟩⟩⟩⟩⟩⟩⟩⟩⟩⟩⟩⟩⟩⟩⟩⟩⟩⟩⟩⟩⟩⟩⟩⟩⟩⟩⟩⟩⟩⟩⟩⟩⟩⟩⟩⟩⟩⟩⟩
theorem zL2_ok {σ s : qx_S} (a : i11P zT0 σ s) : ∀ q ∈ zL2, s.2.2.1 q.1 = q.2 := by
  intro q hq
  obtain ⟨t, ht, hq⟩ := List.mem_flatMap.mp hq
  have h := (a.2.2.1.2.2.2.2.2.2.2.2.2.2.2.1 t (List.mem_range.mp ht)).2
  rcases List.mem_cons.mp hq with rfl | hq
  · exact h.1
  rcases List.mem_cons.mp hq with rfl | hq
  · exact h.2.1
  rcases List.mem_cons.mp hq with rfl | hq
  · exact h.2.2.1
  rcases List.mem_cons.mp hq with rfl | hq
  · exact h.2.2.2.1
  rcases List.mem_cons.mp hq with rfl | hq
  · exact h.2.2.2.2
  · cases hq
theorem zL3_ok {σ s : qx_S} (a : i11P zT0 σ s) : ∀ q ∈ zL3, s.2.2.1 q.1 = q.2 := by
  intro q hq
  obtain ⟨t, ht, hq⟩ := List.mem_flatMap.mp hq
  have h := (a.2.2.1.2.2.2.2.2.2.2.2.2.2.2.2 t (List.mem_range.mp ht)).2
  rcases List.mem_cons.mp hq with rfl | hq
  · exact h.1
  rcases List.mem_cons.mp hq with rfl | hq
  · exact h.2
  · cases hq
theorem zL4_ok {σ s : qx_S} (b : i12P zT0 σ s) : ∀ q ∈ zL4, s.2.2.1 q.1 = q.2 := List.forall_mem_cons.mpr ⟨b.2.2.1, List.forall_mem_cons.mpr ⟨b.2.2.2.1.1, List.forall_mem_cons.mpr ⟨b.2.2.2.1.2.1, List.forall_mem_cons.mpr ⟨b.2.2.2.1.2.2.1, List.forall_mem_cons.mpr ⟨b.2.2.2.1.2.2.2.1, List.forall_mem_cons.mpr ⟨b.2.2.2.1.2.2.2.2.1, List.forall_mem_cons.mpr ⟨b.2.2.2.1.2.2.2.2.2.1, List.forall_mem_cons.mpr ⟨b.2.2.2.1.2.2.2.2.2.2.1, List.forall_mem_cons.mpr ⟨b.2.2.2.1.2.2.2.2.2.2.2.1, List.forall_mem_cons.mpr ⟨b.2.2.2.1.2.2.2.2.2.2.2.2.1, List.forall_mem_cons.mpr ⟨b.2.2.2.1.2.2.2.2.2.2.2.2.2.1, List.forall_mem_cons.mpr ⟨b.2.2.2.1.2.2.2.2.2.2.2.2.2.2.1, List.forall_mem_cons.mpr ⟨b.2.2.2.1.2.2.2.2.2.2.2.2.2.2.2.1, List.forall_mem_cons.mpr ⟨b.2.2.2.1.2.2.2.2.2.2.2.2.2.2.2.2.1, List.forall_mem_cons.mpr ⟨b.2.2.2.1.2.2.2.2.2.2.2.2.2.2.2.2.2.1, List.forall_mem_cons.mpr ⟨b.2.2.2.1.2.2.2.2.2.2.2.2.2.2.2.2.2.2.1, List.forall_mem_cons.mpr ⟨b.2.2.2.1.2.2.2.2.2.2.2.2.2.2.2.2.2.2.2.1, List.forall_mem_cons.mpr ⟨b.2.2.2.1.2.2.2.2.2.2.2.2.2.2.2.2.2.2.2.2.1, List.forall_mem_cons.mpr ⟨b.2.2.2.1.2.2.2.2.2.2.2.2.2.2.2.2.2.2.2.2.2.1, List.forall_mem_cons.mpr ⟨b.2.2.2.1.2.2.2.2.2.2.2.2.2.2.2.2.2.2.2.2.2.2.1, List.forall_mem_cons.mpr ⟨b.2.2.2.1.2.2.2.2.2.2.2.2.2.2.2.2.2.2.2.2.2.2.2.1, List.forall_mem_cons.mpr ⟨b.2.2.2.1.2.2.2.2.2.2.2.2.2.2.2.2.2.2.2.2.2.2.2.2.1, List.forall_mem_cons.mpr ⟨b.2.2.2.1.2.2.2.2.2.2.2.2.2.2.2.2.2.2.2.2.2.2.2.2.2.1, List.forall_mem_cons.mpr ⟨b.2.2.2.1.2.2.2.2.2.2.2.2.2.2.2.2.2.2.2.2.2.2.2.2.2.2.1, List.forall_mem_cons.mpr ⟨b.2.2.2.1.2.2.2.2.2.2.2.2.2.2.2.2.2.2.2.2.2.2.2.2.2.2.2.1, List.forall_mem_cons.mpr ⟨b.2.2.2.1.2.2.2.2.2.2.2.2.2.2.2.2.2.2.2.2.2.2.2.2.2.2.2.2.1, List.forall_mem_cons.mpr ⟨b.2.2.2.1.2.2.2.2.2.2.2.2.2.2.2.2.2.2.2.2.2.2.2.2.2.2.2.2.2.1, List.forall_mem_cons.mpr ⟨b.2.2.2.1.2.2.2.2.2.2.2.2.2.2.2.2.2.2.2.2.2.2.2.2.2.2.2.2.2.2.1, List.forall_mem_cons.mpr ⟨b.2.2.2.1.2.2.2.2.2.2.2.2.2.2.2.2.2.2.2.2.2.2.2.2.2.2.2.2.2.2.2.1, List.forall_mem_cons.mpr ⟨b.2.2.2.1.2.2.2.2.2.2.2.2.2.2.2.2.2.2.2.2.2.2.2.2.2.2.2.2.2.2.2.2.1, List.forall_mem_cons.mpr ⟨b.2.2.2.1.2.2.2.2.2.2.2.2.2.2.2.2.2.2.2.2.2.2.2.2.2.2.2.2.2.2.2.2.2.1, List.forall_mem_cons.mpr ⟨b.2.2.2.1.2.2.2.2.2.2.2.2.2.2.2.2.2.2.2.2.2.2.2.2.2.2.2.2.2.2.2.2.2.2, fun _ h => absurd h List.not_mem_nil⟩⟩⟩⟩⟩⟩⟩⟩⟩⟩⟩⟩⟩⟩⟩⟩⟩⟩⟩⟩⟩⟩⟩⟩⟩⟩⟩⟩⟩⟩⟩⟩
theorem zL_chk : ∀ a, a < 229 → (match qc_T a with
  | none => true
  | some q => decide ((a, q) ∈ zL1 ++ zL2 ++ zL3 ++ zL4)) = true := by decide +kernel
theorem zL_low : ∀ q ∈ zL1 ++ zL2 ++ zL3, q.1 < 197 := by decide +kernel
/-- the constructors' cells have the shapes of the table -/
theorem z_T {σ1 s1 σ2 s : qx_S} (a : i11P zT0 σ1 s1) (e2 : σ2 = qx_al s1 (51, 0) 53) (b : i12P zT0 σ2 s) : ∀ x, qx_sh qc_T s x = s.2.2.1 x := by
  intro x
  unfold qx_sh
  cases hq : qc_T x with
  | none => rfl
  | some q =>
    have hx : x < 229 := by
      rcases Nat.lt_or_ge x 229 with z | z
      · exact z
      · rw [qc_hi z] at hq
        cases hq
    have h := zL_chk x hx
    rw [hq] at h
    have h : (x, q) ∈ zL1 ++ zL2 ++ zL3 ++ zL4 := of_decide_eq_true h
    rcases List.mem_append.mp h with h | h
    · have hl : x < 197 := zL_low _ h
      have h3 : s1.2.2.1 x = q := by
        rcases List.mem_append.mp h with h | h
        · rcases List.mem_append.mp h with h | h
          · exact zL1_ok a _ h
          · exact zL2_ok a _ h
        · exact zL3_ok a _ h
      have h4 : s.2.2.1 x = σ2.2.2.1 x := b.2.1.1.2.1 x hl
      have h5 : σ2.2.2.1 x = s1.2.2.1 x := ka_d e2 (by rw [a.1.1]; omega)
      exact (h4.trans (h5.trans h3)).symm
    · exact (zL4_ok b _ h).symm
theorem hS1.L {s1 s : qx_S} {b : Nat} (h : hS1 zT0 s1 b) (e : ∀ x, b ≤ x → x < b + 5 → qx_sh qc_T s x = qx_sh zT0 s1 x) : shL s b := ⟨(e _ (by omega) (by omega)).trans h.1, (e _ (by omega) (by omega)).trans h.2.1, (e _ (by omega) (by omega)).trans h.2.2.1, (e _ (by omega) (by omega)).trans h.2.2.2.1, (e _ (by omega) (by omega)).trans h.2.2.2.2⟩
theorem hS7.L {s1 s : qx_S} {b : Nat} (h : hS7 zT0 s1 b) (e : ∀ x, b ≤ x → x < b + 5 → qx_sh qc_T s x = qx_sh zT0 s1 x) : shS s b := ⟨(e _ (by omega) (by omega)).trans h.1, (e _ (by omega) (by omega)).trans h.2.1, (e _ (by omega) (by omega)).trans h.2.2.1, (e _ (by omega) (by omega)).trans h.2.2.2.1, (e _ (by omega) (by omega)).trans h.2.2.2.2⟩
theorem hS4.L {s1 s : qx_S} {b : Nat} (h : hS4 zT0 s1 b) (e : ∀ x, b ≤ x → x < b + 2 → qx_sh qc_T s x = qx_sh zT0 s1 x) : shG s b := ⟨(e _ (by omega) (by omega)).trans h.1, (e _ (by omega) (by omega)).trans h.2⟩
theorem hS8.L {s1 s : qx_S} (h : hS8 zT0 s1 15) (e : ∀ x, x < 197 → qx_sh qc_T s x = qx_sh zT0 s1 x) (r : ∀ x j, x < 197 → qx_mr s x j = qx_mr s1 x j) : cSh s 15 := by
  obtain ⟨a1, a2, a3, a4, a5, a6, a7, a8, a9⟩ := h
  exact ⟨(e _ (by omega)).trans a1, a2.L (fun x _ _ => e x (by omega)), a3.L (fun x _ _ => e x (by omega)), (e _ (by omega)).trans a4, a5.L (fun x _ _ => e x (by omega)), (e _ (by omega)).trans a6, (e _ (by omega)).trans a7, fun i hi => ⟨(r _ _ (by omega)).trans (a8 i hi).1, (a8 i hi).2.L (fun x _ _ => e x (by omega))⟩, fun i hi => ⟨(r _ _ (by omega)).trans (a9 i hi).1, (a9 i hi).2.L (fun x _ _ => e x (by omega))⟩⟩
/-- a state of which nothing is said -/
def zE (S : qS) : Prop := S 7 = -1 ∧ ∀ j, j ≠ 7 → S j = nI 0
theorem zE.n {S : qS} (h : zE S) {j : Nat} (hj : j ≠ 7) : s_n S j = 0 := by
  unfold s_n
  rw [h.2 j hj]
  rfl
theorem zE.e {S : qS} (h : zE S) {j : Nat} (hj : j ≠ 7) : S j = nI (s_n S j) := by rw [h.n hj, h.2 j hj]
theorem zE.w {S : qS} (h : zE S) (i : Nat) : q_nw S i = nI 0 := by
  unfold q_nw
  split
  · exact h.2 _ (by omega)
  split
  · exact h.2 _ (by omega)
  split
  · exact h.2 _ (by omega)
  split
  · exact h.2 _ (by omega)
  · exact h.2 _ (by omega)
theorem zE.no {S : qS} (h : zE S) {j p : Nat} {P : Prop} (hj : j ≠ 7) (hp : p < s_n S j) : P := absurd hp (by rw [h.n hj]; exact Nat.not_lt_zero _)
theorem zE.T {S : qS} (h : zE S) : gT S := by
  have n0 : s_n S 0 ≤ 8 := by rw [h.n (by decide)]; decide
  have n1 : s_n S 1 ≤ 10 := by rw [h.n (by decide)]; decide
  have n2 : s_n S 2 ≤ 8 := by rw [h.n (by decide)]; decide
  have n4 : s_n S 4 ≤ 6 := by rw [h.n (by decide)]; decide
  have n5 : s_n S 5 ≤ 12 := by rw [h.n (by decide)]; decide
  have n9 : s_n S 9 ≤ 20 := by rw [h.n (by decide)]; decide
  refine ⟨⟨⟨⟨h.e (by decide), n0⟩, ⟨h.e (by decide), n1⟩, ⟨h.e (by decide), n2⟩⟩, ⟨⟨h.e (by decide), n0⟩, ⟨h.e (by decide), n1⟩, fun p hp => h.no (by decide) hp⟩, fun p hp => h.no (by decide) hp⟩, fun p k _ _ _ => h.w _, ⟨h.e (by decide), n4, fun k hk => h.no (by decide) hk⟩, ⟨h.e (by decide), n5, fun k hk => h.no (by decide) hk⟩, ⟨h.e (by decide), n9⟩, fun u hu => h.no (by decide) hu⟩
theorem zE.X {S : qS} (h : zE S) : gX S 0 :=
  ⟨fun a b ha _ _ => h.no (by decide) ha, ⟨fun u hu => h.no (by decide) hu, fun p hp => h.no (by decide) hp, fun j hj => h.2 j (by omega)⟩, ⟨h.e (by decide), by rw [h.n (by decide)]; decide, fun c hc => h.no (by decide) hc⟩, fun p hp => h.no (by decide) hp, fun p hp => h.no (by decide) hp, ⟨0, by decide, h.2 8 (by decide)⟩, ⟨0, by decide, h.2 3 (by decide)⟩, Or.inl h.1⟩
/-- THE START: class and reference side by side -/
theorem z_init {σ1 s1 σ2 s : qx_S} (h1 : σ1.2.1 = 19) (a : i11P zT0 σ1 s1) (e2 : σ2 = qx_al s1 (51, 0) 53) (b : i12P zT0 σ2 s) : zZ 6 s := by
  have T := z_T a e2 b
  have na : s1.1 = 197 := a.1.1
  have n1 : s.1 = 229 := b.1.1
  have m1 : s.2.1 = σ2.2.1 + 35929 := b.1.2
  have m2 : σ2.2.1 = s1.2.1 + 53 := ka_2 e2
  have m3 : s1.2.1 = σ1.2.1 + 9854 := a.1.2
  have lo : ∀ x j, x < 197 → qx_mi s x j = qx_mi s1 x j := fun x j hx => (b.2.1.1.i hx).trans (ka_i e2 (by rw [na]; omega))
  have lr : ∀ x j, x < 197 → qx_mr s x j = qx_mr s1 x j := fun x j hx => (b.2.1.1.r hx).trans (ka_r e2 (by rw [na]; omega))
  have sh : ∀ x, x < 197 → qx_sh qc_T s x = qx_sh zT0 s1 x := fun x hx => (T x).trans ((b.2.1.1.2.1 x hx).trans (ka_d e2 (by rw [na]; omega)))
  have z1 : ∀ x j, 3 ≤ x → x < 197 → pL l11 x j = false → qx_mi s x j = nI 0 := fun x j h3 h4 h5 => (lo x j h4).trans (a.2.1.2 x j h3 (by rw [na]; omega) h5)
  have z2 : ∀ x j, 197 ≤ x → x < 229 → pL l12 x j = false → qx_mi s x j = nI 0 := fun x j h3 h4 h5 => b.2.1.2 x j h3 (by rw [n1]; omega) h5
  obtain ⟨S, eS⟩ : ∃ S, qx_mi s 207 = S := ⟨_, rfl⟩
  have hE : zE S := by
    rw [← eS]
    exact ⟨b.2.2.2.2.2, fun j hj => z2 207 j (by decide) (by decide) (pL_ne (by simp; omega))⟩
  obtain ⟨-, -, ⟨c1, c2, c3, c4, c5⟩, -, ⟨-, -, -, -, d5⟩, ⟨r1, r2, r3, r4, r5, r6, r7, r8⟩, v1, v2, v3, v4, v5⟩ := a
  have rf : q_rf 0 (fun _ => ((0, 0, fun _ => 0, fun _ => (false, 0, 0, 0)) : qR)) (S 7) = none := by
    rw [hE.1]
    rfl
  have q17 : qx_mr s 3 17 = none := (lr 3 17 (by decide)).trans r7
  have q18 : qx_mr s 3 18 = none := (lr 3 18 (by decide)).trans r8
  have q5 : qx_mr s 156 5 = none := (lr 156 5 (by decide)).trans r3
  have hI : cI s S none 1 := by
    refine ⟨hE.T, ?_, c5.L sh lr, (lr 156 6 (by decide)).trans r5, (lr 156 7 (by decide)).trans r4, Or.inl ⟨(lr 156 7 (by decide)).trans r4, (lo 15 9 (by decide)).trans v1⟩, ?_, Or.inl q5, by omega⟩
    · refine ⟨?_, ?_, ⟨0, by decide, z1 15 6 (by decide) (by decide) rfl, fun i hi => hE.no (by decide) hi⟩, ⟨(z1 27 1 (by decide) (by decide) rfl).trans (hE.2 4 (by decide)).symm, fun j hj => hE.no (j := 4) (by decide) hj⟩, fun i hi => hE.no (by decide) hi, fun p hp => hE.no (by decide) hp, ?_, ?_, ?_, ?_⟩
      · refine ⟨(z1 16 4 (by decide) (by decide) rfl).trans (hE.2 0 (by decide)).symm, (z1 16 5 (by decide) (by decide) rfl).trans (hE.2 1 (by decide)).symm, (z1 16 6 (by decide) (by decide) rfl).trans (hE.2 2 (by decide)).symm, fun p hp => hE.no (by decide) hp, fun p hp => hE.no (by decide) hp, fun k _ _ => z1 19 k (by decide) (by decide) rfl, fun q hq => ?_, 0, z1 16 7 (by decide) (by decide) rfl, by rw [hE.n (by decide)]; decide, fun p hp => hE.no (by decide) hp⟩
        rw [hE.n (by decide)]
        exact z1 20 q (by decide) (by decide) rfl
      · refine ⟨(z1 21 4 (by decide) (by decide) rfl).trans (hE.w _).symm, (z1 21 5 (by decide) (by decide) rfl).trans (hE.w _).symm, fun p hp => hE.no (by decide) hp, fun k _ => (z1 24 k (by decide) (by decide) rfl).trans (hE.w _).symm, fun p _ => ?_⟩
        rw [q_sum_0 10 (fun k _ => hE.w _)]
        exact z1 25 p (by decide) (by decide) rfl
      · exact (z1 15 7 (by decide) (by decide) rfl).trans (hE.2 9 (by decide)).symm
      · exact (z1 15 8 (by decide) (by decide) rfl).trans (hE.2 5 (by decide)).symm
      · exact ((lo 15 9 (by decide)).trans v1).trans hE.1.symm
      · exact (z1 15 10 (by decide) (by decide) rfl).trans (hE.2 8 (by decide)).symm
    · exact ⟨(lo 156 8 (by decide)).trans v3, ⟨by decide, by decide⟩, (lo 156 9 (by decide)).trans v4, fun p x q _ _ _ => ⟨0, z1 157 _ (by decide) (by decide) rfl, by decide, fun _ h => absurd h (by decide)⟩⟩
  have hLi : ∀ A w, A = 160 ∨ A = 174 → cLi s A S none 1 w := fun A w hA p hp => by
    rcases hA with rfl | rfl
    · exact ⟨0, z1 164 p (by decide) (by decide) rfl, by decide, fun _ h => absurd h (by decide)⟩
    · exact ⟨0, z1 178 p (by decide) (by decide) rfl, by decide, fun _ h => absurd h (by decide)⟩
  have hMs : cMs s S none 1 := by
    refine ⟨fun n _ _ => ⟨0, z1 166 n (by decide) (by decide) rfl, by decide, fun h => absurd h (by decide)⟩, ⟨q_M0 (fun _ => 0), ⟨fun j hj => (lo 169 j (by decide)).trans (v5 j hj), fun i hi => absurd hi (Nat.not_lt_zero _), z1 160 15 (by decide) (by decide) rfl, z1 160 16 (by decide) (by decide) rfl⟩, q_mo_0 _, q_mr_0 _⟩, 0, 0, by decide, z1 160 17 (by decide) (by decide) rfl, z1 160 18 (by decide) (by decide) rfl, by decide, fun h => absurd h (by decide)⟩
  refine ⟨S, 0, fun _ => (0, 0, fun _ => 0, fun _ => (false, 0, 0, 0)), (0, fun _ => 0), fun _ => none, 1, fun x => if 191 ≤ x ∧ x < 197 then 3 else 0, ?_, ?_, hE.X, fun k I _ h => by (cases h), by decide, ?_, ?_⟩
  · rw [zC, rf]
    refine ⟨⟨hI, ⟨0, z1 3 16 (by decide) (by decide) rfl, by decide, fun h => absurd h (by decide)⟩, hMs, hLi _ _ (Or.inl rfl), hLi _ _ (Or.inr rfl)⟩, ⟨Or.inl q17, fun x h => by rw [q17] at h; cases h⟩, ⟨Or.inl q18, fun x h => by rw [q18] at h; cases h⟩, ⟨⟨z1 3 15 (by decide) (by decide) rfl, by decide, fun i hi => absurd hi (Nat.not_lt_zero _)⟩, fun i y hi => absurd hi (Nat.not_lt_zero _)⟩, ⟨191, (lr 3 14 (by decide)).trans r6, ⟨by decide, by omega⟩, ?_, fun x h2 h3 => if_pos ⟨h2, by omega⟩⟩, ⟨z1 4 4 (by decide) (by decide) rfl, by decide, fun k hk => absurd hk (Nat.not_lt_zero _)⟩, fun k _ => ⟨fun _ => (lr 155 k (by decide)).trans (r2 k), fun I h => by (cases h)⟩, fun x h2 h3 => if_neg (by omega)⟩
    exact ⟨by decide, (sh _ (by decide)).trans d5.1, (sh _ (by decide)).trans d5.2.1, (sh _ (by decide)).trans d5.2.2.1, (sh _ (by decide)).trans d5.2.2.2.1, (sh _ (by decide)).trans d5.2.2.2.2.1, (sh _ (by decide)).trans d5.2.2.2.2.2⟩
  · exact ⟨eS, z2 197 2 (by decide) (by decide) rfl, b.2.2.2.2.1, fun t ht => absurd ht (Nat.not_lt_zero _), ⟨z2 197 1 (by decide) (by decide) rfl, by decide, fun k hk => absurd hk (Nat.not_lt_zero _)⟩, fun k _ => ⟨fun _ => z2 228 k (by decide) (by decide) rfl, fun I h => by (cases h)⟩⟩
  · unfold po qq
    rw [q5, q17, q18, m1, m2, m3, h1]
    decide
  · unfold pcl qq
    rw [q5, q17, q18, n1]
    decide
