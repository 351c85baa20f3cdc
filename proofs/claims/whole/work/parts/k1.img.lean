/-! THE CLASS: images -/
/-- shapes of what is no STATE's -/
def nK (q : Nat × Nat) : Prop := q = (13, 0) ∨ q = (0, 400) ∨ q = (2, 12) ∨ q = (0, 12) ∨ q = (0, 6400) ∨ q = (14, 0) ∨ q = (0, 2001) ∨ q = (0, 4096)
theorem cI.cgx {σ s : qx_S} {S : qS} {rf : Option qR} {e : Nat} (h : cI σ S rf e) (h1 : σ.1 ≤ s.1) (d : ∀ a, a < σ.1 → s.2.2.1 a = σ.2.2.1 a) (i : ∀ a j, a < σ.1 → (a < 229 ∨ nK (qx_sh qc_T σ a)) → qx_mi s a j = qx_mi σ a j) (r : ∀ a j, a = 14 ∨ a = 26 ∨ a = 29 ∨ a = 156 → qx_mr s a j = qx_mr σ a j) : cI s S rf e := by
  have h9 := h.2.2.2.2.2.2.2.2
  have sv : ∀ a, a < σ.1 → qx_sh qc_T s a = qx_sh qc_T σ a := fun a ha => kx_sh (d a ha)
  have lo : ∀ a j, a < 229 → qx_mi s a j = qx_mi σ a j := fun a j ha => i a j (by omega) (Or.inl ha)
  obtain ⟨a1, a2, a3, a4, a5, a6, a7, a8, a9⟩ := h
  refine ⟨a1, a2.fb a1.1.1 a1.b12 (fun y j h1 h2 => lo _ _ (by omega)), ?_, (r _ _ (by omega)).trans a4, ?_, ?_, ⟨(lo _ _ (by omega)).trans a7.1, a7.2.1, (lo _ _ (by omega)).trans a7.2.2.1, fun p a q hp ha hq => ?_⟩, ?_, by omega⟩
  · obtain ⟨b1, b2, b3, b4, b5, b6, b7, b8, b9⟩ := a3
    refine ⟨rfl, b2, b3, rfl, b5, rfl, rfl, fun i hi => ⟨(r _ _ (by omega)).trans (b8 i hi).1, ?_⟩, fun i hi => ⟨(r _ _ (by omega)).trans (b9 i hi).1, ?_⟩⟩
    · have w := (b8 i hi).2
      exact ⟨(sv _ (by omega)).trans w.1, (sv _ (by omega)).trans w.2.1, (sv _ (by omega)).trans w.2.2.1, (sv _ (by omega)).trans w.2.2.2.1, (sv _ (by omega)).trans w.2.2.2.2⟩
    · have w := (b9 i hi).2
      exact ⟨(sv _ (by omega)).trans w.1, (sv _ (by omega)).trans w.2⟩
  · cases rf with
    | none => exact (r _ _ (by omega)).trans a5
    | some R =>
      obtain ⟨x, h1', h2, h3, h4, h5⟩ := a5
      have h2b := h2.2
      refine ⟨x, (r _ _ (by omega)).trans h1', ⟨h2.1, by omega⟩, uR.sh h3 (fun y _ hy => sv _ (by omega)), h4.lo (fun y hy hy2 j => i _ _ (by omega) (Or.inr ?_)), h5⟩
      rcases (show y = x ∨ y = x + 1 ∨ y = x + 2 ∨ y = x + 3 ∨ y = x + 4 ∨ y = x + 5 by omega) with rfl | rfl | rfl | rfl | rfl | rfl
      · exact Or.inl h3.2.1
      · exact Or.inr (Or.inl h3.2.2.1)
      · exact Or.inr (Or.inr (Or.inl h3.2.2.2.1))
      · exact Or.inr (Or.inr (Or.inr (Or.inl h3.2.2.2.2.1)))
      · exact Or.inr (Or.inr (Or.inr (Or.inl h3.2.2.2.2.2.1)))
      · exact Or.inr (Or.inr (Or.inr (Or.inl h3.2.2.2.2.2.2)))
  · rw [show qx_mr s 156 7 = qx_mr σ 156 7 from r _ _ (by omega)]
    rcases a6 with ⟨a, b⟩ | ⟨g, nr, x, c1, c2, c3, c4, c5, c6⟩
    · exact Or.inl ⟨a, (lo _ _ (by omega)).trans b⟩
    · exact Or.inr ⟨g, nr, x, c1, (lo _ _ (by omega)).trans c2, (lo _ _ (by omega)).trans c3, c4, c5, (r _ _ (by omega)).trans c6⟩
  · obtain ⟨v, w1, w2⟩ := a7.2.2.2 p a q hp ha hq
    exact ⟨v, (lo _ _ (by omega)).trans w1, w2⟩
  · rcases a8 with t1 | ⟨t, t1⟩
    · exact Or.inl ((r _ _ (by omega)).trans t1)
    · refine Or.inr ⟨t, (r _ _ (by omega)).trans t1.1, t1.2.1, by have := t1.2.2.1; omega, (sv _ t1.2.2.1).trans t1.2.2.2.1, fun i' j x y hi hj hx hy => ?_⟩
      obtain ⟨v, w1, w2⟩ := t1.2.2.2.2 i' j x y hi hj hx hy
      exact ⟨v, (i _ _ t1.2.2.1 (Or.inr (Or.inr (Or.inr (Or.inr (Or.inr (Or.inl t1.2.2.2.1))))))).trans w1, w2⟩
/-- a STATE's cells -/
theorem shS.at {σ : qx_S} {a y : Nat} (h : shS σ a) (h1 : a ≤ y) (h2 : y ≤ a + 4) : ¬ nK (qx_sh qc_T σ y) := by
  rcases (show y = a ∨ y = a + 1 ∨ y = a + 2 ∨ y = a + 3 ∨ y = a + 4 by omega) with z | z | z | z | z <;> rw [z]
  · rw [h.1]; unfold nK; decide
  · rw [h.2.1]; unfold nK; decide
  · rw [h.2.2.1]; unfold nK; decide
  · rw [h.2.2.2.1]; unfold nK; decide
  · rw [h.2.2.2.2]; unfold nK; decide
theorem shL.at {σ : qx_S} {a y : Nat} (h : shL σ a) (h1 : a ≤ y) (h2 : y ≤ a + 4) : ¬ nK (qx_sh qc_T σ y) := by
  rcases (show y = a ∨ y = a + 1 ∨ y = a + 2 ∨ y = a + 3 ∨ y = a + 4 by omega) with z | z | z | z | z <;> rw [z]
  · rw [h.1]; unfold nK; decide
  · rw [h.2.1]; unfold nK; decide
  · rw [h.2.2.1]; unfold nK; decide
  · rw [h.2.2.2.1]; unfold nK; decide
  · rw [h.2.2.2.2]; unfold nK; decide
theorem shG.at {σ : qx_S} {a y : Nat} (h : shG σ a) (h1 : a ≤ y) (h2 : y ≤ a + 1) : ¬ nK (qx_sh qc_T σ y) := by
  rcases (show y = a ∨ y = a + 1 by omega) with z | z <;> rw [z]
  · rw [h.1]; unfold nK; decide
  · rw [h.2]; unfold nK; decide
theorem cSh.nk {σ : qx_S} {b y : Nat} (h : cSh σ b) (h1 : b ≤ y) (h2 : y ≤ b + 139) : ¬ nK (qx_sh qc_T σ y) := by
  obtain ⟨a1, a2, a3, a4, a5, a6, a7, a8, a9⟩ := h
  rcases (show y = b ∨ (b + 1 ≤ y ∧ y ≤ b + 5) ∨ (b + 6 ≤ y ∧ y ≤ b + 10) ∨ y = b + 11 ∨ (b + 12 ≤ y ∧ y ≤ b + 13) ∨ y = b + 14 ∨ y = b + 15 ∨ (b + 16 ≤ y ∧ y < b + 116) ∨ (b + 116 ≤ y ∧ y ≤ b + 139) by omega) with z | z | z | z | z | z | z | z | z
  · rw [z, a1]; unfold nK; decide
  · exact a2.at z.1 z.2
  · exact a3.at z.1 (by omega)
  · rw [z, a4]; unfold nK; decide
  · exact a5.at z.1 z.2
  · rw [z, a6]; unfold nK; decide
  · rw [z, a7]; unfold nK; decide
  · exact (a8 ((y - b - 16) / 5) (by omega)).2.at (by omega) (by omega)
  · exact (a9 ((y - b - 116) / 2) (by omega)).2.at (by omega) (by omega)
theorem cI.kT {σ s : qx_S} {S : qS} {rf : Option qR} {e b : Nat} (h : cI σ S rf e) (hb : cSh σ b) (hb2 : 229 ≤ b) (f : qf (kT9 b) σ s) : cI s S rf e :=
  h.cgx (Nat.le_of_eq f.1.symm) (fun a _ => by rw [f.2.2.1]) (fun a j _ hk => f.i _ _ (kT9_no (by
    rcases hk with z | z
    · omega
    · rcases Nat.lt_or_ge a b with w | w
      · exact Or.inl w
      · rcases Nat.lt_or_ge (b + 139) a with w2 | w2
        · exact Or.inr w2
        · exact absurd z (hb.nk w w2)))) (fun a j _ => f.r _ _)
theorem c_image_no {G : qx_G} {σ : qx_S} {x : Int32} (hx : q_in64 x.toInt64 (lN 0) (lN 3) = false) : qx_M G qc_T 3 YX11_image [.ref 3, .int x] σ (qr (-1) σ) := by
  have wi : ¬ x < nI 0 → x < nI 4 → q_in64 x.toInt64 (lN 0) (lN 3) = true := fun h1 h2 => by
    unfold q_in64
    have a : (lN 0 ≤ x.toInt64) := Int64.le_iff_toInt_le.mpr (by rw [Int32.toInt_toInt64]; have := Int32.le_iff_toInt_le.mp (Int32.not_lt.mp h1); exact this)
    have b : (x.toInt64 ≤ lN 3) := Int64.le_iff_toInt_le.mpr (by
      rw [Int32.toInt_toInt64]
      have h := Int32.lt_iff_toInt_lt.mp h2
      rw [show (nI 4).toInt = 4 from rfl] at h
      show x.toInt ≤ 3
      omega)
    rw [decide_eq_true a, decide_eq_true b]
    rfl
  refine qx_M_in rfl (Nat.le_of_ble_eq_true rfl) ?_
  refine qy_wp_ok (c := CX11_image) (cuts := [11]) vX11_image wX11_image 2000 0 _ _ _ ?_
  refine And.intro (fun h1 => ?_) (fun h1 => ?_)
  · skip
    refine Exists.intro ((-1)) (And.intro (by decide) ?_)
    exact ⟨rfl, rfl⟩
  · skip
    refine Exists.intro (nI 4) (And.intro rfl ?_)
    refine And.intro (fun h6 => ?_) (fun h6 => ?_)
    · skip
      rw [wi h1 h6] at hx; cases hx
    · skip
      refine Exists.intro ((-1)) (And.intro (by decide) ?_)
      exact ⟨rfl, rfl⟩
theorem cI.rg {σ : qx_S} {S : qS} {rf : Option qR} {e : Nat} (hI : cI σ S rf e) : qx_mi σ 21 5 = S 6 := hI.2.1.2.1.2.1
theorem im33 {G : qx_G} {σ : qx_S} {S : qS} {rf : Option qR} {e k b : Nat} (hI : cI σ S rf e) (hk : k < 4) (hr : qx_mr σ 155 k = some b) (hb : cSh σ b) (hb2 : 229 ≤ b) : qx_K G qc_T 3 RX11 YX11_image 33 [.ref 3, .int (nI k)] [] σ (fun r s => r = some (.int (S 6)) ∧ qf (kT9 b) σ s ∧ cSt s b S ∧ cI s S rf e) := by
  refine qy_wp_ok (c := CX11_image) (cuts := []) vX11_image wX11_image 2000 33 _ _ _ ?_
  refine And.intro rfl (Exists.intro 155 (And.intro rfl ?_))
  refine Exists.intro (k) (Exists.intro (some b) (Exists.intro 7 (And.intro rfl (And.intro ⟨⟨4, rfl, by omega, by decide⟩, by decide, by decide⟩ (And.intro hr ?_)))))
  refine And.intro rfl (Exists.intro 15 (And.intro rfl ?_))
  refine And.intro ((congrArg Prod.fst (hb.1)).trans rfl) (Exists.intro _ (And.intro (by decide) (qx_M_mono (c_copyT hb hI.2.2.1 (by omega) hI.2.1 hI.1) ?_)))
  rintro _ ρ ⟨rfl, fρ, gρ⟩
  refine And.intro rfl (Exists.intro 15 (And.intro rfl ?_))
  refine And.intro rfl (Exists.intro 21 (And.intro rfl ?_))
  refine And.intro rfl (Exists.intro 5 (Exists.intro (S 6) (And.intro rfl (And.intro ((hI.kT hb hb2 fρ).rg) ?_))))
  exact ⟨rfl, fρ, gρ, hI.kT hb hb2 fρ⟩
theorem c_image_old {G : qx_G} {σ : qx_S} {S : qS} {rf : Option qR} {e k b : Nat} (hI : cI σ S rf e) (hk : k < 4) (hr : qx_mr σ 155 k = some b) (hb : cSh σ b) (hb2 : 229 ≤ b) : qx_M G qc_T 3 YX11_image [.ref 3, .int (nI k)] σ (fun r s => r = some (.int (S 6)) ∧ qf (kT9 b) σ s ∧ cSt s b S ∧ cI s S rf e) := by
  refine qx_M_in rfl (Nat.le_of_ble_eq_true rfl) ?_
  refine qy_wp_ok (c := CX11_image) (cuts := [33]) vX11_image wX11_image 2000 0 _ _ _ ?_
  refine And.intro (fun h1 => ?_) (fun h1 => ?_)
  · skip
    have h1 := nI_ltT (a := k) (b := 0) (by omega) (by decide) h1
    exact absurd h1 (by omega)
  · skip
    have h1 := nI_ltF (a := k) (b := 0) (by omega) (by decide) h1
    refine Exists.intro (nI 4) (And.intro rfl ?_)
    refine And.intro (fun h6 => ?_) (fun h6 => ?_)
    · skip
      have h6 := nI_ltT (a := k) (b := 4) (by omega) (by decide) h6
      refine And.intro rfl (Exists.intro 155 (And.intro rfl ?_))
      refine Exists.intro (k) (Exists.intro (some b) (Exists.intro 7 (And.intro rfl (And.intro ⟨⟨4, rfl, by omega, by decide⟩, by decide, by decide⟩ (And.intro hr ?_)))))
      exact im33 hI hk hr hb hb2
    · skip
      have h6 := nI_ltF (a := k) (b := 4) (by omega) (by decide) h6
      exact absurd h6 (by omega)
/-- an image is made -/
def fIm (σ s : qx_S) (c k : Nat) : Prop := σ.1 = c ∧ s.1 = c + 140 ∧ s.2.1 = σ.2.1 + 3130 ∧ (∀ a, a < c → s.2.2.1 a = σ.2.2.1 a) ∧ (∀ a j, a < c → qx_mi s a j = qx_mi σ a j ∧ qx_ml s a j = qx_ml σ a j) ∧ (∀ a j, a < c → ¬ (a = 155 ∧ j = k) → qx_mr s a j = qx_mr σ a j) ∧ qx_mr s 155 k = some c ∧ cSh s c
theorem hS8.sh {s : qx_S} {b : Nat} (h : hS8 qc_T s b) : cSh s b := h
theorem c_image_new {G : qx_G} {σ : qx_S} {S : qS} {rf : Option qR} {e k : Nat} (hI : cI σ S rf e) (hk : k < 4) (hr : qx_mr σ 155 k = none) : qx_M G qc_T 3 YX11_image [.ref 3, .int (nI k)] σ (fun r s => r = some (.int (S 6)) ∧ ∃ c, fIm σ s c k ∧ cSt s c S ∧ cI s S rf e) := by
  have h229 := hI.2.2.2.2.2.2.2.2
  obtain ⟨c, hc⟩ : ∃ c, σ.1 = c := ⟨_, rfl⟩
  have nσ : σ.1 = c := hc
  have mσ : σ.2.1 = σ.2.1 + 0 := rfl
  have qσ : qh c σ σ := qh.rf
  have zσ : kz c (i8x c) σ := fun a j h1 h2 _ => absurd h2 (by omega)
  have hTc : ∀ a, c ≤ a → qc_T a = none := fun a ha => qc_hi (by omega)
  refine qx_M_in rfl (Nat.le_of_ble_eq_true rfl) ?_
  refine qy_wp_ok (c := CX11_image) (cuts := [33]) vX11_image wX11_image 2000 0 _ _ _ ?_
  refine And.intro (fun h1 => ?_) (fun h1 => ?_)
  · skip
    have h1 := nI_ltT (a := k) (b := 0) (by omega) (by decide) h1
    exact absurd h1 (by omega)
  · skip
    have h1 := nI_ltF (a := k) (b := 0) (by omega) (by decide) h1
    refine Exists.intro (nI 4) (And.intro rfl ?_)
    refine And.intro (fun h6 => ?_) (fun h6 => ?_)
    · skip
      have h6 := nI_ltT (a := k) (b := 4) (by omega) (by decide) h6
      refine And.intro rfl (Exists.intro 155 (And.intro rfl ?_))
      refine Exists.intro (k) (Exists.intro none (Exists.intro 7 (And.intro rfl (And.intro ⟨⟨4, rfl, by omega, by decide⟩, by decide, by decide⟩ (And.intro hr ?_)))))
      refine And.intro rfl (Exists.intro 155 (And.intro rfl ?_))
      obtain ⟨σ1, eσ1⟩ : ∃ zs, zs = qx_al σ (48, 0) 11 := ⟨_, rfl⟩
      refine Exists.intro c (Exists.intro σ1 (And.intro nσ (And.intro eσ1.symm ?_)))
      have nσ1 : σ1.1 = c + 1 := by have := ka_1 eσ1; omega
      have mσ1 : σ1.2.1 = σ.2.1 + 11 := by have := ka_2 eσ1; omega
      have qσ1 := qσ.al eσ1 (by omega)
      have zσ1 := zσ.al eσ1
      have yσ1 : qx_sh qc_T σ1 c = (48, 0) := ka_n eσ1 nσ (hTc _ (by omega))
      refine Exists.intro _ (And.intro (by decide) (qx_M_mono (c_i8 (by omega) hTc nσ1 (show qx_sh qc_T σ1 c = (48, 0) from yσ1) (fun j => (show qx_mi σ1 c j = nI 0 from ka_0 eσ1 nσ))) ?_))
      rintro _ σ2 ⟨rfl, hσ2, nσ2, mσ2, kσ2, aσ2, bσ2, sσ2⟩
      have nσ2 : σ2.1 = c + 140 := by omega
      have mσ2 : σ2.2.1 = σ.2.1 + 3130 := by omega
      have qσ2 := qσ1.tr (hσ2.mn (by omega))
      have zσ2 := zσ1.ca hσ2 (by omega) kσ2 (fun _ _ _ h => h)
      obtain ⟨σ3, eσ3⟩ : ∃ zs, zs = (qx_wr σ2 155 k (some c)) := ⟨_, rfl⟩
      refine Exists.intro (k) (Exists.intro σ3 (Exists.intro 7 (And.intro rfl (And.intro ⟨⟨4, rfl, by omega, by decide⟩, by decide, by decide⟩ (And.intro (by rw [show qx_sh qc_T _ c = _ from sσ2.1]; rfl) (And.intro eσ3.symm ?_))))))
      have nσ3 : σ3.1 = c + 140 := (by rw [eσ3]; exact nσ2)
      have mσ3 : σ3.2.1 = σ.2.1 + 3130 := (by rw [eσ3]; exact mσ2)
      have zσ3 := zσ2.wr eσ3
      have yσ3 : qx_sh qc_T σ3 c = (16, 0) := (kw_s eσ3).trans (sσ2.1)
      have hI3 : cI σ3 S rf e := hI.cgx (by omega) (fun a ha => by rw [eσ3]; exact qσ2.2.1 a (by omega)) (fun a j ha _ => (kw_i eσ3).trans (qσ2.i (by omega))) (fun a j ha => (kw_ne eσ3 (by omega)).trans (qσ2.r (by omega)))
      have hS3 : cSh σ3 c := by
        obtain ⟨b1, b2, b3, b4, b5, b6, b7, b8, b9⟩ := hS8.sh sσ2
        have ks : ∀ a, qx_sh qc_T σ3 a = qx_sh qc_T σ2 a := fun a => kw_s eσ3
        exact ⟨(ks _).trans b1, ⟨(ks _).trans b2.1, (ks _).trans b2.2.1, (ks _).trans b2.2.2.1, (ks _).trans b2.2.2.2.1, (ks _).trans b2.2.2.2.2⟩, ⟨(ks _).trans b3.1, (ks _).trans b3.2.1, (ks _).trans b3.2.2.1, (ks _).trans b3.2.2.2.1, (ks _).trans b3.2.2.2.2⟩, (ks _).trans b4, ⟨(ks _).trans b5.1, (ks _).trans b5.2⟩, (ks _).trans b6, (ks _).trans b7, fun i hi => ⟨(kw_ne eσ3 (Or.inl (by omega))).trans (b8 i hi).1, ⟨(ks _).trans (b8 i hi).2.1, (ks _).trans (b8 i hi).2.2.1, (ks _).trans (b8 i hi).2.2.2.1, (ks _).trans (b8 i hi).2.2.2.2.1, (ks _).trans (b8 i hi).2.2.2.2.2⟩⟩, fun i hi => ⟨(kw_ne eσ3 (Or.inl (by omega))).trans (b9 i hi).1, ⟨(ks _).trans (b9 i hi).2.1, (ks _).trans (b9 i hi).2.2⟩⟩⟩
      have key : qx_K G qc_T 3 RX11 YX11_image 33 [.ref 3, .int (nI k)] [] σ3 (fun r s => r = some (.int (S 6)) ∧ qf (kT9 c) σ3 s ∧ cSt s c S ∧ cI s S rf e) := im33 hI3 hk (kw_eq eσ3) hS3 (by omega)
      refine qx_K_mono key (fun r s h => ⟨h.1, c, ⟨hc, by rw [h.2.1.1]; exact nσ3, by rw [h.2.1.2.1]; exact mσ3, fun a ha => by rw [h.2.1.2.2.1, eσ3]; exact qσ2.2.1 a ha, fun a j ha => ⟨(h.2.1.i _ _ (kT9_no (Or.inl ha))).trans ((kw_i eσ3).trans (qσ2.i ha)), (h.2.1.l _ _ (kT9_no (Or.inl ha))).trans ((kw_l eσ3).trans (qσ2.l ha))⟩, fun a j ha hn => (h.2.1.r _ _).trans ((kw_ne eσ3 (by omega)).trans (qσ2.r ha)), (h.2.1.r _ _).trans (kw_eq eσ3), hS3.fr h.2.1⟩, h.2.2⟩)
    · skip
      have h6 := nI_ltF (a := k) (b := 4) (by omega) (by decide) h6
      exact absurd h6 (by omega)
/-! gone back to -/
theorem rfv {s : qx_S} {nr : Nat} {Rs : Nat → qR} {x : Int32} (hR : cRl s nr Rs) (h9 : qx_mi s 15 9 = x) (hx : x = -1 ∨ q_is x nr = true) : ∃ v, inF s v ∧ cRv s v (q_rf nr Rs x) := by
  have h6 := hR.2.1
  cases hb : q_is x nr with
  | false =>
    have z := hx.resolve_right (by rw [hb]; decide)
    refine ⟨none, Or.inl ⟨rfl, h9.trans z⟩, ?_⟩
    unfold q_rf
    rw [hb]
    exact rfl
  | true =>
    obtain ⟨k, hk, z⟩ := q_is_t hb (by omega)
    obtain ⟨y, y1, y2, y3, y4, y5⟩ := hR.2.2 k hk
    refine ⟨some y, Or.inr ⟨k, nr, y, rfl, h9.trans z, hR.1, h6, hk, y1⟩, ?_⟩
    unfold q_rf
    rw [hb, z, nI_clamp (by omega)]
    exact ⟨y, rfl, y2, y3, y4, y5⟩
theorem c_back_no {G : qx_G} {σ : qx_S} {x : Int32} (hx : q_in64 x.toInt64 (lN 0) (lN 3) = false) : qx_M G qc_T 3 YX11_back [.ref 3, .int x] σ (qr (-1) σ) := by
  have wi : ¬ x < nI 0 → ¬ nI 4 ≤ x → q_in64 x.toInt64 (lN 0) (lN 3) = true := fun h1 h2 => by
    unfold q_in64
    have a : (lN 0 ≤ x.toInt64) := Int64.le_iff_toInt_le.mpr (by rw [Int32.toInt_toInt64]; have := Int32.le_iff_toInt_le.mp (Int32.not_lt.mp h1); exact this)
    have b : (x.toInt64 ≤ lN 3) := Int64.le_iff_toInt_le.mpr (by
      rw [Int32.toInt_toInt64]
      have h := Int32.lt_iff_toInt_lt.mp (Int32.not_le.mp h2)
      rw [show (nI 4).toInt = 4 from rfl] at h
      show x.toInt ≤ 3
      omega)
    rw [decide_eq_true a, decide_eq_true b]
    rfl
  refine qx_M_in rfl (Nat.le_of_ble_eq_true rfl) ?_
  refine qy_wp_ok (c := CX11_back) (cuts := [9]) vX11_back wX11_back 2000 0 _ _ _ ?_
  refine And.intro (fun h1 => ?_) (fun h1 => ?_)
  · skip
    refine Exists.intro ((-1)) (And.intro (by decide) ?_)
    exact ⟨rfl, rfl⟩
  · skip
    refine Exists.intro (nI 4) (And.intro rfl ?_)
    refine And.intro (fun h6 => ?_) (fun h6 => ?_)
    · skip
      refine Exists.intro ((-1)) (And.intro (by decide) ?_)
      exact ⟨rfl, rfl⟩
    · skip
      rw [wi h1 h6] at hx; cases hx
theorem c_back_no2 {G : qx_G} {σ : qx_S} {k : Nat} (hk : k < 4) (hr : qx_mr σ 155 k = none) : qx_M G qc_T 3 YX11_back [.ref 3, .int (nI k)] σ (qr (-1) σ) := by
  refine qx_M_in rfl (Nat.le_of_ble_eq_true rfl) ?_
  refine qy_wp_ok (c := CX11_back) (cuts := []) vX11_back wX11_back 2000 0 _ _ _ ?_
  refine And.intro (fun h1 => ?_) (fun h1 => ?_)
  · skip
    have h1 := nI_ltT (a := k) (b := 0) (by omega) (by decide) h1
    exact absurd h1 (by omega)
  · skip
    have h1 := nI_ltF (a := k) (b := 0) (by omega) (by decide) h1
    refine Exists.intro (nI 4) (And.intro rfl ?_)
    refine And.intro (fun h6 => ?_) (fun h6 => ?_)
    · skip
      have h6 := nI_leT (a := 4) (b := k) (by decide) (by omega) h6
      exact absurd h6 (by omega)
    · skip
      have h6 := nI_leF (a := 4) (b := k) (by decide) (by omega) h6
      refine And.intro rfl (Exists.intro 155 (And.intro rfl ?_))
      refine Exists.intro (k) (Exists.intro none (Exists.intro 7 (And.intro rfl (And.intro ⟨⟨4, rfl, by omega, by decide⟩, by decide, by decide⟩ (And.intro hr ?_)))))
      refine Exists.intro ((-1)) (And.intro (by decide) ?_)
      exact ⟨rfl, rfl⟩
theorem c_back_ok {G : qx_G} {σ : qx_S} {S S' : qS} {rf : Option qR} {e k b nr : Nat} {Rs : Nat → qR} (hI : cI σ S rf e) (he : e + 1 ≤ 1000) (hR : cRl σ nr Rs) (hk : k < 4) (hr : qx_mr σ 155 k = some b) (hb : cSh σ b) (hb2 : 229 ≤ b) (hS : cSt σ b S') (g : gT S') (hf : S' 7 = -1 ∨ q_is (S' 7) nr = true) : qx_M G qc_T 3 YX11_back [.ref 3, .int (nI k)] σ (fun r s => r = some (.int (S' 6)) ∧ (∃ s1 v, qf (kT9 15) σ s1 ∧ s = qx_wi (qx_wr s1 156 7 v) 156 8 (nI (e + 1))) ∧ cI s S' (q_rf nr Rs (S' 7)) (e + 1)) := by
  have h9 := hI.2.2.2.2.2.2.2.2
  have cp := c_copyT (G := G) hI.2.2.1 hb (by omega) hS g
  have key : ∀ s1, qf (kT9 15) σ s1 → cSt s1 15 S' → ∃ v, inF s1 v ∧ cRv s1 v (q_rf nr Rs (S' 7)) := by
    intro s1 f c
    refine rfv ⟨(f.i _ _ (kT9_no (by omega))).trans hR.1, hR.2.1, fun i hi => ?_⟩ c.2.2.2.2.2.2.2.2.1 hf
    obtain ⟨y, y1, y2, y3, y4, y5⟩ := hR.2.2 i hi
    exact ⟨y, (f.r _ _).trans y1, by rw [f.1]; exact y2, y3.fr f, y4.lo (fun z hz _ j => f.i _ _ (kT9_no (by omega))), y5⟩
  refine qx_M_in rfl (Nat.le_of_ble_eq_true rfl) ?_
  refine qy_wp_ok (c := CX11_back) (cuts := []) vX11_back wX11_back 2000 0 _ _ _ ?_
  refine And.intro (fun h1 => ?_) (fun h1 => ?_)
  · skip
    have h1 := nI_ltT (a := k) (b := 0) (by omega) (by decide) h1
    exact absurd h1 (by omega)
  · skip
    have h1 := nI_ltF (a := k) (b := 0) (by omega) (by decide) h1
    refine Exists.intro (nI 4) (And.intro rfl ?_)
    refine And.intro (fun h6 => ?_) (fun h6 => ?_)
    · skip
      have h6 := nI_leT (a := 4) (b := k) (by decide) (by omega) h6
      exact absurd h6 (by omega)
    · skip
      have h6 := nI_leF (a := 4) (b := k) (by decide) (by omega) h6
      refine And.intro rfl (Exists.intro 155 (And.intro rfl ?_))
      refine Exists.intro (k) (Exists.intro (some b) (Exists.intro 7 (And.intro rfl (And.intro ⟨⟨4, rfl, by omega, by decide⟩, by decide, by decide⟩ (And.intro hr ?_)))))
      refine And.intro rfl (Exists.intro 15 (And.intro rfl ?_))
      refine And.intro rfl (Exists.intro 155 (And.intro rfl ?_))
      refine Exists.intro (k) (Exists.intro (some b) (Exists.intro 7 (And.intro rfl (And.intro ⟨⟨4, rfl, by omega, by decide⟩, by decide, by decide⟩ (And.intro hr ?_)))))
      refine And.intro rfl (Exists.intro _ (And.intro (by decide) (qx_M_mono (cp) ?_)))
      rintro _ ρ ⟨rfl, fρ, gρ⟩
      obtain ⟨v, hv, hv2⟩ := key ρ fρ gρ
      have K1 : cK ρ e true (s_n S 1) (q_lk S rf) := ⟨(fρ.i _ _ (kT9_no (by omega))).trans hI.K.1, hI.K.2.1, (fρ.i _ _ (kT9_no (by omega))).trans hI.K.2.2.1, fun p a q hp ha hq => by
        obtain ⟨v, w1, w2⟩ := hI.K.2.2.2 p a q hp ha hq
        exact ⟨v, (fρ.i _ _ (kT9_no (by omega))).trans w1, w2⟩⟩
      have T1 : kTw ρ e (s_n S 1) (q_c2 S rf) := by
        rcases hI.T with t1 | ⟨t, t1⟩
        · exact Or.inl ((fρ.r _ _).trans t1)
        · refine Or.inr ⟨t, (fρ.r _ _).trans t1.1, t1.2.1, by rw [fρ.1]; exact t1.2.2.1, (fρ.s _).trans t1.2.2.2.1, fun i j x y hi hj hx hy => ?_⟩
          obtain ⟨v, w1, w2⟩ := t1.2.2.2.2 i j x y hi hj hx hy
          exact ⟨v, (fρ.i _ _ (kT9_no (by have := t1.2.1; omega))).trans w1, w2⟩
      refine And.intro rfl (Exists.intro _ (And.intro (by decide) (qx_M_mono (c_stirV K1.1 hv) ?_)))
      rintro _ μ ⟨rfl, eμ⟩
      refine And.intro rfl (Exists.intro 15 (And.intro rfl ?_))
      refine And.intro rfl (Exists.intro 21 (And.intro rfl ?_))
      refine And.intro rfl (Exists.intro 5 (Exists.intro (S' 6) (And.intro rfl (And.intro ((cI.nw g gρ (hI.2.2.1.fr fρ) ((fρ.r _ _).trans hI.2.2.2.1) K1 T1 (by rw [fρ.1]; exact h9) hv hv2 eμ he).rg) ?_))))
      exact ⟨rfl, ⟨ρ, v, fρ, eμ⟩, cI.nw g gρ (hI.2.2.1.fr fρ) ((fρ.r _ _).trans hI.2.2.2.1) K1 T1 (by rw [fρ.1]; exact h9) hv hv2 eμ he⟩

