theorem qx_ob_inv : ∀ (cs : List Nat) (k : Nat), qx_ob cs k = true → ∃ ci, ci ∈ cs ∧ (k = 8 + ci ∨ k = 40 + ci)
  | [], k, h => by cases h
  | ci :: r, k, h => by
    unfold qx_ob at h
    cases h1 : Nat.beq k (8 + ci) with
    | true => exact ⟨ci, List.mem_cons_self, Or.inl (qx_beq h1)⟩
    | false =>
      rw [h1] at h
      cases h2 : Nat.beq k (40 + ci) with
      | true => exact ⟨ci, List.mem_cons_self, Or.inr (qx_beq h2)⟩
      | false =>
        rw [h2] at h
        obtain ⟨x, h3, h4⟩ := qx_ob_inv r k h
        exact ⟨x, List.mem_cons_of_mem _ h3, h4⟩
theorem qx_obB_inv : ∀ (cs : List Nat) (k : Nat), qx_obB cs k = true → ∃ ci, ci ∈ cs ∧ k = 8 + ci
  | [], k, h => by cases h
  | ci :: r, k, h => by
    unfold qx_obB at h
    cases h1 : Nat.beq k (8 + ci) with
    | true => exact ⟨ci, List.mem_cons_self, qx_beq h1⟩
    | false =>
      rw [h1] at h
      obtain ⟨x, h3, h4⟩ := qx_obB_inv r k h
      exact ⟨x, List.mem_cons_of_mem _ h3, h4⟩
theorem qx_obU_inv : ∀ (cs : List Nat) (k : Nat), qx_obU cs k = true → ∃ ci, ci ∈ cs ∧ k = 40 + ci
  | [], k, h => by cases h
  | ci :: r, k, h => by
    unfold qx_obU at h
    cases h1 : Nat.beq k (40 + ci) with
    | true => exact ⟨ci, List.mem_cons_self, qx_beq h1⟩
    | false =>
      rw [h1] at h
      obtain ⟨x, h3, h4⟩ := qx_obU_inv r k h
      exact ⟨x, List.mem_cons_of_mem _ h3, h4⟩
/-- a field's link -/
def qx_lf (own : String) (idx k : Nat) (cs : List Nat) : Prop := ∀ ci ∈ cs, qx_fk ci k = qx_fk (cs.headD 0) k ∧ ∃ C T' N ty, qx_cf ci C T' N ty ∧ k < N ∧ qx_fw own idx T' k
def qx_lU (own : String) (Y : qx_Y) (idx k : Nat) (cs : List Nat) : Prop := Y.1.name = "<init>" ∧ ∀ ci ∈ cs, ((qx_fk ci k).1 = 3 ∨ (qx_fk ci k).1 = 4) ∧ ∃ C T' N ty, qx_cf ci C T' N ty ∧ k < N ∧ qx_fw own idx T' k ∧ qx_fU own idx T' k
theorem qx_fv_i {G : qx_G} {bt : Bool} {σ : qx_S} {ci a k : Nat} (h : (qx_fk ci k).1 = 0 ∨ (qx_fk ci k).1 = 5) : qx_fv G bt σ ci a k = .int (σ.2.2.2.1 a k) := by
  unfold qx_fv
  rcases h with h | h <;> rw [h] <;> rfl
theorem qx_fv_l {G : qx_G} {bt : Bool} {σ : qx_S} {ci a k : Nat} (h : (qx_fk ci k).1 = 1) : qx_fv G bt σ ci a k = .long (σ.2.2.2.2.1 a k) := by
  unfold qx_fv
  rw [h]
  rfl
theorem qx_fv_r {G : qx_G} {bt : Bool} {σ : qx_S} {ci a k : Nat} (h : (qx_fk ci k).1 = 2) : qx_fv G bt σ ci a k = va_rf ((σ.2.2.2.2.2 a k).map (qx_ad G)) := by
  unfold qx_fv
  rw [h]
  rfl
theorem qx_fv_3 {G : qx_G} {σ : qx_S} {ci a k : Nat} (h : (qx_fk ci k).1 = 3) : qx_fv G true σ ci a k = .ref (qx_ad G (a + (qx_fk ci k).2)) := by
  unfold qx_fv
  rw [h]
  rfl
theorem qx_fv_4 {G : qx_G} {σ : qx_S} {ci a k : Nat} (h : (qx_fk ci k).1 = 4) : qx_fv G true σ ci a k = .ref (qx_ad G (qx_fk ci k).2) := by
  unfold qx_fv
  rw [h]
  rfl
theorem qx_fv_U {G : qx_G} {σ : qx_S} {ci a k : Nat} (h : (qx_fk ci k).1 = 3 ∨ (qx_fk ci k).1 = 4) : qx_fv G false σ ci a k = va_rf ((σ.2.2.2.2.2 a k).map (qx_ad G)) := by
  unfold qx_fv
  rcases h with h | h <;> rw [h] <;> rfl
theorem qx_fv_same {G : qx_G} {bt : Bool} {σ σ1 : qx_S} {ci a j : Nat} (h1 : σ1.2.2.2.1 a j = σ.2.2.2.1 a j) (h2 : σ1.2.2.2.2.1 a j = σ.2.2.2.2.1 a j) (h3 : σ1.2.2.2.2.2 a j = σ.2.2.2.2.2 a j) : qx_fv G bt σ1 ci a j = qx_fv G bt σ ci a j := by
  unfold qx_fv
  rw [h1, h2, h3]
theorem qx_rf_pv (G : qx_G) (r : Option Nat) : va_rf (r.map (qx_ad G)) = qx_pv G (va_rf r) := by cases r <;> rfl
theorem qx_rr_inv {r : Option Nat} {K : Value → Prop} (h : qx_rr r K) : K (va_rf r) := by
  cases r with
  | none => exact h.1 rfl
  | some x => exact h.2 x rfl
/-- an object's cell, made or in the making -/
theorem qx_R.ob {G : qx_G} {T : qx_T} {s : State} {σ : qx_S} {H : Heap} (h : qx_R G T s σ H) {a ci : Nat} (hk : (qx_sh T σ a).1 = 8 + ci ∨ (qx_sh T σ a).1 = 40 + ci) (hc : ci < 12) : 3 ≤ a ∧ a < σ.1 ∧ ∃ bt, ((bt = true ↔ (qx_sh T σ a).1 = 8 + ci)) ∧ t_OB (qx_ad G a) ((qx_D G).1 ci) (qx_nf ci) ((qx_D G).2 ci) H (fun k => qx_fv G bt σ ci a k) := by
  rcases hk with hk | hk
  · obtain ⟨g1, g2, g3⟩ := h.obj hk hc
    exact ⟨g1, g2, true, ⟨fun _ => hk, fun _ => rfl⟩, g3⟩
  · obtain ⟨g1, g2, g3⟩ := h.objU hk hc
    exact ⟨g1, g2, false, ⟨fun z => (by cases z), fun z => (by omega)⟩, g3⟩
theorem qx_R.obset {G : qx_G} {T : qx_T} {s : State} {σ σ1 : qx_S} {H H1 : Heap} (h : qx_R G T s σ H) {a ci : Nat} {bt : Bool} (hk : (qx_sh T σ a).1 = 8 + ci ∨ (qx_sh T σ a).1 = 40 + ci) (hbt : bt = true ↔ (qx_sh T σ a).1 = 8 + ci) (hc : ci < 12) (g1 : 3 ≤ a) (e1 : σ1.1 = σ.1) (e2 : σ1.2.2.1 = σ.2.2.1) (hm : ∀ b, b ≠ a → σ1.2.2.2.1 b = σ.2.2.2.1 b ∧ σ1.2.2.2.2.1 b = σ.2.2.2.2.1 b ∧ σ1.2.2.2.2.2 b = σ.2.2.2.2.2 b)
    (hz : H1.size = H.size) (ho : ∀ q, q ≠ qx_ad G a → H1[q]? = H[q]?) (hO : t_OB (qx_ad G a) ((qx_D G).1 ci) (qx_nf ci) ((qx_D G).2 ci) H1 (fun k => qx_fv G bt σ1 ci a k)) : qx_R G T s σ1 H1 := by
  refine h.set g1 e1 e2 hm hz ho ?_
  unfold qx_at
  rcases hk with hk | hk
  · obtain rfl : bt = true := hbt.mpr hk
    rw [if_neg (by omega), if_neg (by omega), if_neg (by omega), if_pos (by omega), hk, show 8 + ci - 8 = ci by omega]
    exact hO
  · obtain rfl : bt = false := by
      cases bt with
      | false => rfl
      | true => have := hbt.mp rfl; omega
    rw [if_neg (by omega), if_neg (by omega), if_neg (by omega), if_neg (by omega), if_pos (by omega), hk, show 40 + ci - 40 = ci by omega]
    exact hO
/-- reading a field, by what it holds -/
theorem qx_getS {G : qx_G} {T : qx_T} {d : Nat} {own : String} {Y : qx_Y} {Φ : qx_F} {pc idx k a ci : Nat} {ls r : List Value} {σ : qx_S} {v : Value} {C : String} {T' : u_T} {N : Nat} {ty : Nat → FieldType} (hcf : qx_cf ci C T' N ty) (hkN : k < N) (hw : qx_fw own idx T' k) (hk : (qx_sh T σ a).1 = 8 + ci ∨ (qx_sh T σ a).1 = 40 + ci)
    (hV : ∀ bt, (bt = true ↔ (qx_sh T σ a).1 = 8 + ci) → qx_fv G bt σ ci a k = qx_pv G v) (hd : decode Y.2.1 pc = .ok (.getfield idx, 3)) (h : qx_K G T d own Y (pc + 3) ls (v :: r) σ Φ) : qx_K G T d own Y pc ls (.ref a :: r) σ Φ := by
  refine qx_go1 h (fun p e R s m args below meth c H locs cells slots lsA Q hcx hR hb hS hl k_ => ?_)
  obtain ⟨g1, g2, bt, hbt, hO⟩ := hR.ob hk hcf.lt
  rw [hcf.2.1] at hO
  refine qx_getW hcx hR.2.1 hR.2.2.2.2.1.2 hcf hkN hw hO hd ?_
  rw [hV bt hbt]
  exact k_
theorem qx_putS {G : qx_G} {T : qx_T} {d : Nat} {own : String} {Y : qx_Y} {Φ : qx_F} {pc idx k a ci : Nat} {ls r : List Value} {σ σ1 : qx_S} {v : Value} {C : String} {T' : u_T} {N : Nat} {ty : Nat → FieldType} (hcf : qx_cf ci C T' N ty) (hkN : k < N) (hw : qx_fw own idx T' k) (hk : (qx_sh T σ a).1 = 8 + ci ∨ (qx_sh T σ a).1 = 40 + ci) (hfin : (T' k).2.2.2 = false) (hnv : narrow (ty k) (qx_pv G v) = qx_pv G v) (hfit : fits (ty k) (qx_pv G v) = true)
    (e1 : σ1.1 = σ.1) (e0 : σ1.2.1 = σ.2.1) (e2 : σ1.2.2.1 = σ.2.2.1) (hsc : ∀ s H, qx_R G T s σ H → qx_sc T σ σ1) (hm : ∀ b, b ≠ a → σ1.2.2.2.1 b = σ.2.2.2.1 b ∧ σ1.2.2.2.2.1 b = σ.2.2.2.2.1 b ∧ σ1.2.2.2.2.2 b = σ.2.2.2.2.2 b) (hj : ∀ j, j ≠ k → σ1.2.2.2.1 a j = σ.2.2.2.1 a j ∧ σ1.2.2.2.2.1 a j = σ.2.2.2.2.1 a j ∧ σ1.2.2.2.2.2 a j = σ.2.2.2.2.2 a j)
    (hV : ∀ bt, (bt = true ↔ (qx_sh T σ a).1 = 8 + ci) → qx_fv G bt σ1 ci a k = qx_pv G v) (hd : decode Y.2.1 pc = .ok (.putfield idx, 3)) (h : qx_K G T d own Y (pc + 3) ls r σ1 Φ) : qx_K G T d own Y pc ls (v :: .ref a :: r) σ Φ := by
  refine qx_goM h e1 e0 hsc (fun p e R s m args below meth c H locs cells slots lsA Q hcx hR hb hS hl k_ => ?_)
  obtain ⟨g1, g2, bt, hbt, hO⟩ := hR.ob hk hcf.lt
  rw [hcf.2.1] at hO
  refine qx_putW hcx hR.2.1 hR.2.2.2.2.1.2 hcf hkN hw hO hfin hnv hfit hd fun H1 i hO1 hz hoq => ?_
  refine k_ H1 _ (hR.obset hk hbt hcf.lt g1 e1 e2 hm hz hoq ?_) (hS.put hz hoq (hR.1.ge g1))
  rw [hcf.2.1]
  refine hO1.to fun j _ => ?_
  by_cases hjk : j = k
  · subst hjk
    rw [hV bt hbt]
    simp [updV]
  · obtain ⟨m1, m2, m3⟩ := hj j hjk
    rw [qx_fv_same m1 m2 m3]
    simp [updV, hjk]
theorem qx_putSU {G : qx_G} {T : qx_T} {d : Nat} {own : String} {Y : qx_Y} {Φ : qx_F} {pc idx k a ci x : Nat} {ls r : List Value} {σ : qx_S} {C : String} {T' : u_T} {N : Nat} {ty : Nat → FieldType} (hy : Y.1.name = "<init>") (hcf : qx_cf ci C T' N ty) (hkN : k < N) (hw : qx_fU own idx T' k) (hk : (qx_sh T σ a).1 = 40 + ci) (htag : (qx_fk ci k).1 = 3 ∨ (qx_fk ci k).1 = 4)
    (hd : decode Y.2.1 pc = .ok (.putfield idx, 3)) (h : qx_K G T d own Y (pc + 3) ls r (qx_wr σ a k (some x)) Φ) : qx_K G T d own Y pc ls (.ref x :: .ref a :: r) σ Φ := by
  obtain ⟨f1, f2⟩ := hcf.2.2.2.2.2 k hkN
  have hfin : (T' k).2.2.2 = true := by rw [f2]; rcases htag with z | z <;> rw [z] <;> rfl
  have hnf : narrow (ty k) (.ref (qx_ad G x)) = .ref (qx_ad G x) ∧ fits (ty k) (.ref (qx_ad G x)) = true := by
    cases hty : ty k with
    | object => exact ⟨rfl, rfl⟩
    | array => exact ⟨rfl, rfl⟩
    | _ => rw [hty] at f1; rcases htag with z | z <;> rw [z] at f1 <;> cases f1
  refine qx_goM h rfl rfl (fun _ _ _ => ⟨rfl, rfl⟩) (fun p e R s m args below meth c H locs cells slots lsA Q hcx hR hb hS hl k_ => ?_)
  obtain ⟨g1, g2, hO⟩ := hR.objU hk hcf.lt
  rw [hcf.2.1] at hO
  refine qx_putU hcx hy hR.2.1 hcf hkN hw hO hfin hnf.1 hnf.2 hd fun H1 i hO1 hz hoq => ?_
  refine k_ H1 _ (hR.obset (bt := false) (Or.inr hk) ⟨fun z => (by cases z), fun z => (by omega)⟩ hcf.lt g1 rfl rfl (fun b hb => ⟨rfl, rfl, qx_up2_ne hb⟩) hz hoq ?_) (hS.put hz hoq (hR.1.ge g1))
  rw [hcf.2.1]
  refine hO1.to fun j _ => ?_
  by_cases hjk : j = k
  · subst hjk
    rw [qx_fv_U htag]
    show updV _ j (.ref (qx_ad G x)) j = va_rf ((qx_up2 σ.2.2.2.2.2 a j (some x) a j).map (qx_ad G))
    simp [updV, qx_up2, va_rf]
  · rw [qx_fv_same (σ := σ) (σ1 := qx_wr σ a k (some x)) rfl rfl (by show qx_up2 σ.2.2.2.2.2 a k (some x) a j = _; simp [qx_up2, hjk])]
    simp [updV, hjk]
