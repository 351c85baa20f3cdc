theorem qx_H.size {G : qx_G} {T : qx_T} {σ : qx_S} {H : Heap} (hok : qx_ok G) (h : qx_H G T σ H) : H.size = qx_ad G σ.1 := by
  rw [hok.2.1 σ.1 h.2.1]
  have := h.1; have := h.2.1
  omega
theorem qx_al_sc {G : qx_G} {T : qx_T} {s : State} {σ : qx_S} {H : Heap} (h : qx_R G T s σ H) {q : Nat × Nat} {n : Nat} : qx_sc T σ (qx_al σ q n) := by
  have hne : ¬ 0 = σ.1 := by have := h.2.2.2.2.2.2.1; omega
  refine ⟨?_, ?_⟩
  · show (match T 0 with | some q => q | none => va_up σ.2.2.1 σ.1 q 0) = (match T 0 with | some q => q | none => σ.2.2.1 0)
    cases T 0 <;> simp [va_up, hne]
  · show va_up σ.2.2.2.1 σ.1 (fun _ => 0) 0 = _
    simp [va_up, hne]
theorem qx_sz {G : qx_G} {T : qx_T} {s : State} {σ : qx_S} {H : Heap} (h : qx_R G T s σ H) : H.size = qx_ad G σ.1 := h.2.2.2.2.2.size h.1
theorem qx_S_new {A : Nat → Prop} {H0 H H1 : Heap} {locs : List Loc} (hS : va_S A H0 H locs) (hz : H1.size = H.size + 1) (ho : ∀ x, x < H.size → H1[x]? = H[x]?) : va_S A H0 H1 locs := ⟨Nat.le_trans hS.1 (by omega), fun x h1 h2 => (ho x (Nat.lt_of_lt_of_le h1 hS.1)).trans (hS.2.1 x h1 h2), hS.2.2⟩
section IN
variable {G : qx_G} {T : qx_T} {sc : Bool} {call : qx_ca} {d : Nat} {own : String} {Y : qx_Y} {ty : Option FieldType} {lk : List (Nat × qx_L)} {Φ : qx_F} {κ : qx_k}
/-- a step that makes a cell -/
theorem qx_goN {pc pc' : Nat} {ls st st' : List Value} {σ : qx_S} {q : Nat × Nat} {n : Nat} (hk : qx_K G T d own Y pc' ls st' (qx_al σ q n) Φ)
    (h : ∀ (p : Program) (e : Env) (R : Room) (s : State) (m : MethodId) (args : Array Value) (below : List Frame) (meth : Method) (c : Code) (H : Heap) (locs : List Loc) (cells slots : Nat) (lsA : Array Slot) (Q : State → Prop),
      qx_cx own Y p s m args meth c → cells + 1 ≤ R.cells → slots + n ≤ R.slots → qx_R G T s σ H → qx_b G ≤ s.heap.size → va_S (qx_A G) s.heap H locs → qx_l G lsA Y.2.2.1 ls →
      (∀ (H' : Heap), H'.size = H.size + 1 → (∀ x, x < H.size → H'[x]? = H[x]?) → qx_at G q (qx_al σ q n) σ.1 H' → W p G.1 e R s m args below meth c H' locs (cells + 1) (slots + n) Q (F0 m pc' lsA (st'.map (qx_pv G)))) →
      W p G.1 e R s m args below meth c H locs cells slots Q (F0 m pc lsA (st.map (qx_pv G)))) : qx_K G T d own Y pc ls st σ Φ := by
  refine qx_go hk (Nat.le_succ _) (Nat.le_add_right _ _) (fun s H hR => qx_al_sc hR) fun p e R s m args below meth c H locs cells slots lsA Q hcx hf hlo hc hs hR hb hS hl k => ?_
  have e1 : (qx_al σ q n).1 - σ.1 = 1 := by show σ.1 + 1 - σ.1 = 1; omega
  have e2 : (qx_al σ q n).2.1 - σ.2.1 = n := by show σ.2.1 + n - σ.2.1 = n; omega
  rw [e1] at hc
  rw [e2] at hs
  refine h p e R s m args below meth c H locs cells slots lsA Q hcx hc hs hR hb hS hl fun H' hz ho ha => ?_
  have z := k H' locs lsA (hR.new hz ho ha) (qx_S_new hS hz ho) hl
  rw [e1, e2] at z
  exact z
theorem qx_arrw : ∀ t : ArrayType, qx_akd t < 4 → Cond.arrayClass (newarray.typeOf t) ∈ qx_tbl := by
  intro t ht
  refine List.mem_filter.mpr ⟨?_, rfl⟩
  cases t <;> first | (exfalso; revert ht; decide) | decide +kernel
theorem qs_newarray (hκ : ∀ pc' ls' st' σ', κ pc' ls' st' σ' → qx_K G T d own Y pc' ls' st' σ' Φ) {pc len : Nat} {ls st : List Value} {σ : qx_S} {t : ArrayType} (hd : decode Y.2.1 pc = .ok (.newarray t, len)) (hv : qx_vi Y.2.2.1 (.newarray t) pc len = true) (h : qx_step T sc call ty lk Φ κ (.newarray t) pc len ls st σ) : qx_K G T d own Y pc ls st σ Φ := by
  simp only [qx_vi, Bool.and_eq_true] at hv
  obtain rfl : len = 2 := qx_beq hv.1
  have h4 : qx_akd t < 4 := Nat.blt_eq.mp hv.2
  simp only [qx_step] at h
  split at h
  · next n r =>
    obtain ⟨hn, hle, h⟩ := h
    refine qx_goN (hκ _ _ _ _ h) fun p e R s m args below meth c H locs cells slots lsA Q hcx hc hs hR hb hS hl k => ?_
    refine va_newaK hcx.1 hcx.2.1 (hcx.2.2.2.2.2.1 _ (qx_arrw t h4)) rfl hd rfl hn rfl (by
      have : componentBytes (newarray.typeOf t) ≤ 8 := by cases t <;> decide
      exact Nat.le_trans (Nat.mul_le_mul hle this) (by decide)) hc hs (qx_sz hR) fun H' cA e1 e2 e3 e4 e5 => ?_
    refine k H' (by rw [e2, qx_sz hR]) (fun x hx => e3 x (by rw [← qx_sz hR]; exact hx)) ?_
    have hcA : cA = qx_cA G (qx_akd t) ∧ (H'[qx_ad G σ.1]? = some (arrV (qx_cA G (qx_akd t)) n.toNatClampNeg (fun _ => defaultValue (newarray.typeOf t)))) := by
      have hc : cA = qx_cA G (qx_akd t) := by
        cases t with
        | int => exact Option.some.inj (e5.symm.trans (hR.2.1.2 0 _ rfl).2)
        | byte => exact Option.some.inj (e5.symm.trans (hR.2.1.2 1 _ rfl).2)
        | boolean => exact Option.some.inj (e5.symm.trans (hR.2.1.2 2 _ rfl).2)
        | long => exact Option.some.inj (e5.symm.trans (hR.2.1.2 3 _ rfl).2)
        | _ => exfalso; revert h4; decide
      exact ⟨hc, by rw [← hc]; exact e1⟩
    unfold qx_at
    by_cases hl3 : qx_akd t < 3
    · rw [if_pos hl3, hcA.2, vp_cell_i]
      congr 2
      funext j
      show defaultValue (newarray.typeOf t) = .int (va_up σ.2.2.2.1 σ.1 (fun _ => 0) σ.1 j)
      have : va_up σ.2.2.2.1 σ.1 (fun _ => 0) σ.1 = (fun _ => 0) := by simp [va_up]
      rw [this]
      cases t <;> first | rfl | (exfalso; revert hl3; decide)
    · rw [if_neg hl3, if_pos (by omega), hcA.2, vp_cell_l, show qx_akd t = 3 by omega]
      congr 2
      funext j
      show defaultValue (newarray.typeOf t) = .long (va_up σ.2.2.2.2.1 σ.1 (fun _ => 0) σ.1 j)
      have : va_up σ.2.2.2.2.1 σ.1 (fun _ => 0) σ.1 = (fun _ => 0) := by simp [va_up]
      rw [this]
      cases t <;> first | rfl | (exfalso; revert hl3; decide) | (exfalso; revert h4; decide)
  · exact h.elim
/-- arrays of references: kind, class -/
def qx_rk (own : String) (idx k : Nat) : Prop := (k = 4 ∧ Cond.classLink own idx RX4 ∈ qx_tbl) ∨ (k = 5 ∧ Cond.classLink own idx RX5 ∈ qx_tbl) ∨ (k = 6 ∧ Cond.classLink own idx RX7 ∈ qx_tbl) ∨ (k = 7 ∧ Cond.classLink own idx RX8 ∈ qx_tbl)
theorem qx_anewS {pc idx k t0 : Nat} {ls r : List Value} {σ : qx_S} {n : Int32} {C : String} (hCl : Cond.classLink own idx C ∈ qx_tbl) (hC : C ∈ [RX4, RX5, RX7, RX8]) (h4 : 4 ≤ k) (h8 : k < 8) (ht : ∀ G : qx_G, (qx_tys G)[t0]? = some (qx_cA G k, .object C)) (hd : decode Y.2.1 pc = .ok (.anewarray idx, 3)) (hn : ¬ n < 0) (hle : n.toNatClampNeg ≤ 100000)
    (h : qx_K G T d own Y (pc + 3) ls (.ref σ.1 :: r) (qx_al σ (k, n.toNatClampNeg) n.toNatClampNeg) Φ) : qx_K G T d own Y pc ls (.int n :: r) σ Φ := by
  refine qx_goN h fun p e R s m args below meth c H locs cells slots lsA Q hcx hc hs hR hb hS hl k_ => ?_
  refine W.anew hcx.1 hcx.2.1 hcx.2.2.2.2.1 (hcx.2.2.2.2.2.1 _ hCl) (va_AO.use (hR.2.2.2.2.1.2.2 C hC)) rfl hd rfl hn (by omega) hc hs fun cA kA comp f1 f2 f3 f4 => ?_
  obtain ⟨kA', comp', j1, j2, j3, j4⟩ := (hR.2.1.2 t0 _ (ht G)).2
  have hcA : cA = qx_cA G k := Option.some.inj (f1.symm.trans j4)
  subst hcA
  generalize hH1 : H.push ({ cls := qx_cA G k, slots := Array.replicate n.toNatClampNeg .null, vm := .none } : Cell) = H1
  have z1 : H1.size = H.size + 1 := by rw [← hH1, Array.size_push]
  have e1 : H1[H.size]? = some (arrV (qx_cA G k) n.toNatClampNeg (fun _ => .null)) := by rw [← hH1, Array.getElem?_push_size, ← arrV_new]
  have o1 : ∀ q : Nat, q < H.size → H1[q]? = H[q]? := fun q hq => by rw [← hH1, Array.getElem?_push, if_neg (Nat.ne_of_lt hq)]
  have hz := qx_sz hR
  rw [hz] at e1
  have kk := k_ H1 z1 o1 (by
    unfold qx_at
    rw [if_neg (by show ¬ k < 3; omega), if_neg (by show ¬ k = 3; omega), if_pos h8, e1, vp_cell_q]
    congr 2
    funext j
    show Value.null = va_rf ((va_up σ.2.2.2.2.2 σ.1 (fun _ => none) σ.1 j).map (qx_ad G))
    have : va_up σ.2.2.2.2.2 σ.1 (fun _ => none) σ.1 = (fun _ => none) := by simp [va_up]
    rw [this]
    rfl)
  rw [hz]
  exact kk
theorem qs_anewarray (hκ : ∀ pc' ls' st' σ', κ pc' ls' st' σ' → qx_K G T d own Y pc' ls' st' σ' Φ) {pc len : Nat} {ls st : List Value} {σ : qx_S} {idx : Nat} (hd : decode Y.2.1 pc = .ok (.anewarray idx, len)) (hv : qx_vi Y.2.2.1 (.anewarray idx) pc len = true) (hlk : (qx_lk lk (idx + 100000)).1 = 8 → qx_rk own idx (qx_lk lk (idx + 100000)).2.1) (h : qx_step T sc call ty lk Φ κ (.anewarray idx) pc len ls st σ) : qx_K G T d own Y pc ls st σ Φ := by
  obtain rfl : len = 3 := qx_beq hv
  simp only [qx_step] at h
  generalize qx_lk lk (idx + 100000) = E at h hlk
  split at h
  · next n r e8 =>
    obtain ⟨hn, hle, h⟩ := h
    have h := hκ _ _ _ _ h
    rcases hlk e8 with ⟨ek, hc⟩ | ⟨ek, hc⟩ | ⟨ek, hc⟩ | ⟨ek, hc⟩ <;> rw [ek] at h
    · exact qx_anewS (t0 := 4) hc (by simp) (by omega) (by omega) (fun _ => rfl) hd hn hle h
    · exact qx_anewS (t0 := 5) hc (by simp) (by omega) (by omega) (fun _ => rfl) hd hn hle h
    · exact qx_anewS (t0 := 6) hc (by simp) (by omega) (by omega) (fun _ => rfl) hd hn hle h
    · exact qx_anewS (t0 := 7) hc (by simp) (by omega) (by omega) (fun _ => rfl) hd hn hle h
  · exact h.elim
/-- the link of a class that is made -/
def qx_nk (own : String) (idx n : Nat) (ci : Nat) : Prop := ∃ C T' ty, qx_cf ci C T' n ty ∧ Cond.classLink own idx C ∈ qx_tbl ∧ Cond.instantiable C n ∈ qx_tbl ∧ Cond.initialized C ∈ qx_tbl
theorem qs_new (hκ : ∀ pc' ls' st' σ', κ pc' ls' st' σ' → qx_K G T d own Y pc' ls' st' σ' Φ) {pc len : Nat} {ls st : List Value} {σ : qx_S} {idx : Nat} (hd : decode Y.2.1 pc = .ok (.new idx, len)) (hv : qx_vi Y.2.2.1 (.new idx) pc len = true) (hlk : (qx_lk lk idx).1 = 5 → ∀ ci ∈ (qx_lk lk idx).2.2.1, qx_nk own idx (qx_lk lk idx).2.1 ci) (h : qx_step T sc call ty lk Φ κ (.new idx) pc len ls st σ) : qx_K G T d own Y pc ls st σ Φ := by
  obtain rfl : len = 3 := qx_beq hv
  simp only [qx_step] at h
  generalize qx_lk lk idx = E at h hlk
  split at h
  · next n ci z1 z2 =>
    obtain ⟨C, T', ty, hcf, hc1, hc2, hc3⟩ := hlk rfl ci List.mem_cons_self
    refine qx_goN (hκ _ _ _ _ h) fun p e R s m args below meth c H locs cells slots lsA Q hcx hc hs hR hb hS hl k => ?_
    have hts := hcx.2.2.2.2.2.1
    have hKn := hR.2.1.1 ci _ hcf.1
    have hz := qx_sz hR
    refine W.newcK hcx.1 hcx.2.1 hcx.2.2.2.2.1 (hts _ hc1) (hts _ hc2) (hts _ hc3) rfl hd hc hs hKn.2.1 hz fun H1 kC hkC e1 z1 o1 => ?_
    refine k H1 (by rw [z1, hz]) (fun x hx => o1 x (by rw [← hz]; exact hx)) ?_
    have hlt := hcf.lt
    have hO := u_born ty hts hcf.2.2.1 hKn hkC e1 hcf.2.2.2.1
    unfold qx_at
    rw [if_neg (by show ¬ 40 + ci < 3; omega), if_neg (by show ¬ 40 + ci = 3; omega), if_neg (by show ¬ 40 + ci < 8; omega), if_neg (by show ¬ 40 + ci < 20; omega), if_pos (by show 40 ≤ 40 + ci; omega), show 40 + ci - 40 = ci by omega, hcf.2.1]
    refine hO.to fun j hj => ?_
    have hty := (hcf.2.2.2.2.2 j hj).1
    have v1 : (qx_al σ (40 + ci, 0) n).2.2.2.1 σ.1 = fun _ => 0 := by show va_up σ.2.2.2.1 σ.1 (fun _ => 0) σ.1 = _; simp [va_up]
    have v2 : (qx_al σ (40 + ci, 0) n).2.2.2.2.1 σ.1 = fun _ => 0 := by show va_up σ.2.2.2.2.1 σ.1 (fun _ => 0) σ.1 = _; simp [va_up]
    have v3 : (qx_al σ (40 + ci, 0) n).2.2.2.2.2 σ.1 = fun _ => none := by show va_up σ.2.2.2.2.2 σ.1 (fun _ => none) σ.1 = _; simp [va_up]
    cases hq : ty j with
    | int =>
      rw [hq] at hty
      rw [qx_fv_i (Or.inl (qx_beq hty)), v1]
      rfl
    | boolean =>
      rw [hq] at hty
      rw [qx_fv_i (Or.inr (qx_beq hty)), v1]
      rfl
    | long =>
      rw [hq] at hty
      rw [qx_fv_l (qx_beq hty), v2]
      rfl
    | object =>
      rw [hq] at hty
      simp only [qx_tyc, Bool.or_eq_true] at hty
      rcases hty with hty | hty
      · rw [qx_fv_r (qx_beq hty), v3]
        rfl
      · rw [qx_fv_U (hty.imp qx_beq qx_beq), v3]
        rfl
    | array =>
      rw [hq] at hty
      simp only [qx_tyc, Bool.or_eq_true] at hty
      rcases hty with hty | hty
      · rw [qx_fv_r (qx_beq hty), v3]
        rfl
      · rw [qx_fv_U (hty.imp qx_beq qx_beq), v3]
        rfl
    | _ => rw [hq] at hty; cases hty
  · exact h.elim
end IN
