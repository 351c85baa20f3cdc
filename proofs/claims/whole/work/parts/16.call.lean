section CS
variable {G : qx_G} {T : qx_T} {sc : Bool} {d : Nat} {own : String} {Y : qx_Y} {ty : Option FieldType} {lk : List (Nat × qx_L)} {Φ : qx_F} {κ : qx_k}
theorem qx_callS {Z : qx_Y} {n : Nat} {i : Instr} {pre : State → Heap → List Value → Prop} (hz : qx_yk Z n) (hrun : qx_run Z own (fun _ as rest => qx_stk as rest) i pre) {pc : Nat} {ls as rest : List Value} {σ : qx_S} (hd : decode Y.2.1 pc = .ok (i, 3)) (hpre : ∀ s H, qx_R G T s σ H → pre s H (as.map (qx_pv G))) (hsm : qx_cs rest ≤ 8)
    (hk : qx_call G T d Z as σ (fun r σ1 => qx_K G T d own Y (pc + 3) ls (r.toList ++ rest) σ1 Φ)) : qx_K G T d own Y pc ls (qx_stk as rest) σ Φ := by
  obtain ⟨d', hlt, r1, σ1, ⟨r, σ', hΦ, n1, n2, hw⟩, m1, m2, hM⟩ := hk
  refine ⟨r, σ', hΦ, Nat.le_trans m1 n1, Nat.le_trans m2 n2, fun p e R s m args below meth c H locs cells slots lsA hcx hf hlo hc hs hR hb hS hl => ?_⟩
  have hcat : ((rest.map (qx_pv G)).map fun v => v.category).sum ≤ 8 := by
    have : ∀ l : List Value, ((l.map (qx_pv G)).map fun v => v.category).sum = qx_cs l := by
      intro l
      induction l with
      | nil => rfl
      | cons v l ih => simp only [List.map_cons, List.sum_cons, qx_pv_cat, ih, qx_cs]
    rw [this]
    exact hsm
  have hm40 := hz.2.1
  have run := hrun p G.1 e R s m args below meth c H locs cells slots (σ1.1 - σ.1) (σ1.2.1 - σ.2.1) (qx_rm d' σ σ1) (qx_P G T as σ) (qx_Q G T σ r1 σ1) (qx_A G) (as.map (qx_pv G)) (rest.map (qx_pv G)) pc lsA hcx.1 hcx.2.2.2.2.1 hcx.2.2.2.2.2.1 hR.2.2.2.2.1.2 hM rfl rfl (by show d' + 1 + 1 ≤ R.frames; omega) (by show 8 + (Z.2.2.1 + 11) + 64 * (d' + 1) ≤ R.locals; omega) (qx_P_blind G T as σ) (hpre s H hR)
    (fun U hU hW => ⟨rfl, by show qx_R G T U σ U.heap; rw [hU]; exact hR.moved hW⟩) (by rw [hl.1, hcx.2.2.1]) hcat (by rw [hcx.2.1]; exact hd) ⟨by omega, by omega⟩
  have est : qx_stk (as.map (qx_pv G)) (rest.map (qx_pv G)) = (qx_stk as rest).map (qx_pv G) := by simp [qx_stk]
  dsimp only at run
  rw [est] at run
  intro T0 hT X
  obtain ⟨v, st₀, t, T', L, h0, X', hL, e1, e2, ⟨hv, hH, hF, hsc⟩, st⟩ := run T0 hT X
  cases hv
  have hlow : ∀ q, q < H.size → ¬ qx_A G q → T'.heap[q]? = H[q]? := fun q g1 g2 => by rw [e1, ← h0]; exact hF.2 q (by rw [h0]; exact g1) g2
  have hR1 : qx_R G T s σ1 T'.heap := hR.call hlow (by rw [e1]; exact hH) hsc.1 hsc.2
  have hsz : H.size ≤ T'.heap.size := by rw [e1, ← h0]; exact hF.1
  have hS1 : va_S (qx_A G) s.heap T'.heap (locs ++ L) := ⟨Nat.le_trans hS.1 hsz, fun q g1 g2 => (hlow q (Nat.lt_of_lt_of_le g1 hS.1) g2).trans (hS.2.1 q g1 g2), fun q hq => by
    rcases List.mem_append.mp hq with h | h
    · exact hS.2.2 q h
    · exact hL q h⟩
  have k := hw p e R s m args below meth c T'.heap (locs ++ L) (cells + (σ1.1 - σ.1)) (slots + (σ1.2.1 - σ.2.1)) lsA hcx hf hlo (by omega) (by omega) hR1 hb hS1 hl
  have e3 : cells + (σ1.1 - σ.1) + (σ'.1 - σ1.1) = cells + (σ'.1 - σ.1) := by omega
  have e4 : slots + (σ1.2.1 - σ.2.1) + (σ'.2.1 - σ1.2.1) = slots + (σ'.2.1 - σ.2.1) := by omega
  rw [e3, e4] at k
  have est2 : (r1.map (qx_pv G)).toList ++ rest.map (qx_pv G) = (r1.toList ++ rest).map (qx_pv G) := by cases r1 <;> simp
  obtain ⟨t2, a1, o, q1, q2, ⟨q3, q4, q5, q6⟩, q7⟩ := k T' rfl X'
  refine ⟨t2, st t2 ?_, o, q1, q2, ⟨q3, q4, q5, hsc.tr q6⟩, q7⟩
  rw [est2]
  exact a1
theorem qx_call_mono {Z : qx_Y} {as : List Value} {σ : qx_S} {Φ Ψ : qx_F} (h : qx_call G T d Z as σ Φ) (hi : ∀ r σ1, Φ r σ1 → Ψ r σ1) : qx_call G T d Z as σ Ψ := by
  obtain ⟨d', hlt, r, σ1, h1, h2⟩ := h
  exact ⟨d', hlt, r, σ1, hi _ _ h1, h2⟩
theorem qx_pop_inv : ∀ (n : Nat) (st as : List Value) (q : List Value × List Value), qx_pop n st as = some q → ∃ l, l.length = n ∧ st = l ++ q.2 ∧ q.1 = l.reverse ++ as
  | 0, st, as, q, h => by
    have h : some (as, st) = some q := by
      cases st <;> exact h
    cases h
    exact ⟨[], rfl, rfl, rfl⟩
  | n + 1, [], as, q, h => by cases h
  | n + 1, v :: r, as, q, h => by
    obtain ⟨l, h1, h2, h3⟩ := qx_pop_inv n r (v :: as) q h
    exact ⟨v :: l, by simp [h1], by simp [h2], by simp [h3]⟩
/-- the class of a kind: one of ours, or String -/
def qx_cn (ci : Nat) (C : String) : Prop := (∃ r, qx_cls[ci]? = some r ∧ r.1 = C)
theorem qx_recv {s : State} {σ : qx_S} {H : Heap} (hR : qx_R G T s σ H) {a ci : Nat} {C : String} (hc : qx_cn ci C) (hk : (qx_sh T σ a).1 = 8 + ci) : ∃ cellB : Cell, H[qx_ad G a]? = some cellB ∧ cellB.vm.isStatics = false ∧ s.vm.findClass C = some cellB.cls := by
  obtain ⟨r, h1, h2⟩ := hc
  obtain ⟨-, -, cell, y1, y2, y3, -⟩ := hR.obj hk (List.getElem?_eq_some_iff.mp h1).1
  refine ⟨cell, y1, by rw [y3]; rfl, ?_⟩
  rw [y2, ← h2]
  exact (hR.2.1.1 ci r h1).2.1
theorem qx_virt_inv {a : Nat} {as : List Value} {σ : qx_S} {K : Option Value → qx_S → Prop} {call : qx_ca} : ∀ ys : List (Nat × qx_Y), qx_virt T call ys a as σ K → ∃ y ∈ ys, (qx_sh T σ a).1 = 8 + y.1 ∧ call y.2 (.ref a :: as) σ K
  | [], h => h.elim
  | [y], h => by
    obtain ⟨e1, e2⟩ := qx_cond h
    exact ⟨y, List.mem_cons_self, qx_beq e1, e2⟩
  | y :: z :: r, h => by
    rcases h with ⟨e1, e2⟩ | h
    · exact ⟨y, List.mem_cons_self, qx_beq e1, e2⟩
    · obtain ⟨x, h1, h2⟩ := qx_virt_inv (z :: r) h
      exact ⟨x, List.mem_cons_of_mem _ h1, h2⟩
theorem qs_invokevirtual (hκ : ∀ pc' ls' st' σ', κ pc' ls' st' σ' → qx_K G T d own Y pc' ls' st' σ' Φ) {pc len : Nat} {ls st : List Value} {σ : qx_S} {idx : Nat} (hd : decode Y.2.1 pc = .ok (.invokevirtual idx, len)) (hv : qx_vi Y.2.2.1 (.invokevirtual idx) pc len = true)
    (hlk : (qx_lk lk idx).1 = 1 → ∀ y ∈ (qx_lk lk idx).2.2.2.2, (∃ C, qx_cn y.1 C ∧ qx_vok own idx (qx_lk lk idx).2.1 C y.2)) (h : qx_step T sc (qx_call G T d) ty lk Φ κ (.invokevirtual idx) pc len ls st σ) : qx_K G T d own Y pc ls st σ Φ := by
  obtain rfl : len = 3 := qx_beq hv
  simp only [qx_step] at h
  generalize qx_lk lk idx = E at h hlk
  obtain ⟨e1, h⟩ := qx_cond h
  have e1 := qx_beq e1
  unfold qx_inv at h
  rw [e1] at h
  replace h : qx_iv1 T (qx_call G T d) E st σ (fun r σ1 => κ (pc + 3) ls r σ1) := h
  unfold qx_iv1 at h
  split at h
  · next as a rest hp =>
    obtain ⟨hs, h⟩ := qx_cond h
    obtain ⟨y, hy, hk, h⟩ := qx_virt_inv _ h
    obtain ⟨C, hC, hV⟩ := hlk e1 y hy
    obtain ⟨l, q1, q2, q3⟩ := qx_pop_inv _ _ _ _ hp
    simp only [List.append_nil] at q3
    have est : st = qx_stk (.ref a :: as) rest := by rw [q2, q3]; simp [qx_stk]
    rw [est]
    exact qx_callS hV.1 hV.2 hd (fun s H hR => ⟨by rw [q3]; simp [q1], _, _, rfl, qx_recv hR hC hk⟩) (Nat.le_of_ble_eq_true hs) (qx_call_mono h fun r σ1 z => hκ _ _ _ _ z)
  · exact h.elim
theorem qs_invokespecial (hκ : ∀ pc' ls' st' σ', κ pc' ls' st' σ' → qx_K G T d own Y pc' ls' st' σ' Φ) {pc len : Nat} {ls st : List Value} {σ : qx_S} {idx : Nat} (hd : decode Y.2.1 pc = .ok (.invokespecial idx, len)) (hv : qx_vi Y.2.2.1 (.invokespecial idx) pc len = true)
    (hlk : ((qx_lk lk idx).1 = 2 → ∀ y ∈ (qx_lk lk idx).2.2.2.2, qx_iok own idx (qx_lk lk idx).2.1 y.2) ∧ ((qx_lk lk idx).1 = 4 → Cond.methodLink own idx objectInit ∈ qx_tbl ∧ Cond.instanceMethod objectInit ∈ qx_tbl ∧ Cond.code objectInit ⟨#[0xb1]⟩ 1 none ∈ qx_tbl)) (h : qx_step T sc (qx_call G T d) ty lk Φ κ (.invokespecial idx) pc len ls st σ) : qx_K G T d own Y pc ls st σ Φ := by
  obtain rfl : len = 3 := qx_beq hv
  simp only [qx_step] at h
  generalize qx_lk lk idx = E at h hlk
  cases e2 : Nat.beq E.1 2 with
  | true =>
    rw [e2] at h
    have e1 := qx_beq e2
    replace h : qx_inv T (qx_call G T d) E st σ (fun r σ1 => κ (pc + 3) ls r σ1) := h
    unfold qx_inv at h
    rw [e1] at h
    replace h : qx_iv2 T (qx_call G T d) E st σ (fun r σ1 => κ (pc + 3) ls r σ1) := h
    unfold qx_iv2 at h
    split at h
    · next as a rest y hp hys =>
      obtain ⟨hs, h⟩ := qx_cond h
      have hV := hlk.1 e1 y (by rw [hys]; exact List.mem_cons_self)
      obtain ⟨l, q1, q2, q3⟩ := qx_pop_inv _ _ _ _ hp
      simp only [List.append_nil] at q3
      have est : st = qx_stk (.ref a :: as) rest := by rw [q2, q3]; simp [qx_stk]
      rw [est]
      exact qx_callS hV.1 hV.2 hd (fun s H hR => ⟨by rw [q3]; simp [q1], _, _, rfl⟩) (Nat.le_of_ble_eq_true hs) (qx_call_mono h fun r σ1 z => hκ _ _ _ _ z)
    · exact h.elim
  | false =>
    rw [e2] at h
    obtain ⟨e4, h4⟩ := qx_cond h
    clear h
    have e1 := qx_beq e4
    obtain ⟨w1, w2, w3⟩ := hlk.2 e1
    have h : qx_inv T (qx_call G T d) E st σ (fun r σ1 => κ (pc + 3) ls r σ1) := h4
    clear h4
    unfold qx_inv at h
    rw [e1] at h
    replace h : qx_iv4 T (qx_call G T d) E st σ (fun r σ1 => κ (pc + 3) ls r σ1) := h
    unfold qx_iv4 at h
    split at h
    · next a rest =>
      obtain ⟨hs, h⟩ := qx_cond h
      have hs := Nat.le_of_ble_eq_true hs
      refine qx_go0 (hκ _ _ _ _ h) fun p e R s m args below meth c H locs cells slots lsA Q hcx hf hlo hR hb hS hl k => ?_
      have hts := hcx.2.2.2.2.2.1
      have hcat : ((rest.map (qx_pv G)).map fun v => v.category).sum ≤ 8 := by
        have : ∀ l : List Value, ((l.map (qx_pv G)).map fun v => v.category).sum = qx_cs l := by
          intro l
          induction l with
          | nil => rfl
          | cons v l ih => simp only [List.map_cons, List.sum_cons, qx_pv_cat, ih, qx_cs]
        rw [this]
        exact hs
      refine W.objInit hcx.1 hcx.2.1 hcx.2.2.2.2.1 (hts _ w1) (hts _ w2) (hts _ w3) rfl (by rw [hcx.2.2.1]; exact hl.1) rfl hd (by omega) ?_ (k lsA hl)
      have := lv_room (m := m) (pc := pc) (ls := lsA) (rest := rest.map (qx_pv G)) hcat
      have h2 : 2 * (F0 m pc lsA ((Value.ref a :: rest).map (qx_pv G))).monitorRoom = 2 * (F0 m pc lsA (rest.map (qx_pv G))).monitorRoom := rfl
      rw [h2]
      omega
    · exact h.elim
end CS
