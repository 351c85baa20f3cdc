theorem qx_goM {G : qx_G} {T : qx_T} {d : Nat} {own : String} {Y : qx_Y} {pc pc' : Nat} {ls st st' : List Value} {σ σ1 : qx_S} {Φ : qx_F} (hk : qx_K G T d own Y pc' ls st' σ1 Φ) (e1 : σ1.1 = σ.1) (e2 : σ1.2.1 = σ.2.1) (h0 : ∀ s H, qx_R G T s σ H → qx_sc T σ σ1)
    (h : ∀ (p : Program) (e : Env) (R : Room) (s : State) (m : MethodId) (args : Array Value) (below : List Frame) (meth : Method) (c : Code) (H : Heap) (locs : List Loc) (cells slots : Nat) (lsA : Array Slot) (Q : State → Prop),
      qx_cx own Y p s m args meth c → qx_R G T s σ H → qx_b G ≤ s.heap.size → va_S (qx_A G) s.heap H locs → qx_l G lsA Y.2.2.1 ls →
      (∀ (H' : Heap) (locs' : List Loc), qx_R G T s σ1 H' → va_S (qx_A G) s.heap H' locs' → W p G.1 e R s m args below meth c H' locs' cells slots Q (F0 m pc' lsA (st'.map (qx_pv G)))) →
      W p G.1 e R s m args below meth c H locs cells slots Q (F0 m pc lsA (st.map (qx_pv G)))) : qx_K G T d own Y pc ls st σ Φ := by
  refine qx_go hk (Nat.le_of_eq e1.symm) (Nat.le_of_eq e2.symm) h0 fun p e R s m args below meth c H locs cells slots lsA Q hcx hf hlo hc hs hR hb hS hl k => ?_
  refine h p e R s m args below meth c H locs cells slots lsA Q hcx hR hb hS hl fun H' locs' hR' hS' => ?_
  have z := k H' locs' lsA hR' hS' hl
  rw [e1, e2, Nat.sub_self, Nat.sub_self] at z
  exact z
theorem qs_aload {G : qx_G} {T : qx_T} {sc : Bool} {call : qx_ca} {d : Nat} {own : String} {Y : qx_Y} {ty : Option FieldType} {lk : List (Nat × qx_L)} {Φ : qx_F} {κ : qx_k} (hκ : ∀ pc' ls' st' σ', κ pc' ls' st' σ' → qx_K G T d own Y pc' ls' st' σ' Φ) {pc len : Nat} {ls st : List Value} {σ : qx_S} {n : Nat} (hd : decode Y.2.1 pc = .ok (.aload n, len)) (hv : qx_vi Y.2.2.1 (.aload n) pc len = true) (h : qx_step T sc call ty lk Φ κ (.aload n) pc len ls st σ) : qx_K G T d own Y pc ls st σ Φ := by
  obtain rfl : len = 2 := qx_beq hv
  simp only [qx_step] at h
  obtain ⟨hr, h⟩ := qx_lda_inv h
  rcases hr with ⟨a, ee⟩ | ee
  · rw [ee] at h
    exact qx_go1 (hκ _ _ _ _ h) (fun p e R s m args below meth c H locs cells slots lsA Q hcx hR hb hS hl k => lv_aload hcx.1 hcx.2.1 hd (hl.at ee (by intro z; cases z)) k)
  · rw [ee] at h
    exact qx_go1 (hκ _ _ _ _ h) (fun p e R s m args below meth c H locs cells slots lsA Q hcx hR hb hS hl k => lv_aloadN hcx.1 hcx.2.1 hd (hl.at ee (by intro z; cases z)) k)
theorem qs_aload_n {G : qx_G} {T : qx_T} {sc : Bool} {call : qx_ca} {d : Nat} {own : String} {Y : qx_Y} {ty : Option FieldType} {lk : List (Nat × qx_L)} {Φ : qx_F} {κ : qx_k} (hκ : ∀ pc' ls' st' σ', κ pc' ls' st' σ' → qx_K G T d own Y pc' ls' st' σ' Φ) {pc len : Nat} {ls st : List Value} {σ : qx_S} {n : Fin 4} (hd : decode Y.2.1 pc = .ok (.aload_n n, len)) (hv : qx_vi Y.2.2.1 (.aload_n n) pc len = true) (h : qx_step T sc call ty lk Φ κ (.aload_n n) pc len ls st σ) : qx_K G T d own Y pc ls st σ Φ := by
  obtain rfl : len = 1 := qx_beq hv
  simp only [qx_step] at h
  obtain ⟨hr, h⟩ := qx_lda_inv h
  rcases hr with ⟨a, ee⟩ | ee
  · rw [ee] at h
    exact qx_go1 (hκ _ _ _ _ h) (fun p e R s m args below meth c H locs cells slots lsA Q hcx hR hb hS hl k => lv_aload_n hcx.1 hcx.2.1 hd rfl (hl.at ee (by intro z; cases z)) k)
  · rw [ee] at h
    exact qx_go1 (hκ _ _ _ _ h) (fun p e R s m args below meth c H locs cells slots lsA Q hcx hR hb hS hl k => lv_aload_nN hcx.1 hcx.2.1 hd rfl (hl.at ee (by intro z; cases z)) k)
theorem qs_astore {G : qx_G} {T : qx_T} {sc : Bool} {call : qx_ca} {d : Nat} {own : String} {Y : qx_Y} {ty : Option FieldType} {lk : List (Nat × qx_L)} {Φ : qx_F} {κ : qx_k} (hκ : ∀ pc' ls' st' σ', κ pc' ls' st' σ' → qx_K G T d own Y pc' ls' st' σ' Φ) {pc len : Nat} {ls st : List Value} {σ : qx_S} {k : Nat} (hd : decode Y.2.1 pc = .ok (.astore k, len)) (hv : qx_vi Y.2.2.1 (.astore k) pc len = true) (h : qx_step T sc call ty lk Φ κ (.astore k) pc len ls st σ) : qx_K G T d own Y pc ls st σ Φ := by
  simp only [qx_vi, Bool.and_eq_true] at hv
  obtain rfl : len = 2 := qx_beq hv.1
  have hn : k < Y.2.2.1 := Nat.blt_eq.mp hv.2
  simp only [qx_step] at h
  obtain ⟨v, r, rfl, hr, h⟩ := qx_sta_inv h
  rcases hr with ⟨a, rfl⟩ | rfl
  · exact qx_go0 (hκ _ _ _ _ h) (fun p e R s m args below meth c H locs cells slots lsA Q hcx _ _ hR hb hS hl k => lv_astore hcx.1 hcx.2.1 hd hl.has hn rfl (fun lsB hB => k _ (hl.s1 hB)))
  · exact qx_go0 (hκ _ _ _ _ h) (fun p e R s m args below meth c H locs cells slots lsA Q hcx _ _ hR hb hS hl k => lv_astoreN hcx.1 hcx.2.1 hd hl.has hn rfl (fun lsB hB => k _ (hl.s1 hB)))
theorem qs_astore_n {G : qx_G} {T : qx_T} {sc : Bool} {call : qx_ca} {d : Nat} {own : String} {Y : qx_Y} {ty : Option FieldType} {lk : List (Nat × qx_L)} {Φ : qx_F} {κ : qx_k} (hκ : ∀ pc' ls' st' σ', κ pc' ls' st' σ' → qx_K G T d own Y pc' ls' st' σ' Φ) {pc len : Nat} {ls st : List Value} {σ : qx_S} {k : Fin 4} (hd : decode Y.2.1 pc = .ok (.astore_n k, len)) (hv : qx_vi Y.2.2.1 (.astore_n k) pc len = true) (h : qx_step T sc call ty lk Φ κ (.astore_n k) pc len ls st σ) : qx_K G T d own Y pc ls st σ Φ := by
  simp only [qx_vi, Bool.and_eq_true] at hv
  obtain rfl : len = 1 := qx_beq hv.1
  have hn : k.val < Y.2.2.1 := Nat.blt_eq.mp hv.2
  simp only [qx_step] at h
  obtain ⟨v, r, rfl, hr, h⟩ := qx_sta_inv h
  rcases hr with ⟨a, rfl⟩ | rfl
  · exact qx_go0 (hκ _ _ _ _ h) (fun p e R s m args below meth c H locs cells slots lsA Q hcx _ _ hR hb hS hl k => lv_astore_n hcx.1 hcx.2.1 hd rfl hl.has hn rfl (fun lsB hB => k _ (hl.s1 hB)))
  · exact qx_go0 (hκ _ _ _ _ h) (fun p e R s m args below meth c H locs cells slots lsA Q hcx _ _ hR hb hS hl k => lv_astore_nN hcx.1 hcx.2.1 hd rfl hl.has hn rfl (fun lsB hB => k _ (hl.s1 hB)))
theorem qs_ifCond {G : qx_G} {T : qx_T} {sc : Bool} {call : qx_ca} {d : Nat} {own : String} {Y : qx_Y} {ty : Option FieldType} {lk : List (Nat × qx_L)} {Φ : qx_F} {κ : qx_k} (hκ : ∀ pc' ls' st' σ', κ pc' ls' st' σ' → qx_K G T d own Y pc' ls' st' σ' Φ) {pc len : Nat} {ls st : List Value} {σ : qx_S} {c : ClassFile.Cond} {o : Int} (hd : decode Y.2.1 pc = .ok (.ifCond c o, len)) (hv : qx_vi Y.2.2.1 (.ifCond c o) pc len = true) (h : qx_step T sc call ty lk Φ κ (.ifCond c o) pc len ls st σ) : qx_K G T d own Y pc ls st σ Φ := by
  simp only [qx_vi, Bool.and_eq_true, decide_eq_true_eq] at hv
  obtain rfl : len = 3 := qx_beq hv.1
  have ht := qx_tgt_ok hv.2
  simp only [qx_step] at h
  split at h
  · next x r =>
    cases c with
    | eq =>
      by_cases hp : x = 0
      · exact qx_go1 (hκ _ _ _ _ (h.1 hp)) (fun p e R s m args below meth c H locs cells slots lsA Q hcx hR hb hS hl k => lv_if_eq hcx.1 hcx.2.1 hd ht (fun _ => k) (fun z => absurd hp z))
      · exact qx_go1 (hκ _ _ _ _ (h.2 hp)) (fun p e R s m args below meth c H locs cells slots lsA Q hcx hR hb hS hl k => lv_if_eq hcx.1 hcx.2.1 hd ht (fun z => absurd z hp) (fun _ => k))
    | ne =>
      by_cases hp : x = 0
      · exact qx_go1 (hκ _ _ _ _ (h.2 hp)) (fun p e R s m args below meth c H locs cells slots lsA Q hcx hR hb hS hl k => lv_if_ne hcx.1 hcx.2.1 hd ht (fun z => absurd hp z) (fun _ => k))
      · exact qx_go1 (hκ _ _ _ _ (h.1 hp)) (fun p e R s m args below meth c H locs cells slots lsA Q hcx hR hb hS hl k => lv_if_ne hcx.1 hcx.2.1 hd ht (fun _ => k) (fun z => absurd z hp))
    | lt =>
      by_cases hp : x < 0
      · exact qx_go1 (hκ _ _ _ _ (h.1 hp)) (fun p e R s m args below meth c H locs cells slots lsA Q hcx hR hb hS hl k => lv_if_lt hcx.1 hcx.2.1 hd ht (fun _ => k) (fun z => absurd hp z))
      · exact qx_go1 (hκ _ _ _ _ (h.2 hp)) (fun p e R s m args below meth c H locs cells slots lsA Q hcx hR hb hS hl k => lv_if_lt hcx.1 hcx.2.1 hd ht (fun z => absurd z hp) (fun _ => k))
    | ge =>
      by_cases hp : 0 ≤ x
      · exact qx_go1 (hκ _ _ _ _ (h.1 hp)) (fun p e R s m args below meth c H locs cells slots lsA Q hcx hR hb hS hl k => lv_if_ge hcx.1 hcx.2.1 hd ht (fun _ => k) (fun z => absurd hp z))
      · exact qx_go1 (hκ _ _ _ _ (h.2 hp)) (fun p e R s m args below meth c H locs cells slots lsA Q hcx hR hb hS hl k => lv_if_ge hcx.1 hcx.2.1 hd ht (fun z => absurd z hp) (fun _ => k))
    | gt =>
      by_cases hp : 0 < x
      · exact qx_go1 (hκ _ _ _ _ (h.1 hp)) (fun p e R s m args below meth c H locs cells slots lsA Q hcx hR hb hS hl k => lv_if_gt hcx.1 hcx.2.1 hd ht (fun _ => k) (fun z => absurd hp z))
      · exact qx_go1 (hκ _ _ _ _ (h.2 hp)) (fun p e R s m args below meth c H locs cells slots lsA Q hcx hR hb hS hl k => lv_if_gt hcx.1 hcx.2.1 hd ht (fun z => absurd z hp) (fun _ => k))
    | le =>
      by_cases hp : x ≤ 0
      · exact qx_go1 (hκ _ _ _ _ (h.1 hp)) (fun p e R s m args below meth c H locs cells slots lsA Q hcx hR hb hS hl k => lv_if_le hcx.1 hcx.2.1 hd ht (fun _ => k) (fun z => absurd hp z))
      · exact qx_go1 (hκ _ _ _ _ (h.2 hp)) (fun p e R s m args below meth c H locs cells slots lsA Q hcx hR hb hS hl k => lv_if_le hcx.1 hcx.2.1 hd ht (fun z => absurd z hp) (fun _ => k))
  · exact h.elim
theorem qs_if_icmp {G : qx_G} {T : qx_T} {sc : Bool} {call : qx_ca} {d : Nat} {own : String} {Y : qx_Y} {ty : Option FieldType} {lk : List (Nat × qx_L)} {Φ : qx_F} {κ : qx_k} (hκ : ∀ pc' ls' st' σ', κ pc' ls' st' σ' → qx_K G T d own Y pc' ls' st' σ' Φ) {pc len : Nat} {ls st : List Value} {σ : qx_S} {c : ClassFile.Cond} {o : Int} (hd : decode Y.2.1 pc = .ok (.if_icmp c o, len)) (hv : qx_vi Y.2.2.1 (.if_icmp c o) pc len = true) (h : qx_step T sc call ty lk Φ κ (.if_icmp c o) pc len ls st σ) : qx_K G T d own Y pc ls st σ Φ := by
  simp only [qx_vi, Bool.and_eq_true, decide_eq_true_eq] at hv
  obtain rfl : len = 3 := qx_beq hv.1
  have ht := qx_tgt_ok hv.2
  simp only [qx_step] at h
  split at h
  · next y x r =>
    cases c with
    | eq =>
      by_cases hp : x = y
      · exact qx_go1 (hκ _ _ _ _ (h.1 hp)) (fun p e R s m args below meth c H locs cells slots lsA Q hcx hR hb hS hl k => lv_icmp_eq hcx.1 hcx.2.1 hd ht (fun _ => k) (fun z => absurd hp z))
      · exact qx_go1 (hκ _ _ _ _ (h.2 hp)) (fun p e R s m args below meth c H locs cells slots lsA Q hcx hR hb hS hl k => lv_icmp_eq hcx.1 hcx.2.1 hd ht (fun z => absurd z hp) (fun _ => k))
    | ne =>
      by_cases hp : x = y
      · exact qx_go1 (hκ _ _ _ _ (h.2 hp)) (fun p e R s m args below meth c H locs cells slots lsA Q hcx hR hb hS hl k => lv_icmp_ne hcx.1 hcx.2.1 hd ht (fun z => absurd hp z) (fun _ => k))
      · exact qx_go1 (hκ _ _ _ _ (h.1 hp)) (fun p e R s m args below meth c H locs cells slots lsA Q hcx hR hb hS hl k => lv_icmp_ne hcx.1 hcx.2.1 hd ht (fun _ => k) (fun z => absurd z hp))
    | lt =>
      by_cases hp : x < y
      · exact qx_go1 (hκ _ _ _ _ (h.1 hp)) (fun p e R s m args below meth c H locs cells slots lsA Q hcx hR hb hS hl k => lv_icmp_lt hcx.1 hcx.2.1 hd ht (fun _ => k) (fun z => absurd hp z))
      · exact qx_go1 (hκ _ _ _ _ (h.2 hp)) (fun p e R s m args below meth c H locs cells slots lsA Q hcx hR hb hS hl k => lv_icmp_lt hcx.1 hcx.2.1 hd ht (fun z => absurd z hp) (fun _ => k))
    | ge =>
      by_cases hp : y ≤ x
      · exact qx_go1 (hκ _ _ _ _ (h.1 hp)) (fun p e R s m args below meth c H locs cells slots lsA Q hcx hR hb hS hl k => lv_icmp_ge hcx.1 hcx.2.1 hd ht (fun _ => k) (fun z => absurd hp z))
      · exact qx_go1 (hκ _ _ _ _ (h.2 hp)) (fun p e R s m args below meth c H locs cells slots lsA Q hcx hR hb hS hl k => lv_icmp_ge hcx.1 hcx.2.1 hd ht (fun z => absurd z hp) (fun _ => k))
    | gt =>
      by_cases hp : y < x
      · exact qx_go1 (hκ _ _ _ _ (h.1 hp)) (fun p e R s m args below meth c H locs cells slots lsA Q hcx hR hb hS hl k => lv_icmp_gt hcx.1 hcx.2.1 hd ht (fun _ => k) (fun z => absurd hp z))
      · exact qx_go1 (hκ _ _ _ _ (h.2 hp)) (fun p e R s m args below meth c H locs cells slots lsA Q hcx hR hb hS hl k => lv_icmp_gt hcx.1 hcx.2.1 hd ht (fun z => absurd z hp) (fun _ => k))
    | le =>
      by_cases hp : x ≤ y
      · exact qx_go1 (hκ _ _ _ _ (h.1 hp)) (fun p e R s m args below meth c H locs cells slots lsA Q hcx hR hb hS hl k => lv_icmp_le hcx.1 hcx.2.1 hd ht (fun _ => k) (fun z => absurd hp z))
      · exact qx_go1 (hκ _ _ _ _ (h.2 hp)) (fun p e R s m args below meth c H locs cells slots lsA Q hcx hR hb hS hl k => lv_icmp_le hcx.1 hcx.2.1 hd ht (fun z => absurd z hp) (fun _ => k))
  · exact h.elim
theorem qs_ifnull {G : qx_G} {T : qx_T} {sc : Bool} {call : qx_ca} {d : Nat} {own : String} {Y : qx_Y} {ty : Option FieldType} {lk : List (Nat × qx_L)} {Φ : qx_F} {κ : qx_k} (hκ : ∀ pc' ls' st' σ', κ pc' ls' st' σ' → qx_K G T d own Y pc' ls' st' σ' Φ) {pc len : Nat} {ls st : List Value} {σ : qx_S} {o : Int} (hd : decode Y.2.1 pc = .ok (.ifnull o, len)) (hv : qx_vi Y.2.2.1 (.ifnull o) pc len = true) (h : qx_step T sc call ty lk Φ κ (.ifnull o) pc len ls st σ) : qx_K G T d own Y pc ls st σ Φ := by
  simp only [qx_vi, Bool.and_eq_true, decide_eq_true_eq] at hv
  obtain rfl : len = 3 := qx_beq hv.1
  have ht := qx_tgt_ok hv.2
  simp only [qx_step] at h
  split at h
  · exact qx_go1 (hκ _ _ _ _ h) (fun p e R s m args below meth c H locs cells slots lsA Q hcx hR hb hS hl k => lv_ifnullN hcx.1 hcx.2.1 hd ht k)
  · exact qx_go1 (hκ _ _ _ _ h) (fun p e R s m args below meth c H locs cells slots lsA Q hcx hR hb hS hl k => lv_ifnull hcx.1 hcx.2.1 hd k)
  · exact h.elim
theorem qs_ifnonnull {G : qx_G} {T : qx_T} {sc : Bool} {call : qx_ca} {d : Nat} {own : String} {Y : qx_Y} {ty : Option FieldType} {lk : List (Nat × qx_L)} {Φ : qx_F} {κ : qx_k} (hκ : ∀ pc' ls' st' σ', κ pc' ls' st' σ' → qx_K G T d own Y pc' ls' st' σ' Φ) {pc len : Nat} {ls st : List Value} {σ : qx_S} {o : Int} (hd : decode Y.2.1 pc = .ok (.ifnonnull o, len)) (hv : qx_vi Y.2.2.1 (.ifnonnull o) pc len = true) (h : qx_step T sc call ty lk Φ κ (.ifnonnull o) pc len ls st σ) : qx_K G T d own Y pc ls st σ Φ := by
  simp only [qx_vi, Bool.and_eq_true, decide_eq_true_eq] at hv
  obtain rfl : len = 3 := qx_beq hv.1
  have ht := qx_tgt_ok hv.2
  simp only [qx_step] at h
  split at h
  · exact qx_go1 (hκ _ _ _ _ h) (fun p e R s m args below meth c H locs cells slots lsA Q hcx hR hb hS hl k => lv_ifnonnullN hcx.1 hcx.2.1 hd k)
  · exact qx_go1 (hκ _ _ _ _ h) (fun p e R s m args below meth c H locs cells slots lsA Q hcx hR hb hS hl k => lv_ifnonnull hcx.1 hcx.2.1 hd ht k)
  · exact h.elim
theorem qx_R.arr {G : qx_G} {T : qx_T} {s : State} {σ : qx_S} {H : Heap} (h : qx_R G T s σ H) {a k : Nat} (hk : (qx_sh T σ a).1 = k) (h3 : k < 3) : 3 ≤ a ∧ a < σ.1 ∧ H[qx_ad G a]? = some (vp_cell (qx_cA G k) ((qx_sh T σ a).2, .inl (σ.2.2.2.1 a))) := by
  obtain ⟨g1, g2, g3⟩ := h.2.2.2.2.2.2.2.2 a (Or.inl (by omega))
  refine ⟨g1, g2, ?_⟩
  unfold qx_at at g3
  rw [if_pos (by omega), hk] at g3
  exact g3
theorem qx_R.arrL {G : qx_G} {T : qx_T} {s : State} {σ : qx_S} {H : Heap} (h : qx_R G T s σ H) {a : Nat} (hk : (qx_sh T σ a).1 = 3) : 3 ≤ a ∧ a < σ.1 ∧ H[qx_ad G a]? = some (vp_cell (qx_cA G 3) ((qx_sh T σ a).2, .inr (.inl (σ.2.2.2.2.1 a)))) := by
  obtain ⟨g1, g2, g3⟩ := h.2.2.2.2.2.2.2.2 a (Or.inl (by omega))
  refine ⟨g1, g2, ?_⟩
  unfold qx_at at g3
  rw [if_neg (by omega), if_pos hk] at g3
  exact g3
theorem qx_R.arrR {G : qx_G} {T : qx_T} {s : State} {σ : qx_S} {H : Heap} (h : qx_R G T s σ H) {a k : Nat} (hk : (qx_sh T σ a).1 = k) (h4 : 4 ≤ k) (h8 : k < 8) : 3 ≤ a ∧ a < σ.1 ∧ H[qx_ad G a]? = some (vp_cell (qx_cA G k) ((qx_sh T σ a).2, .inr (.inr (.inr (.inr (fun j => (σ.2.2.2.2.2 a j).map (qx_ad G))))))) := by
  obtain ⟨g1, g2, g3⟩ := h.2.2.2.2.2.2.2.2 a (Or.inl (by omega))
  refine ⟨g1, g2, ?_⟩
  unfold qx_at at g3
  rw [if_neg (by omega), if_neg (by omega), if_pos (by omega), hk] at g3
  exact g3
theorem qx_up2_ne {α : Type} {f : Nat → Nat → α} {a j b : Nat} {v : α} (h : b ≠ a) : qx_up2 f a j v b = f b := by
  funext i
  simp [qx_up2, h]
theorem qx_up2_at {α : Type} (f : Nat → Nat → α) (a j : Nat) (v : α) : qx_up2 f a j v a = fun i => if i = j then v else f a i := by
  funext i
  simp [qx_up2]
theorem qx_wi_sc {G : qx_G} {T : qx_T} {s : State} {σ : qx_S} {H : Heap} (h : qx_R G T s σ H) {a j : Nat} {v : Int32} (hk : qx_kd (qx_sh T σ a).1) : qx_sc T σ (qx_wi σ a j v) := by
  have h3 := (h.2.2.2.2.2.2.2.2 a hk).1
  exact ⟨rfl, qx_up2_ne (by omega)⟩
theorem qs_arraylength {G : qx_G} {T : qx_T} {sc : Bool} {call : qx_ca} {d : Nat} {own : String} {Y : qx_Y} {ty : Option FieldType} {lk : List (Nat × qx_L)} {Φ : qx_F} {κ : qx_k} (hκ : ∀ pc' ls' st' σ', κ pc' ls' st' σ' → qx_K G T d own Y pc' ls' st' σ' Φ) {pc len : Nat} {ls st : List Value} {σ : qx_S}  (hd : decode Y.2.1 pc = .ok (.arraylength, len)) (hv : qx_vi Y.2.2.1 (.arraylength) pc len = true) (h : qx_step T sc call ty lk Φ κ (.arraylength) pc len ls st σ) : qx_K G T d own Y pc ls st σ Φ := by
  obtain rfl : len = 1 := qx_beq hv
  simp only [qx_step] at h
  split at h
  · next a r =>
    cases sc with
    | true =>
      obtain ⟨h, rfl⟩ := h
      exact qx_go1 (hκ _ _ _ _ h) (fun p e R s m args below meth c H locs cells slots lsA Q hcx hR hb hS hl k => va_slen hcx.1 hcx.2.1 hR.2.2.1 (Nat.lt_of_lt_of_le (hR.1.2.2.1 0 (by omega)) (by have := hR.2.2.2.2.2.1; have := hR.2.2.2.2.2.2.1; omega)) (A := qx_A G) (Nat.not_le.mpr (hR.1.2.2.1 0 (by omega))) ⟨Nat.le_refl _, fun _ _ _ => rfl, hS.2.2⟩ hd k)
    | false =>
      obtain ⟨ee, h⟩ := qx_cond h
      have h7 : (qx_sh T σ a).1 ≤ 7 := Nat.le_of_ble_eq_true ee
      refine qx_go1 (hκ _ _ _ _ h) (fun p e R s m args below meth c H locs cells slots lsA Q hcx hR hb hS hl k => ?_)
      have hc : ∃ (cA : ClassId) (x : vp_A) (ty : FieldType) (t0 : Nat), H[qx_ad G a]? = some (vp_cell cA x) ∧ x.1 = (qx_sh T σ a).2 ∧ (qx_tys G)[t0]? = some (cA, ty) := by
        by_cases q1 : (qx_sh T σ a).1 < 3
        · have z := (hR.arr rfl q1).2.2
          have : (qx_sh T σ a).1 = 0 ∨ (qx_sh T σ a).1 = 1 ∨ (qx_sh T σ a).1 = 2 := by omega
          rcases this with q | q | q <;> rw [q] at z
          · exact ⟨_, _, _, 0, z, rfl, rfl⟩
          · exact ⟨_, _, _, 1, z, rfl, rfl⟩
          · exact ⟨_, _, _, 2, z, rfl, rfl⟩
        · by_cases q2 : (qx_sh T σ a).1 = 3
          · exact ⟨_, _, _, 3, (hR.arrL q2).2.2, rfl, rfl⟩
          · have z := (hR.arrR (a := a) rfl (by omega) (by omega)).2.2
            have : (qx_sh T σ a).1 = 4 ∨ (qx_sh T σ a).1 = 5 ∨ (qx_sh T σ a).1 = 6 ∨ (qx_sh T σ a).1 = 7 := by omega
            rcases this with q | q | q | q <;> rw [q] at z
            · exact ⟨_, _, _, 4, z, rfl, rfl⟩
            · exact ⟨_, _, _, 5, z, rfl, rfl⟩
            · exact ⟨_, _, _, 6, z, rfl, rfl⟩
            · exact ⟨_, _, _, 7, z, rfl, rfl⟩
      obtain ⟨cA, x, ty, t0, c1, c2, c3⟩ := hc
      exact va_alen (ws := [(qx_ad G a, .inl (cA, x))]) hcx.1 hcx.2.1 hR.2.1 (fun i q hq => by
        cases i with
        | zero => cases hq; exact c1
        | succ i => simp at hq) 0 t0 rfl c3 (by rw [c2]; rfl) hd k
  · exact h.elim
theorem qs_iaload {G : qx_G} {T : qx_T} {sc : Bool} {call : qx_ca} {d : Nat} {own : String} {Y : qx_Y} {ty : Option FieldType} {lk : List (Nat × qx_L)} {Φ : qx_F} {κ : qx_k} (hκ : ∀ pc' ls' st' σ', κ pc' ls' st' σ' → qx_K G T d own Y pc' ls' st' σ' Φ) {pc len : Nat} {ls st : List Value} {σ : qx_S}  (hd : decode Y.2.1 pc = .ok (.iaload, len)) (hv : qx_vi Y.2.2.1 (.iaload) pc len = true) (h : qx_step T sc call ty lk Φ κ (.iaload) pc len ls st σ) : qx_K G T d own Y pc ls st σ Φ := by
  obtain rfl : len = 1 := qx_beq hv
  simp only [qx_step] at h
  split at h
  · next j a r =>
    cases sc with
    | true =>
      obtain ⟨rfl, hin, h⟩ := h
      exact qx_go1 (hκ _ _ _ _ h) (fun p e R s m args below meth c H locs cells slots lsA Q hcx hR hb hS hl k => va_sld hcx.1 hcx.2.1 hR.2.2.1 (Nat.lt_of_lt_of_le (hR.1.2.2.1 0 (by omega)) (by have := hR.2.2.2.2.2.1; have := hR.2.2.2.2.2.2.1; omega)) (A := qx_A G) (Nat.not_le.mpr (hR.1.2.2.1 0 (by omega))) ⟨Nat.le_refl _, fun _ _ _ => rfl, hS.2.2⟩ hin hd k)
    | false =>
      obtain ⟨ee, hin, h⟩ := qx_cond h
      exact qx_go1 (hκ _ _ _ _ h) (fun p e R s m args below meth c H locs cells slots lsA Q hcx hR hb hS hl k => va_iald (ws := [(qx_ad G a, .inl (qx_cA G 0, (qx_sh T σ a).2, .inl (σ.2.2.2.1 a)))]) hcx.1 hcx.2.1 hR.2.1 (fun i q hq => by
        cases i with
        | zero => cases hq; exact (hR.arr (qx_beq ee) (by omega)).2.2
        | succ i => simp at hq) 0 0 rfl rfl hin hd k)
  · exact h.elim
theorem qs_baload {G : qx_G} {T : qx_T} {sc : Bool} {call : qx_ca} {d : Nat} {own : String} {Y : qx_Y} {ty : Option FieldType} {lk : List (Nat × qx_L)} {Φ : qx_F} {κ : qx_k} (hκ : ∀ pc' ls' st' σ', κ pc' ls' st' σ' → qx_K G T d own Y pc' ls' st' σ' Φ) {pc len : Nat} {ls st : List Value} {σ : qx_S}  (hd : decode Y.2.1 pc = .ok (.baload, len)) (hv : qx_vi Y.2.2.1 (.baload) pc len = true) (h : qx_step T sc call ty lk Φ κ (.baload) pc len ls st σ) : qx_K G T d own Y pc ls st σ Φ := by
  obtain rfl : len = 1 := qx_beq hv
  simp only [qx_step] at h
  split at h
  · next j a r =>
    cases e1 : Nat.beq (qx_sh T σ a).1 1 with
    | true =>
      rw [e1] at h
      obtain ⟨hin, h⟩ := h
      exact qx_go1 (hκ _ _ _ _ h) (fun p e R s m args below meth c H locs cells slots lsA Q hcx hR hb hS hl k => va_bald (ws := [(qx_ad G a, .inl (qx_cA G 1, (qx_sh T σ a).2, .inl (σ.2.2.2.1 a)))]) hcx.1 hcx.2.1 hR.2.1 (fun i q hq => by
        cases i with
        | zero => cases hq; exact (hR.arr (qx_beq e1) (by omega)).2.2
        | succ i => simp at hq) 0 1 rfl rfl hin hd k)
    | false =>
      rw [e1] at h
      obtain ⟨ee, hin, h⟩ := qx_cond h
      exact qx_go1 (hκ _ _ _ _ h) (fun p e R s m args below meth c H locs cells slots lsA Q hcx hR hb hS hl k => va_zald (ws := [(qx_ad G a, .inl (qx_cA G 2, (qx_sh T σ a).2, .inl (σ.2.2.2.1 a)))]) hcx.1 hcx.2.1 hR.2.1 (fun i q hq => by
        cases i with
        | zero => cases hq; exact (hR.arr (qx_beq ee) (by omega)).2.2
        | succ i => simp at hq) 0 2 rfl rfl hin hd k)
  · exact h.elim
theorem qs_laload {G : qx_G} {T : qx_T} {sc : Bool} {call : qx_ca} {d : Nat} {own : String} {Y : qx_Y} {ty : Option FieldType} {lk : List (Nat × qx_L)} {Φ : qx_F} {κ : qx_k} (hκ : ∀ pc' ls' st' σ', κ pc' ls' st' σ' → qx_K G T d own Y pc' ls' st' σ' Φ) {pc len : Nat} {ls st : List Value} {σ : qx_S}  (hd : decode Y.2.1 pc = .ok (.laload, len)) (hv : qx_vi Y.2.2.1 (.laload) pc len = true) (h : qx_step T sc call ty lk Φ κ (.laload) pc len ls st σ) : qx_K G T d own Y pc ls st σ Φ := by
  obtain rfl : len = 1 := qx_beq hv
  simp only [qx_step] at h
  split at h
  · next j a r =>
    obtain ⟨ee, hin, h⟩ := qx_cond h
    exact qx_go1 (hκ _ _ _ _ h) (fun p e R s m args below meth c H locs cells slots lsA Q hcx hR hb hS hl k => va_lald (ws := [(qx_ad G a, .inl (qx_cA G 3, (qx_sh T σ a).2, .inr (.inl (σ.2.2.2.2.1 a))))]) hcx.1 hcx.2.1 hR.2.1 (fun i q hq => by
      cases i with
      | zero => cases hq; exact (hR.arrL (qx_beq ee)).2.2
      | succ i => simp at hq) 0 3 rfl rfl hin hd k)
  · exact h.elim
