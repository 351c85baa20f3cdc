theorem qx_i2_inv {st : List Value} {K : Int32 → Int32 → List Value → Prop} (h : qx_i2 st K) : ∃ x y r, st = .int y :: .int x :: r ∧ K x y r := by
  unfold qx_i2 at h
  split at h
  · exact ⟨_, _, _, rfl, h⟩
  · exact h.elim
theorem qx_l2_inv {st : List Value} {K : Int64 → Int64 → List Value → Prop} (h : qx_l2 st K) : ∃ x y r, st = .long y :: .long x :: r ∧ K x y r := by
  unfold qx_l2 at h
  split at h
  · exact ⟨_, _, _, rfl, h⟩
  · exact h.elim
theorem qx_lda_inv {v : Value} {K : Value → Prop} (h : qx_lda v K) : ((∃ a, v = .ref a) ∨ v = .null) ∧ K v := by
  unfold qx_lda at h
  split at h
  · exact ⟨Or.inl ⟨_, rfl⟩, h⟩
  · exact ⟨Or.inr rfl, h⟩
  · exact h.elim
theorem qx_ldi_inv {v : Value} {K : Value → Prop} (h : qx_ldi v K) : ∃ a, v = .int a ∧ K (.int a) := by
  unfold qx_ldi at h
  split at h
  · exact ⟨_, rfl, h⟩
  · exact h.elim
theorem qx_ldl_inv {v : Value} {K : Value → Prop} (h : qx_ldl v K) : ∃ a, v = .long a ∧ K (.long a) := by
  unfold qx_ldl at h
  split at h
  · exact ⟨_, rfl, h⟩
  · exact h.elim
theorem qx_sta_inv {st : List Value} {K : Value → List Value → Prop} (h : qx_sta st K) : ∃ v r, st = v :: r ∧ ((∃ a, v = .ref a) ∨ v = .null) ∧ K v r := by
  unfold qx_sta at h
  split at h
  · exact ⟨_, _, rfl, Or.inl ⟨_, rfl⟩, h⟩
  · exact ⟨_, _, rfl, Or.inr rfl, h⟩
  · exact h.elim
theorem qx_sti_inv {st : List Value} {K : Value → List Value → Prop} (h : qx_sti st K) : ∃ a r, st = .int a :: r ∧ K (.int a) r := by
  unfold qx_sti at h
  split at h
  · exact ⟨_, _, rfl, h⟩
  · exact h.elim
theorem qx_stl_inv {st : List Value} {K : Value → List Value → Prop} (h : qx_stl st K) : ∃ a r, st = .long a :: r ∧ K (.long a) r := by
  unfold qx_stl at h
  split at h
  · exact ⟨_, _, rfl, h⟩
  · exact h.elim
theorem qx_cond {b : Bool} {A : Prop} (h : cond b A False) : b = true ∧ A := by
  cases b with
  | true => exact ⟨rfl, h⟩
  | false => exact h.elim
theorem qs_iadd {G : qx_G} {T : qx_T} {sc : Bool} {call : qx_ca} {d : Nat} {own : String} {Y : qx_Y} {ty : Option FieldType} {lk : List (Nat × qx_L)} {Φ : qx_F} {κ : qx_k} (hκ : ∀ pc' ls' st' σ', κ pc' ls' st' σ' → qx_K G T d own Y pc' ls' st' σ' Φ) {pc len : Nat} {ls st : List Value} {σ : qx_S}  (hd : decode Y.2.1 pc = .ok (.iadd, len)) (hv : qx_vi Y.2.2.1 (.iadd) pc len = true) (h : qx_step T sc call ty lk Φ κ (.iadd) pc len ls st σ) : qx_K G T d own Y pc ls st σ Φ := by
  obtain rfl : len = 1 := qx_beq hv
  obtain ⟨x, y, r, rfl, h⟩ := qx_i2_inv h
  exact qx_go1 (hκ _ _ _ _ h) (fun p e R s m args below meth c H locs cells slots lsA Q hcx hR hb hS hl k => lv_iadd hcx.1 hcx.2.1 hd k)
theorem qs_isub {G : qx_G} {T : qx_T} {sc : Bool} {call : qx_ca} {d : Nat} {own : String} {Y : qx_Y} {ty : Option FieldType} {lk : List (Nat × qx_L)} {Φ : qx_F} {κ : qx_k} (hκ : ∀ pc' ls' st' σ', κ pc' ls' st' σ' → qx_K G T d own Y pc' ls' st' σ' Φ) {pc len : Nat} {ls st : List Value} {σ : qx_S}  (hd : decode Y.2.1 pc = .ok (.isub, len)) (hv : qx_vi Y.2.2.1 (.isub) pc len = true) (h : qx_step T sc call ty lk Φ κ (.isub) pc len ls st σ) : qx_K G T d own Y pc ls st σ Φ := by
  obtain rfl : len = 1 := qx_beq hv
  obtain ⟨x, y, r, rfl, h⟩ := qx_i2_inv h
  exact qx_go1 (hκ _ _ _ _ h) (fun p e R s m args below meth c H locs cells slots lsA Q hcx hR hb hS hl k => lv_isub hcx.1 hcx.2.1 hd k)
theorem qs_imul {G : qx_G} {T : qx_T} {sc : Bool} {call : qx_ca} {d : Nat} {own : String} {Y : qx_Y} {ty : Option FieldType} {lk : List (Nat × qx_L)} {Φ : qx_F} {κ : qx_k} (hκ : ∀ pc' ls' st' σ', κ pc' ls' st' σ' → qx_K G T d own Y pc' ls' st' σ' Φ) {pc len : Nat} {ls st : List Value} {σ : qx_S}  (hd : decode Y.2.1 pc = .ok (.imul, len)) (hv : qx_vi Y.2.2.1 (.imul) pc len = true) (h : qx_step T sc call ty lk Φ κ (.imul) pc len ls st σ) : qx_K G T d own Y pc ls st σ Φ := by
  obtain rfl : len = 1 := qx_beq hv
  obtain ⟨x, y, r, rfl, h⟩ := qx_i2_inv h
  exact qx_go1 (hκ _ _ _ _ h) (fun p e R s m args below meth c H locs cells slots lsA Q hcx hR hb hS hl k => lv_imul hcx.1 hcx.2.1 hd k)
theorem qs_iand {G : qx_G} {T : qx_T} {sc : Bool} {call : qx_ca} {d : Nat} {own : String} {Y : qx_Y} {ty : Option FieldType} {lk : List (Nat × qx_L)} {Φ : qx_F} {κ : qx_k} (hκ : ∀ pc' ls' st' σ', κ pc' ls' st' σ' → qx_K G T d own Y pc' ls' st' σ' Φ) {pc len : Nat} {ls st : List Value} {σ : qx_S}  (hd : decode Y.2.1 pc = .ok (.iand, len)) (hv : qx_vi Y.2.2.1 (.iand) pc len = true) (h : qx_step T sc call ty lk Φ κ (.iand) pc len ls st σ) : qx_K G T d own Y pc ls st σ Φ := by
  obtain rfl : len = 1 := qx_beq hv
  obtain ⟨x, y, r, rfl, h⟩ := qx_i2_inv h
  exact qx_go1 (hκ _ _ _ _ h) (fun p e R s m args below meth c H locs cells slots lsA Q hcx hR hb hS hl k => lv_iand hcx.1 hcx.2.1 hd k)
theorem qs_ior {G : qx_G} {T : qx_T} {sc : Bool} {call : qx_ca} {d : Nat} {own : String} {Y : qx_Y} {ty : Option FieldType} {lk : List (Nat × qx_L)} {Φ : qx_F} {κ : qx_k} (hκ : ∀ pc' ls' st' σ', κ pc' ls' st' σ' → qx_K G T d own Y pc' ls' st' σ' Φ) {pc len : Nat} {ls st : List Value} {σ : qx_S}  (hd : decode Y.2.1 pc = .ok (.ior, len)) (hv : qx_vi Y.2.2.1 (.ior) pc len = true) (h : qx_step T sc call ty lk Φ κ (.ior) pc len ls st σ) : qx_K G T d own Y pc ls st σ Φ := by
  obtain rfl : len = 1 := qx_beq hv
  obtain ⟨x, y, r, rfl, h⟩ := qx_i2_inv h
  exact qx_go1 (hκ _ _ _ _ h) (fun p e R s m args below meth c H locs cells slots lsA Q hcx hR hb hS hl k => lv_ior hcx.1 hcx.2.1 hd k)
theorem qs_ixor {G : qx_G} {T : qx_T} {sc : Bool} {call : qx_ca} {d : Nat} {own : String} {Y : qx_Y} {ty : Option FieldType} {lk : List (Nat × qx_L)} {Φ : qx_F} {κ : qx_k} (hκ : ∀ pc' ls' st' σ', κ pc' ls' st' σ' → qx_K G T d own Y pc' ls' st' σ' Φ) {pc len : Nat} {ls st : List Value} {σ : qx_S}  (hd : decode Y.2.1 pc = .ok (.ixor, len)) (hv : qx_vi Y.2.2.1 (.ixor) pc len = true) (h : qx_step T sc call ty lk Φ κ (.ixor) pc len ls st σ) : qx_K G T d own Y pc ls st σ Φ := by
  obtain rfl : len = 1 := qx_beq hv
  obtain ⟨x, y, r, rfl, h⟩ := qx_i2_inv h
  exact qx_go1 (hκ _ _ _ _ h) (fun p e R s m args below meth c H locs cells slots lsA Q hcx hR hb hS hl k => lv_ixor hcx.1 hcx.2.1 hd k)
theorem qs_ishl {G : qx_G} {T : qx_T} {sc : Bool} {call : qx_ca} {d : Nat} {own : String} {Y : qx_Y} {ty : Option FieldType} {lk : List (Nat × qx_L)} {Φ : qx_F} {κ : qx_k} (hκ : ∀ pc' ls' st' σ', κ pc' ls' st' σ' → qx_K G T d own Y pc' ls' st' σ' Φ) {pc len : Nat} {ls st : List Value} {σ : qx_S}  (hd : decode Y.2.1 pc = .ok (.ishl, len)) (hv : qx_vi Y.2.2.1 (.ishl) pc len = true) (h : qx_step T sc call ty lk Φ κ (.ishl) pc len ls st σ) : qx_K G T d own Y pc ls st σ Φ := by
  obtain rfl : len = 1 := qx_beq hv
  obtain ⟨x, y, r, rfl, h⟩ := qx_i2_inv h
  exact qx_go1 (hκ _ _ _ _ h) (fun p e R s m args below meth c H locs cells slots lsA Q hcx hR hb hS hl k => lv_ishl hcx.1 hcx.2.1 hd k)
theorem qs_ishr {G : qx_G} {T : qx_T} {sc : Bool} {call : qx_ca} {d : Nat} {own : String} {Y : qx_Y} {ty : Option FieldType} {lk : List (Nat × qx_L)} {Φ : qx_F} {κ : qx_k} (hκ : ∀ pc' ls' st' σ', κ pc' ls' st' σ' → qx_K G T d own Y pc' ls' st' σ' Φ) {pc len : Nat} {ls st : List Value} {σ : qx_S}  (hd : decode Y.2.1 pc = .ok (.ishr, len)) (hv : qx_vi Y.2.2.1 (.ishr) pc len = true) (h : qx_step T sc call ty lk Φ κ (.ishr) pc len ls st σ) : qx_K G T d own Y pc ls st σ Φ := by
  obtain rfl : len = 1 := qx_beq hv
  obtain ⟨x, y, r, rfl, h⟩ := qx_i2_inv h
  exact qx_go1 (hκ _ _ _ _ h) (fun p e R s m args below meth c H locs cells slots lsA Q hcx hR hb hS hl k => lv_ishr hcx.1 hcx.2.1 hd k)
theorem qs_idiv {G : qx_G} {T : qx_T} {sc : Bool} {call : qx_ca} {d : Nat} {own : String} {Y : qx_Y} {ty : Option FieldType} {lk : List (Nat × qx_L)} {Φ : qx_F} {κ : qx_k} (hκ : ∀ pc' ls' st' σ', κ pc' ls' st' σ' → qx_K G T d own Y pc' ls' st' σ' Φ) {pc len : Nat} {ls st : List Value} {σ : qx_S}  (hd : decode Y.2.1 pc = .ok (.idiv, len)) (hv : qx_vi Y.2.2.1 (.idiv) pc len = true) (h : qx_step T sc call ty lk Φ κ (.idiv) pc len ls st σ) : qx_K G T d own Y pc ls st σ Φ := by
  obtain rfl : len = 1 := qx_beq hv
  obtain ⟨x, y, r, rfl, h0, h⟩ := qx_i2_inv h
  exact qx_go1 (hκ _ _ _ _ h) (fun p e R s m args below meth c H locs cells slots lsA Q hcx hR hb hS hl k => lv_idiv hcx.1 hcx.2.1 hd h0 k)
theorem qs_irem {G : qx_G} {T : qx_T} {sc : Bool} {call : qx_ca} {d : Nat} {own : String} {Y : qx_Y} {ty : Option FieldType} {lk : List (Nat × qx_L)} {Φ : qx_F} {κ : qx_k} (hκ : ∀ pc' ls' st' σ', κ pc' ls' st' σ' → qx_K G T d own Y pc' ls' st' σ' Φ) {pc len : Nat} {ls st : List Value} {σ : qx_S}  (hd : decode Y.2.1 pc = .ok (.irem, len)) (hv : qx_vi Y.2.2.1 (.irem) pc len = true) (h : qx_step T sc call ty lk Φ κ (.irem) pc len ls st σ) : qx_K G T d own Y pc ls st σ Φ := by
  obtain rfl : len = 1 := qx_beq hv
  obtain ⟨x, y, r, rfl, h0, h⟩ := qx_i2_inv h
  exact qx_go1 (hκ _ _ _ _ h) (fun p e R s m args below meth c H locs cells slots lsA Q hcx hR hb hS hl k => lv_irem hcx.1 hcx.2.1 hd h0 k)
theorem qs_iushr {G : qx_G} {T : qx_T} {sc : Bool} {call : qx_ca} {d : Nat} {own : String} {Y : qx_Y} {ty : Option FieldType} {lk : List (Nat × qx_L)} {Φ : qx_F} {κ : qx_k} (hκ : ∀ pc' ls' st' σ', κ pc' ls' st' σ' → qx_K G T d own Y pc' ls' st' σ' Φ) {pc len : Nat} {ls st : List Value} {σ : qx_S}  (hd : decode Y.2.1 pc = .ok (.iushr, len)) (hv : qx_vi Y.2.2.1 (.iushr) pc len = true) (h : qx_step T sc call ty lk Φ κ (.iushr) pc len ls st σ) : qx_K G T d own Y pc ls st σ Φ := by
  obtain rfl : len = 1 := qx_beq hv
  obtain ⟨x, y, r, rfl, h⟩ := qx_i2_inv h
  exact qx_go1 (hκ _ _ _ _ h) (fun p e R s m args below meth c H locs cells slots lsA Q hcx hR hb hS hl k => lv_iushr hcx.1 hcx.2.1 hd rfl k)
theorem qs_ineg {G : qx_G} {T : qx_T} {sc : Bool} {call : qx_ca} {d : Nat} {own : String} {Y : qx_Y} {ty : Option FieldType} {lk : List (Nat × qx_L)} {Φ : qx_F} {κ : qx_k} (hκ : ∀ pc' ls' st' σ', κ pc' ls' st' σ' → qx_K G T d own Y pc' ls' st' σ' Φ) {pc len : Nat} {ls st : List Value} {σ : qx_S}  (hd : decode Y.2.1 pc = .ok (.ineg, len)) (hv : qx_vi Y.2.2.1 (.ineg) pc len = true) (h : qx_step T sc call ty lk Φ κ (.ineg) pc len ls st σ) : qx_K G T d own Y pc ls st σ Φ := by
  obtain rfl : len = 1 := qx_beq hv
  simp only [qx_step] at h
  obtain ⟨x, r, rfl, h⟩ := qx_sti_inv h
  exact qx_go1 (hκ _ _ _ _ h) (fun p e R s m args below meth c H locs cells slots lsA Q hcx hR hb hS hl k => lv_ineg hcx.1 hcx.2.1 hd k)
theorem qs_ladd {G : qx_G} {T : qx_T} {sc : Bool} {call : qx_ca} {d : Nat} {own : String} {Y : qx_Y} {ty : Option FieldType} {lk : List (Nat × qx_L)} {Φ : qx_F} {κ : qx_k} (hκ : ∀ pc' ls' st' σ', κ pc' ls' st' σ' → qx_K G T d own Y pc' ls' st' σ' Φ) {pc len : Nat} {ls st : List Value} {σ : qx_S}  (hd : decode Y.2.1 pc = .ok (.ladd, len)) (hv : qx_vi Y.2.2.1 (.ladd) pc len = true) (h : qx_step T sc call ty lk Φ κ (.ladd) pc len ls st σ) : qx_K G T d own Y pc ls st σ Φ := by
  obtain rfl : len = 1 := qx_beq hv
  obtain ⟨x, y, r, rfl, h⟩ := qx_l2_inv h
  exact qx_go1 (hκ _ _ _ _ h) (fun p e R s m args below meth c H locs cells slots lsA Q hcx hR hb hS hl k => lv_ladd hcx.1 hcx.2.1 hd k)
theorem qs_lsub {G : qx_G} {T : qx_T} {sc : Bool} {call : qx_ca} {d : Nat} {own : String} {Y : qx_Y} {ty : Option FieldType} {lk : List (Nat × qx_L)} {Φ : qx_F} {κ : qx_k} (hκ : ∀ pc' ls' st' σ', κ pc' ls' st' σ' → qx_K G T d own Y pc' ls' st' σ' Φ) {pc len : Nat} {ls st : List Value} {σ : qx_S}  (hd : decode Y.2.1 pc = .ok (.lsub, len)) (hv : qx_vi Y.2.2.1 (.lsub) pc len = true) (h : qx_step T sc call ty lk Φ κ (.lsub) pc len ls st σ) : qx_K G T d own Y pc ls st σ Φ := by
  obtain rfl : len = 1 := qx_beq hv
  obtain ⟨x, y, r, rfl, h⟩ := qx_l2_inv h
  exact qx_go1 (hκ _ _ _ _ h) (fun p e R s m args below meth c H locs cells slots lsA Q hcx hR hb hS hl k => lv_lsub hcx.1 hcx.2.1 hd k)
theorem qs_lmul {G : qx_G} {T : qx_T} {sc : Bool} {call : qx_ca} {d : Nat} {own : String} {Y : qx_Y} {ty : Option FieldType} {lk : List (Nat × qx_L)} {Φ : qx_F} {κ : qx_k} (hκ : ∀ pc' ls' st' σ', κ pc' ls' st' σ' → qx_K G T d own Y pc' ls' st' σ' Φ) {pc len : Nat} {ls st : List Value} {σ : qx_S}  (hd : decode Y.2.1 pc = .ok (.lmul, len)) (hv : qx_vi Y.2.2.1 (.lmul) pc len = true) (h : qx_step T sc call ty lk Φ κ (.lmul) pc len ls st σ) : qx_K G T d own Y pc ls st σ Φ := by
  obtain rfl : len = 1 := qx_beq hv
  obtain ⟨x, y, r, rfl, h⟩ := qx_l2_inv h
  exact qx_go1 (hκ _ _ _ _ h) (fun p e R s m args below meth c H locs cells slots lsA Q hcx hR hb hS hl k => lv_lmul hcx.1 hcx.2.1 hd k)
theorem qs_land {G : qx_G} {T : qx_T} {sc : Bool} {call : qx_ca} {d : Nat} {own : String} {Y : qx_Y} {ty : Option FieldType} {lk : List (Nat × qx_L)} {Φ : qx_F} {κ : qx_k} (hκ : ∀ pc' ls' st' σ', κ pc' ls' st' σ' → qx_K G T d own Y pc' ls' st' σ' Φ) {pc len : Nat} {ls st : List Value} {σ : qx_S}  (hd : decode Y.2.1 pc = .ok (.land, len)) (hv : qx_vi Y.2.2.1 (.land) pc len = true) (h : qx_step T sc call ty lk Φ κ (.land) pc len ls st σ) : qx_K G T d own Y pc ls st σ Φ := by
  obtain rfl : len = 1 := qx_beq hv
  obtain ⟨x, y, r, rfl, h⟩ := qx_l2_inv h
  exact qx_go1 (hκ _ _ _ _ h) (fun p e R s m args below meth c H locs cells slots lsA Q hcx hR hb hS hl k => lv_land hcx.1 hcx.2.1 hd k)
theorem qs_lor {G : qx_G} {T : qx_T} {sc : Bool} {call : qx_ca} {d : Nat} {own : String} {Y : qx_Y} {ty : Option FieldType} {lk : List (Nat × qx_L)} {Φ : qx_F} {κ : qx_k} (hκ : ∀ pc' ls' st' σ', κ pc' ls' st' σ' → qx_K G T d own Y pc' ls' st' σ' Φ) {pc len : Nat} {ls st : List Value} {σ : qx_S}  (hd : decode Y.2.1 pc = .ok (.lor, len)) (hv : qx_vi Y.2.2.1 (.lor) pc len = true) (h : qx_step T sc call ty lk Φ κ (.lor) pc len ls st σ) : qx_K G T d own Y pc ls st σ Φ := by
  obtain rfl : len = 1 := qx_beq hv
  obtain ⟨x, y, r, rfl, h⟩ := qx_l2_inv h
  exact qx_go1 (hκ _ _ _ _ h) (fun p e R s m args below meth c H locs cells slots lsA Q hcx hR hb hS hl k => lv_lor hcx.1 hcx.2.1 hd k)
theorem qs_ldiv {G : qx_G} {T : qx_T} {sc : Bool} {call : qx_ca} {d : Nat} {own : String} {Y : qx_Y} {ty : Option FieldType} {lk : List (Nat × qx_L)} {Φ : qx_F} {κ : qx_k} (hκ : ∀ pc' ls' st' σ', κ pc' ls' st' σ' → qx_K G T d own Y pc' ls' st' σ' Φ) {pc len : Nat} {ls st : List Value} {σ : qx_S}  (hd : decode Y.2.1 pc = .ok (.ldiv, len)) (hv : qx_vi Y.2.2.1 (.ldiv) pc len = true) (h : qx_step T sc call ty lk Φ κ (.ldiv) pc len ls st σ) : qx_K G T d own Y pc ls st σ Φ := by
  obtain rfl : len = 1 := qx_beq hv
  obtain ⟨x, y, r, rfl, h0, h⟩ := qx_l2_inv h
  exact qx_go1 (hκ _ _ _ _ h) (fun p e R s m args below meth c H locs cells slots lsA Q hcx hR hb hS hl k => lv_ldiv hcx.1 hcx.2.1 hd h0 k)
theorem qs_lrem {G : qx_G} {T : qx_T} {sc : Bool} {call : qx_ca} {d : Nat} {own : String} {Y : qx_Y} {ty : Option FieldType} {lk : List (Nat × qx_L)} {Φ : qx_F} {κ : qx_k} (hκ : ∀ pc' ls' st' σ', κ pc' ls' st' σ' → qx_K G T d own Y pc' ls' st' σ' Φ) {pc len : Nat} {ls st : List Value} {σ : qx_S}  (hd : decode Y.2.1 pc = .ok (.lrem, len)) (hv : qx_vi Y.2.2.1 (.lrem) pc len = true) (h : qx_step T sc call ty lk Φ κ (.lrem) pc len ls st σ) : qx_K G T d own Y pc ls st σ Φ := by
  obtain rfl : len = 1 := qx_beq hv
  obtain ⟨x, y, r, rfl, h0, h⟩ := qx_l2_inv h
  exact qx_go1 (hκ _ _ _ _ h) (fun p e R s m args below meth c H locs cells slots lsA Q hcx hR hb hS hl k => lv_lrem hcx.1 hcx.2.1 hd h0 k)
theorem qs_lcmp {G : qx_G} {T : qx_T} {sc : Bool} {call : qx_ca} {d : Nat} {own : String} {Y : qx_Y} {ty : Option FieldType} {lk : List (Nat × qx_L)} {Φ : qx_F} {κ : qx_k} (hκ : ∀ pc' ls' st' σ', κ pc' ls' st' σ' → qx_K G T d own Y pc' ls' st' σ' Φ) {pc len : Nat} {ls st : List Value} {σ : qx_S}  (hd : decode Y.2.1 pc = .ok (.lcmp, len)) (hv : qx_vi Y.2.2.1 (.lcmp) pc len = true) (h : qx_step T sc call ty lk Φ κ (.lcmp) pc len ls st σ) : qx_K G T d own Y pc ls st σ Φ := by
  obtain rfl : len = 1 := qx_beq hv
  obtain ⟨x, y, r, rfl, h⟩ := qx_l2_inv h
  exact qx_go1 (hκ _ _ _ _ h) (fun p e R s m args below meth c H locs cells slots lsA Q hcx hR hb hS hl k => W.lcmp hcx.1 hcx.2.1 hd k)
theorem qs_i2l {G : qx_G} {T : qx_T} {sc : Bool} {call : qx_ca} {d : Nat} {own : String} {Y : qx_Y} {ty : Option FieldType} {lk : List (Nat × qx_L)} {Φ : qx_F} {κ : qx_k} (hκ : ∀ pc' ls' st' σ', κ pc' ls' st' σ' → qx_K G T d own Y pc' ls' st' σ' Φ) {pc len : Nat} {ls st : List Value} {σ : qx_S}  (hd : decode Y.2.1 pc = .ok (.i2l, len)) (hv : qx_vi Y.2.2.1 (.i2l) pc len = true) (h : qx_step T sc call ty lk Φ κ (.i2l) pc len ls st σ) : qx_K G T d own Y pc ls st σ Φ := by
  obtain rfl : len = 1 := qx_beq hv
  simp only [qx_step] at h
  split at h
  · exact qx_go1 (hκ _ _ _ _ h) (fun p e R s m args below meth c H locs cells slots lsA Q hcx hR hb hS hl k => lv_i2l hcx.1 hcx.2.1 hd rfl k)
  · exact h.elim
theorem qs_l2i {G : qx_G} {T : qx_T} {sc : Bool} {call : qx_ca} {d : Nat} {own : String} {Y : qx_Y} {ty : Option FieldType} {lk : List (Nat × qx_L)} {Φ : qx_F} {κ : qx_k} (hκ : ∀ pc' ls' st' σ', κ pc' ls' st' σ' → qx_K G T d own Y pc' ls' st' σ' Φ) {pc len : Nat} {ls st : List Value} {σ : qx_S}  (hd : decode Y.2.1 pc = .ok (.l2i, len)) (hv : qx_vi Y.2.2.1 (.l2i) pc len = true) (h : qx_step T sc call ty lk Φ κ (.l2i) pc len ls st σ) : qx_K G T d own Y pc ls st σ Φ := by
  obtain rfl : len = 1 := qx_beq hv
  simp only [qx_step] at h
  split at h
  · exact qx_go1 (hκ _ _ _ _ h) (fun p e R s m args below meth c H locs cells slots lsA Q hcx hR hb hS hl k => lv_l2i hcx.1 hcx.2.1 hd rfl k)
  · exact h.elim
theorem qs_i2b {G : qx_G} {T : qx_T} {sc : Bool} {call : qx_ca} {d : Nat} {own : String} {Y : qx_Y} {ty : Option FieldType} {lk : List (Nat × qx_L)} {Φ : qx_F} {κ : qx_k} (hκ : ∀ pc' ls' st' σ', κ pc' ls' st' σ' → qx_K G T d own Y pc' ls' st' σ' Φ) {pc len : Nat} {ls st : List Value} {σ : qx_S}  (hd : decode Y.2.1 pc = .ok (.i2b, len)) (hv : qx_vi Y.2.2.1 (.i2b) pc len = true) (h : qx_step T sc call ty lk Φ κ (.i2b) pc len ls st σ) : qx_K G T d own Y pc ls st σ Φ := by
  obtain rfl : len = 1 := qx_beq hv
  simp only [qx_step] at h
  split at h
  · exact qx_go1 (hκ _ _ _ _ h) (fun p e R s m args below meth c H locs cells slots lsA Q hcx hR hb hS hl k => lv_i2b hcx.1 hcx.2.1 hd rfl k)
  · exact h.elim
theorem qs_lshl {G : qx_G} {T : qx_T} {sc : Bool} {call : qx_ca} {d : Nat} {own : String} {Y : qx_Y} {ty : Option FieldType} {lk : List (Nat × qx_L)} {Φ : qx_F} {κ : qx_k} (hκ : ∀ pc' ls' st' σ', κ pc' ls' st' σ' → qx_K G T d own Y pc' ls' st' σ' Φ) {pc len : Nat} {ls st : List Value} {σ : qx_S}  (hd : decode Y.2.1 pc = .ok (.lshl, len)) (hv : qx_vi Y.2.2.1 (.lshl) pc len = true) (h : qx_step T sc call ty lk Φ κ (.lshl) pc len ls st σ) : qx_K G T d own Y pc ls st σ Φ := by
  obtain rfl : len = 1 := qx_beq hv
  simp only [qx_step] at h
  split at h
  · exact qx_go1 (hκ _ _ _ _ h) (fun p e R s m args below meth c H locs cells slots lsA Q hcx hR hb hS hl k => lv_lshl hcx.1 hcx.2.1 hd rfl k)
  · exact h.elim
theorem qs_iconst {G : qx_G} {T : qx_T} {sc : Bool} {call : qx_ca} {d : Nat} {own : String} {Y : qx_Y} {ty : Option FieldType} {lk : List (Nat × qx_L)} {Φ : qx_F} {κ : qx_k} (hκ : ∀ pc' ls' st' σ', κ pc' ls' st' σ' → qx_K G T d own Y pc' ls' st' σ' Φ) {pc len : Nat} {ls st : List Value} {σ : qx_S} {n : Int} (hd : decode Y.2.1 pc = .ok (.iconst n, len)) (hv : qx_vi Y.2.2.1 (.iconst n) pc len = true) (h : qx_step T sc call ty lk Φ κ (.iconst n) pc len ls st σ) : qx_K G T d own Y pc ls st σ Φ := by
  simp only [qx_vi, Bool.and_eq_true, decide_eq_true_eq] at hv
  obtain rfl : len = 1 := qx_beq hv.1
  exact qx_go1 (hκ _ _ _ _ h) (fun p e R s m args below meth c H locs cells slots lsA Q hcx hR hb hS hl k => lv_iconst hcx.1 hcx.2.1 hd hv.2 k)
theorem qs_bipush {G : qx_G} {T : qx_T} {sc : Bool} {call : qx_ca} {d : Nat} {own : String} {Y : qx_Y} {ty : Option FieldType} {lk : List (Nat × qx_L)} {Φ : qx_F} {κ : qx_k} (hκ : ∀ pc' ls' st' σ', κ pc' ls' st' σ' → qx_K G T d own Y pc' ls' st' σ' Φ) {pc len : Nat} {ls st : List Value} {σ : qx_S} {n : Int} (hd : decode Y.2.1 pc = .ok (.bipush n, len)) (hv : qx_vi Y.2.2.1 (.bipush n) pc len = true) (h : qx_step T sc call ty lk Φ κ (.bipush n) pc len ls st σ) : qx_K G T d own Y pc ls st σ Φ := by
  simp only [qx_vi, Bool.and_eq_true, decide_eq_true_eq] at hv
  obtain rfl : len = 2 := qx_beq hv.1
  exact qx_go1 (hκ _ _ _ _ h) (fun p e R s m args below meth c H locs cells slots lsA Q hcx hR hb hS hl k => lv_bipush hcx.1 hcx.2.1 hd hv.2 k)
theorem qs_sipush {G : qx_G} {T : qx_T} {sc : Bool} {call : qx_ca} {d : Nat} {own : String} {Y : qx_Y} {ty : Option FieldType} {lk : List (Nat × qx_L)} {Φ : qx_F} {κ : qx_k} (hκ : ∀ pc' ls' st' σ', κ pc' ls' st' σ' → qx_K G T d own Y pc' ls' st' σ' Φ) {pc len : Nat} {ls st : List Value} {σ : qx_S} {n : Int} (hd : decode Y.2.1 pc = .ok (.sipush n, len)) (hv : qx_vi Y.2.2.1 (.sipush n) pc len = true) (h : qx_step T sc call ty lk Φ κ (.sipush n) pc len ls st σ) : qx_K G T d own Y pc ls st σ Φ := by
  simp only [qx_vi, Bool.and_eq_true, decide_eq_true_eq] at hv
  obtain rfl : len = 3 := qx_beq hv.1
  exact qx_go1 (hκ _ _ _ _ h) (fun p e R s m args below meth c H locs cells slots lsA Q hcx hR hb hS hl k => lv_sipush hcx.1 hcx.2.1 hd hv.2 k)
theorem qs_lconst {G : qx_G} {T : qx_T} {sc : Bool} {call : qx_ca} {d : Nat} {own : String} {Y : qx_Y} {ty : Option FieldType} {lk : List (Nat × qx_L)} {Φ : qx_F} {κ : qx_k} (hκ : ∀ pc' ls' st' σ', κ pc' ls' st' σ' → qx_K G T d own Y pc' ls' st' σ' Φ) {pc len : Nat} {ls st : List Value} {σ : qx_S} {n : Fin 2} (hd : decode Y.2.1 pc = .ok (.lconst n, len)) (hv : qx_vi Y.2.2.1 (.lconst n) pc len = true) (h : qx_step T sc call ty lk Φ κ (.lconst n) pc len ls st σ) : qx_K G T d own Y pc ls st σ Φ := by
  obtain rfl : len = 1 := qx_beq hv
  exact qx_go1 (hκ _ _ _ _ h) (fun p e R s m args below meth c H locs cells slots lsA Q hcx hR hb hS hl k => lv_lconst hcx.1 hcx.2.1 hd rfl k)
theorem qs_null {G : qx_G} {T : qx_T} {sc : Bool} {call : qx_ca} {d : Nat} {own : String} {Y : qx_Y} {ty : Option FieldType} {lk : List (Nat × qx_L)} {Φ : qx_F} {κ : qx_k} (hκ : ∀ pc' ls' st' σ', κ pc' ls' st' σ' → qx_K G T d own Y pc' ls' st' σ' Φ) {pc len : Nat} {ls st : List Value} {σ : qx_S}  (hd : decode Y.2.1 pc = .ok (.aconst_null, len)) (hv : qx_vi Y.2.2.1 (.aconst_null) pc len = true) (h : qx_step T sc call ty lk Φ κ (.aconst_null) pc len ls st σ) : qx_K G T d own Y pc ls st σ Φ := by
  obtain rfl : len = 1 := qx_beq hv
  exact qx_go1 (hκ _ _ _ _ h) (fun p e R s m args below meth c H locs cells slots lsA Q hcx hR hb hS hl k => lv_null hcx.1 hcx.2.1 hd k)
theorem qs_iload {G : qx_G} {T : qx_T} {sc : Bool} {call : qx_ca} {d : Nat} {own : String} {Y : qx_Y} {ty : Option FieldType} {lk : List (Nat × qx_L)} {Φ : qx_F} {κ : qx_k} (hκ : ∀ pc' ls' st' σ', κ pc' ls' st' σ' → qx_K G T d own Y pc' ls' st' σ' Φ) {pc len : Nat} {ls st : List Value} {σ : qx_S} {n : Nat} (hd : decode Y.2.1 pc = .ok (.iload n, len)) (hv : qx_vi Y.2.2.1 (.iload n) pc len = true) (h : qx_step T sc call ty lk Φ κ (.iload n) pc len ls st σ) : qx_K G T d own Y pc ls st σ Φ := by
  obtain rfl : len = 2 := qx_beq hv
  simp only [qx_step] at h
  obtain ⟨x, ee, h⟩ := qx_ldi_inv h
  exact qx_go1 (hκ _ _ _ _ h) (fun p e R s m args below meth c H locs cells slots lsA Q hcx hR hb hS hl k => lv_iload hcx.1 hcx.2.1 hd (hl.at ee (by intro z; cases z)) k)
theorem qs_iload_n {G : qx_G} {T : qx_T} {sc : Bool} {call : qx_ca} {d : Nat} {own : String} {Y : qx_Y} {ty : Option FieldType} {lk : List (Nat × qx_L)} {Φ : qx_F} {κ : qx_k} (hκ : ∀ pc' ls' st' σ', κ pc' ls' st' σ' → qx_K G T d own Y pc' ls' st' σ' Φ) {pc len : Nat} {ls st : List Value} {σ : qx_S} {n : Fin 4} (hd : decode Y.2.1 pc = .ok (.iload_n n, len)) (hv : qx_vi Y.2.2.1 (.iload_n n) pc len = true) (h : qx_step T sc call ty lk Φ κ (.iload_n n) pc len ls st σ) : qx_K G T d own Y pc ls st σ Φ := by
  obtain rfl : len = 1 := qx_beq hv
  simp only [qx_step] at h
  obtain ⟨x, ee, h⟩ := qx_ldi_inv h
  exact qx_go1 (hκ _ _ _ _ h) (fun p e R s m args below meth c H locs cells slots lsA Q hcx hR hb hS hl k => lv_iload_n hcx.1 hcx.2.1 hd rfl (hl.at ee (by intro z; cases z)) k)
theorem qs_lload {G : qx_G} {T : qx_T} {sc : Bool} {call : qx_ca} {d : Nat} {own : String} {Y : qx_Y} {ty : Option FieldType} {lk : List (Nat × qx_L)} {Φ : qx_F} {κ : qx_k} (hκ : ∀ pc' ls' st' σ', κ pc' ls' st' σ' → qx_K G T d own Y pc' ls' st' σ' Φ) {pc len : Nat} {ls st : List Value} {σ : qx_S} {n : Nat} (hd : decode Y.2.1 pc = .ok (.lload n, len)) (hv : qx_vi Y.2.2.1 (.lload n) pc len = true) (h : qx_step T sc call ty lk Φ κ (.lload n) pc len ls st σ) : qx_K G T d own Y pc ls st σ Φ := by
  obtain rfl : len = 2 := qx_beq hv
  simp only [qx_step] at h
  obtain ⟨x, ee, h⟩ := qx_ldl_inv h
  exact qx_go1 (hκ _ _ _ _ h) (fun p e R s m args below meth c H locs cells slots lsA Q hcx hR hb hS hl k => lv_lload hcx.1 hcx.2.1 hd (hl.at ee (by intro z; cases z)) k)
theorem qs_lload_n {G : qx_G} {T : qx_T} {sc : Bool} {call : qx_ca} {d : Nat} {own : String} {Y : qx_Y} {ty : Option FieldType} {lk : List (Nat × qx_L)} {Φ : qx_F} {κ : qx_k} (hκ : ∀ pc' ls' st' σ', κ pc' ls' st' σ' → qx_K G T d own Y pc' ls' st' σ' Φ) {pc len : Nat} {ls st : List Value} {σ : qx_S} {n : Fin 4} (hd : decode Y.2.1 pc = .ok (.lload_n n, len)) (hv : qx_vi Y.2.2.1 (.lload_n n) pc len = true) (h : qx_step T sc call ty lk Φ κ (.lload_n n) pc len ls st σ) : qx_K G T d own Y pc ls st σ Φ := by
  obtain rfl : len = 1 := qx_beq hv
  simp only [qx_step] at h
  obtain ⟨x, ee, h⟩ := qx_ldl_inv h
  exact qx_go1 (hκ _ _ _ _ h) (fun p e R s m args below meth c H locs cells slots lsA Q hcx hR hb hS hl k => lv_lload_n hcx.1 hcx.2.1 hd rfl (hl.at ee (by intro z; cases z)) k)
theorem qs_istore {G : qx_G} {T : qx_T} {sc : Bool} {call : qx_ca} {d : Nat} {own : String} {Y : qx_Y} {ty : Option FieldType} {lk : List (Nat × qx_L)} {Φ : qx_F} {κ : qx_k} (hκ : ∀ pc' ls' st' σ', κ pc' ls' st' σ' → qx_K G T d own Y pc' ls' st' σ' Φ) {pc len : Nat} {ls st : List Value} {σ : qx_S} {k : Nat} (hd : decode Y.2.1 pc = .ok (.istore k, len)) (hv : qx_vi Y.2.2.1 (.istore k) pc len = true) (h : qx_step T sc call ty lk Φ κ (.istore k) pc len ls st σ) : qx_K G T d own Y pc ls st σ Φ := by
  simp only [qx_vi, Bool.and_eq_true] at hv
  obtain rfl : len = 2 := qx_beq hv.1
  have hn : k < Y.2.2.1 := Nat.blt_eq.mp hv.2
  simp only [qx_step] at h
  obtain ⟨x, r, rfl, h⟩ := qx_sti_inv h
  exact qx_go0 (hκ _ _ _ _ h) (fun p e R s m args below meth c H locs cells slots lsA Q hcx _ _ hR hb hS hl k => lv_istore hcx.1 hcx.2.1 hd hl.has hn rfl (fun lsB hB => k _ (hl.s1 hB)))
theorem qs_istore_n {G : qx_G} {T : qx_T} {sc : Bool} {call : qx_ca} {d : Nat} {own : String} {Y : qx_Y} {ty : Option FieldType} {lk : List (Nat × qx_L)} {Φ : qx_F} {κ : qx_k} (hκ : ∀ pc' ls' st' σ', κ pc' ls' st' σ' → qx_K G T d own Y pc' ls' st' σ' Φ) {pc len : Nat} {ls st : List Value} {σ : qx_S} {k : Fin 4} (hd : decode Y.2.1 pc = .ok (.istore_n k, len)) (hv : qx_vi Y.2.2.1 (.istore_n k) pc len = true) (h : qx_step T sc call ty lk Φ κ (.istore_n k) pc len ls st σ) : qx_K G T d own Y pc ls st σ Φ := by
  simp only [qx_vi, Bool.and_eq_true] at hv
  obtain rfl : len = 1 := qx_beq hv.1
  have hn : k.val < Y.2.2.1 := Nat.blt_eq.mp hv.2
  simp only [qx_step] at h
  obtain ⟨x, r, rfl, h⟩ := qx_sti_inv h
  exact qx_go0 (hκ _ _ _ _ h) (fun p e R s m args below meth c H locs cells slots lsA Q hcx _ _ hR hb hS hl k => lv_istore_n hcx.1 hcx.2.1 hd rfl hl.has hn rfl (fun lsB hB => k _ (hl.s1 hB)))
theorem qs_lstore {G : qx_G} {T : qx_T} {sc : Bool} {call : qx_ca} {d : Nat} {own : String} {Y : qx_Y} {ty : Option FieldType} {lk : List (Nat × qx_L)} {Φ : qx_F} {κ : qx_k} (hκ : ∀ pc' ls' st' σ', κ pc' ls' st' σ' → qx_K G T d own Y pc' ls' st' σ' Φ) {pc len : Nat} {ls st : List Value} {σ : qx_S} {k : Nat} (hd : decode Y.2.1 pc = .ok (.lstore k, len)) (hv : qx_vi Y.2.2.1 (.lstore k) pc len = true) (h : qx_step T sc call ty lk Φ κ (.lstore k) pc len ls st σ) : qx_K G T d own Y pc ls st σ Φ := by
  simp only [qx_vi, Bool.and_eq_true] at hv
  obtain rfl : len = 2 := qx_beq hv.1
  have hn : k + 1 < Y.2.2.1 := Nat.blt_eq.mp hv.2
  simp only [qx_step] at h
  obtain ⟨x, r, rfl, h⟩ := qx_stl_inv h
  exact qx_go0 (hκ _ _ _ _ h) (fun p e R s m args below meth c H locs cells slots lsA Q hcx _ _ hR hb hS hl k => lv_lstore hcx.1 hcx.2.1 hd hl.has hn rfl (fun lsB hB => k _ (hl.s2 hB)))
theorem qs_lstore_n {G : qx_G} {T : qx_T} {sc : Bool} {call : qx_ca} {d : Nat} {own : String} {Y : qx_Y} {ty : Option FieldType} {lk : List (Nat × qx_L)} {Φ : qx_F} {κ : qx_k} (hκ : ∀ pc' ls' st' σ', κ pc' ls' st' σ' → qx_K G T d own Y pc' ls' st' σ' Φ) {pc len : Nat} {ls st : List Value} {σ : qx_S} {k : Fin 4} (hd : decode Y.2.1 pc = .ok (.lstore_n k, len)) (hv : qx_vi Y.2.2.1 (.lstore_n k) pc len = true) (h : qx_step T sc call ty lk Φ κ (.lstore_n k) pc len ls st σ) : qx_K G T d own Y pc ls st σ Φ := by
  simp only [qx_vi, Bool.and_eq_true] at hv
  obtain rfl : len = 1 := qx_beq hv.1
  have hn : k.val + 1 < Y.2.2.1 := Nat.blt_eq.mp hv.2
  simp only [qx_step] at h
  obtain ⟨x, r, rfl, h⟩ := qx_stl_inv h
  exact qx_go0 (hκ _ _ _ _ h) (fun p e R s m args below meth c H locs cells slots lsA Q hcx _ _ hR hb hS hl k => lv_lstore_n hcx.1 hcx.2.1 hd rfl hl.has hn rfl (fun lsB hB => k _ (hl.s2 hB)))
theorem qs_iinc {G : qx_G} {T : qx_T} {sc : Bool} {call : qx_ca} {d : Nat} {own : String} {Y : qx_Y} {ty : Option FieldType} {lk : List (Nat × qx_L)} {Φ : qx_F} {κ : qx_k} (hκ : ∀ pc' ls' st' σ', κ pc' ls' st' σ' → qx_K G T d own Y pc' ls' st' σ' Φ) {pc len : Nat} {ls st : List Value} {σ : qx_S} {j : Nat} {n : Int} (hd : decode Y.2.1 pc = .ok (.iinc j n, len)) (hv : qx_vi Y.2.2.1 (.iinc j n) pc len = true) (h : qx_step T sc call ty lk Φ κ (.iinc j n) pc len ls st σ) : qx_K G T d own Y pc ls st σ Φ := by
  simp only [qx_vi, Bool.and_eq_true, decide_eq_true_eq] at hv
  obtain rfl : len = 3 := qx_beq hv.1.1
  have hn : j < Y.2.2.1 := Nat.blt_eq.mp hv.1.2
  simp only [qx_step] at h
  split at h
  · next x ee =>
    refine qx_go0 (hκ _ _ _ _ h) (fun p e R s m args below meth c H locs cells slots lsA Q hcx _ _ hR hb hS hl k => ?_)
    have hm : (j, Value.int x) ∈ qx_as G Y.2.2.1 ls := by
      rcases qx_ld_get ls j _ ee with q | q
      · cases q
      · exact qx_as_mem hl.2.2.1 q (by intro z; cases z)
    obtain ⟨z, hz⟩ := List.getElem?_of_mem hm
    exact lv_iinc hcx.1 hcx.2.1 hd hl.has hz (by rw [hv.2]) hn rfl (fun lsB hB => k _ (hl.s1 hB))
  · exact h.elim
theorem qs_dup {G : qx_G} {T : qx_T} {sc : Bool} {call : qx_ca} {d : Nat} {own : String} {Y : qx_Y} {ty : Option FieldType} {lk : List (Nat × qx_L)} {Φ : qx_F} {κ : qx_k} (hκ : ∀ pc' ls' st' σ', κ pc' ls' st' σ' → qx_K G T d own Y pc' ls' st' σ' Φ) {pc len : Nat} {ls st : List Value} {σ : qx_S}  (hd : decode Y.2.1 pc = .ok (.dup, len)) (hv : qx_vi Y.2.2.1 (.dup) pc len = true) (h : qx_step T sc call ty lk Φ κ (.dup) pc len ls st σ) : qx_K G T d own Y pc ls st σ Φ := by
  obtain rfl : len = 1 := qx_beq hv
  simp only [qx_step] at h
  split at h
  · next v r =>
    obtain ⟨ee, h⟩ := qx_cond h
    exact qx_go1 (hκ _ _ _ _ h) (fun p e R s m args below meth c H locs cells slots lsA Q hcx hR hb hS hl k => lv_dup hcx.1 hcx.2.1 hd (by rw [qx_pv_cat]; exact qx_beq ee) k)
  · exact h.elim
theorem qs_pop {G : qx_G} {T : qx_T} {sc : Bool} {call : qx_ca} {d : Nat} {own : String} {Y : qx_Y} {ty : Option FieldType} {lk : List (Nat × qx_L)} {Φ : qx_F} {κ : qx_k} (hκ : ∀ pc' ls' st' σ', κ pc' ls' st' σ' → qx_K G T d own Y pc' ls' st' σ' Φ) {pc len : Nat} {ls st : List Value} {σ : qx_S}  (hd : decode Y.2.1 pc = .ok (.pop, len)) (hv : qx_vi Y.2.2.1 (.pop) pc len = true) (h : qx_step T sc call ty lk Φ κ (.pop) pc len ls st σ) : qx_K G T d own Y pc ls st σ Φ := by
  obtain rfl : len = 1 := qx_beq hv
  simp only [qx_step] at h
  split at h
  · next v r =>
    obtain ⟨ee, h⟩ := qx_cond h
    exact qx_go1 (hκ _ _ _ _ h) (fun p e R s m args below meth c H locs cells slots lsA Q hcx hR hb hS hl k => lv_pop hcx.1 hcx.2.1 hd (by rw [qx_pv_cat]; exact qx_beq ee) k)
  · exact h.elim
theorem qs_dup2 {G : qx_G} {T : qx_T} {sc : Bool} {call : qx_ca} {d : Nat} {own : String} {Y : qx_Y} {ty : Option FieldType} {lk : List (Nat × qx_L)} {Φ : qx_F} {κ : qx_k} (hκ : ∀ pc' ls' st' σ', κ pc' ls' st' σ' → qx_K G T d own Y pc' ls' st' σ' Φ) {pc len : Nat} {ls st : List Value} {σ : qx_S}  (hd : decode Y.2.1 pc = .ok (.dup2, len)) (hv : qx_vi Y.2.2.1 (.dup2) pc len = true) (h : qx_step T sc call ty lk Φ κ (.dup2) pc len ls st σ) : qx_K G T d own Y pc ls st σ Φ := by
  obtain rfl : len = 1 := qx_beq hv
  simp only [qx_step] at h
  split at h
  · next v u r =>
    obtain ⟨ee, h⟩ := qx_cond h
    obtain ⟨e2, h⟩ := qx_cond h
    exact qx_go1 (hκ _ _ _ _ h) (fun p e R s m args below meth c H locs cells slots lsA Q hcx hR hb hS hl k => lv_dup2_11 hcx.1 hcx.2.1 hd (by rw [qx_pv_cat]; exact qx_beq ee) (by rw [qx_pv_cat]; exact qx_beq e2) k)
  · exact h.elim
theorem qs_goto {G : qx_G} {T : qx_T} {sc : Bool} {call : qx_ca} {d : Nat} {own : String} {Y : qx_Y} {ty : Option FieldType} {lk : List (Nat × qx_L)} {Φ : qx_F} {κ : qx_k} (hκ : ∀ pc' ls' st' σ', κ pc' ls' st' σ' → qx_K G T d own Y pc' ls' st' σ' Φ) {pc len : Nat} {ls st : List Value} {σ : qx_S} {o : Int} (hd : decode Y.2.1 pc = .ok (.goto o, len)) (hv : qx_vi Y.2.2.1 (.goto o) pc len = true) (h : qx_step T sc call ty lk Φ κ (.goto o) pc len ls st σ) : qx_K G T d own Y pc ls st σ Φ := by
  simp only [qx_vi, Bool.and_eq_true, decide_eq_true_eq] at hv
  obtain rfl : len = 3 := qx_beq hv.1
  exact qx_go1 (hκ _ _ _ _ h) (fun p e R s m args below meth c H locs cells slots lsA Q hcx hR hb hS hl k => lv_goto hcx.1 hcx.2.1 hd (qx_tgt_ok hv.2) k)
