section IO
variable {G : qx_G} {T : qx_T} {sc : Bool} {call : qx_ca} {d : Nat} {own : String} {Y : qx_Y} {ty : Option FieldType} {lk : List (Nat × qx_L)} {Φ : qx_F} {κ : qx_k}
theorem qs_aaload (hκ : ∀ pc' ls' st' σ', κ pc' ls' st' σ' → qx_K G T d own Y pc' ls' st' σ' Φ) {pc len : Nat} {ls st : List Value} {σ : qx_S} (hd : decode Y.2.1 pc = .ok (.aaload, len)) (hv : qx_vi Y.2.2.1 .aaload pc len = true) (h : qx_step T sc call ty lk Φ κ .aaload pc len ls st σ) : qx_K G T d own Y pc ls st σ Φ := by
  obtain rfl : len = 1 := qx_beq hv
  simp only [qx_step] at h
  split at h
  · next j a r =>
    obtain ⟨e4, h⟩ := qx_cond h
    obtain ⟨e7, hin, h⟩ := qx_cond h
    have h4 : 4 ≤ (qx_sh T σ a).1 := Nat.le_of_ble_eq_true e4
    have h7 : (qx_sh T σ a).1 ≤ 7 := Nat.le_of_ble_eq_true e7
    refine qx_go1 (hκ _ _ _ _ (qx_rr_inv h)) fun p e R s m args below meth c H locs cells slots lsA Q hcx hR hb hS hl k => ?_
    have hc := (hR.arrR (a := a) rfl h4 (by omega)).2.2
    have ht : ∃ (t0 : Nat) (C : String), (qx_tys G)[t0]? = some (qx_cA G (qx_sh T σ a).1, .object C) := by
      have : (qx_sh T σ a).1 = 4 ∨ (qx_sh T σ a).1 = 5 ∨ (qx_sh T σ a).1 = 6 ∨ (qx_sh T σ a).1 = 7 := by omega
      rcases this with z | z | z | z <;> rw [z]
      · exact ⟨4, _, rfl⟩
      · exact ⟨5, _, rfl⟩
      · exact ⟨6, _, rfl⟩
      · exact ⟨7, _, rfl⟩
    obtain ⟨t0, C, ht⟩ := ht
    refine va_aldq (ws := [(qx_ad G a, .inl (qx_cA G (qx_sh T σ a).1, (qx_sh T σ a).2, .inr (.inr (.inr (.inr (fun j => (σ.2.2.2.2.2 a j).map (qx_ad G)))))))]) hcx.1 hcx.2.1 hR.2.1 (fun i q hq => by
      cases i with
      | zero => cases hq; exact hc
      | succ i => simp at hq) 0 t0 rfl ht hin hd ?_
    rw [qx_rf_pv]
    exact k
  · exact h.elim
theorem qs_aastore (hκ : ∀ pc' ls' st' σ', κ pc' ls' st' σ' → qx_K G T d own Y pc' ls' st' σ' Φ) {pc len : Nat} {ls st : List Value} {σ : qx_S} (hd : decode Y.2.1 pc = .ok (.aastore, len)) (hv : qx_vi Y.2.2.1 .aastore pc len = true) (h : qx_step T sc call ty lk Φ κ .aastore pc len ls st σ) : qx_K G T d own Y pc ls st σ Φ := by
  obtain rfl : len = 1 := qx_beq hv
  simp only [qx_step] at h
  split at h
  · next x j a r =>
    obtain ⟨ex, h⟩ := qx_cond h
    obtain ⟨e4, h⟩ := qx_cond h
    obtain ⟨e7, hin, h⟩ := qx_cond h
    have ex := qx_beq ex
    have h4 : 4 ≤ (qx_sh T σ a).1 := Nat.le_of_ble_eq_true e4
    have h7 : (qx_sh T σ a).1 ≤ 7 := Nat.le_of_ble_eq_true e7
    refine qx_goM (hκ _ _ _ _ h) rfl rfl (fun _ _ _ => ⟨rfl, rfl⟩) fun p e R s m args below meth c H locs cells slots lsA Q hcx hR hb hS hl k => ?_
    obtain ⟨g1, g2, hc⟩ := hR.arrR (a := a) rfl h4 (by omega)
    have ht : ∃ (t0 ci : Nat) (r : vw_C), (qx_tys G)[t0]? = some (qx_cA G (qx_sh T σ a).1, .object r.1) ∧ qx_cls[ci]? = some r ∧ (qx_sh T σ x).1 = 8 + ci := by
      have : (qx_sh T σ a).1 = 4 ∨ (qx_sh T σ a).1 = 5 ∨ (qx_sh T σ a).1 = 6 ∨ (qx_sh T σ a).1 = 7 := by omega
      rcases this with z | z | z | z <;> rw [z] at ex ⊢
      · exact ⟨4, 4, _, rfl, rfl, ex⟩
      · exact ⟨5, 5, _, rfl, rfl, ex⟩
      · exact ⟨6, 7, _, rfl, rfl, ex⟩
      · exact ⟨7, 8, _, rfl, rfl, ex⟩
    obtain ⟨t0, ci, rr, ht, hcl, hkx⟩ := ht
    have hlt : j.toNatClampNeg < (qx_sh T σ a).2 := Nat.not_le.mp fun q => hin (Or.inr q)
    have h0 : ¬ j < 0 := fun q => hin (Or.inl q)
    obtain ⟨x1, x2, cellV, y1, y2, y3, -⟩ := hR.obj hkx (List.getElem?_eq_some_iff.mp hcl).1
    have hcls := (hR.2.1.1 ci rr hcl).2
    obtain ⟨kA, comp, k1, k2, k3, -⟩ := (hR.2.1.2 t0 _ ht).2
    have hcomp : comp = (qx_D G).1 ci := Option.some.inj (k3.symm.trans hcls.1)
    subst hcomp
    obtain ⟨kC, hkC, -⟩ := hcls.2
    refine W.aast hcx.1 hcx.2.1 hc (fun q h => by cases h) (fun h => by cases h) k1 k2 rfl hkC ⟨h0, by show _ < (arrV _ _ _).slots.size; rw [arrV_size]; exact hlt⟩ y1 (fun q h => by rw [y3] at h; cases h) (by rw [y2]; exact hkC) (by rw [y2]; exact va_assign hcls) rfl rfl hd fun H1 e1 z oq => ?_
    exact k H1 _ (hR.wr (a := a) rfl h4 (by omega) z oq e1) (hS.put z oq (hR.1.ge g1))
  · exact h.elim
theorem qs_ldc (hκ : ∀ pc' ls' st' σ', κ pc' ls' st' σ' → qx_K G T d own Y pc' ls' st' σ' Φ) {pc len : Nat} {ls st : List Value} {σ : qx_S} {idx : Nat} (hd : decode Y.2.1 pc = .ok (.ldc idx, len)) (hv : qx_vi Y.2.2.1 (.ldc idx) pc len = true) (hlk : ((qx_lk lk idx).1 = 6 → Cond.constant own idx (qx_c (qx_lk lk idx).2.2.2.1) ∈ qx_tbl) ∧ ((qx_lk lk idx).1 = 18 → own = RX9 ∧ idx = 59)) (h : qx_step T sc call ty lk Φ κ (.ldc idx) pc len ls st σ) : qx_K G T d own Y pc ls st σ Φ := by
  obtain rfl : len = 2 := qx_beq hv
  simp only [qx_step] at h
  generalize qx_lk lk idx = E at h hlk
  split at h
  · next e6 => exact qx_go1 (hκ _ _ _ _ h) fun p e R s m args below meth c H locs cells slots lsA Q hcx hR hb hS hl k => lv_ldc hcx.1 hcx.2.1 hcx.2.2.2.2.1 (hcx.2.2.2.2.2.1 _ (hlk.1 e6)) hd k
  · next e6 =>
    obtain ⟨rfl, rfl⟩ := hlk.2 e6
    exact qx_go1 (hκ _ _ _ _ h) fun p e R s m args below meth c H locs cells slots lsA Q hcx hR hb hS hl k => va_ldcS hcx.1 hcx.2.1 hcx.2.2.2.2.1 (hR.1.2.2.2.2.2 s H hR.2.2.2.2.1.1) hd k
  · exact h.elim
theorem qs_ldc2 (hκ : ∀ pc' ls' st' σ', κ pc' ls' st' σ' → qx_K G T d own Y pc' ls' st' σ' Φ) {pc len : Nat} {ls st : List Value} {σ : qx_S} {idx : Nat} (hd : decode Y.2.1 pc = .ok (.ldc2_w idx, len)) (hv : qx_vi Y.2.2.1 (.ldc2_w idx) pc len = true) (hlk : (qx_lk lk idx).1 = 7 → Cond.constantLong own idx (Int64.ofInt (qx_lk lk idx).2.2.2.1) ∈ qx_tbl) (h : qx_step T sc call ty lk Φ κ (.ldc2_w idx) pc len ls st σ) : qx_K G T d own Y pc ls st σ Φ := by
  obtain rfl : len = 3 := qx_beq hv
  simp only [qx_step] at h
  obtain ⟨e7, h⟩ := qx_cond h
  exact qx_go1 (hκ _ _ _ _ h) fun p e R s m args below meth c H locs cells slots lsA Q hcx hR hb hS hl k => lv_ldc2 hcx.1 hcx.2.1 hcx.2.2.2.2.1 (hcx.2.2.2.2.2.1 _ (hlk (qx_beq e7))) hd k
theorem qs_ldcw (hκ : ∀ pc' ls' st' σ', κ pc' ls' st' σ' → qx_K G T d own Y pc' ls' st' σ' Φ) {pc len : Nat} {ls st : List Value} {σ : qx_S} {idx : Nat} (hd : decode Y.2.1 pc = .ok (.ldc_w idx, len)) (hv : qx_vi Y.2.2.1 (.ldc_w idx) pc len = true) (hlk : (qx_lk lk idx).1 = 6 → Cond.constant own idx (qx_c (qx_lk lk idx).2.2.2.1) ∈ qx_tbl) (h : qx_step T sc call ty lk Φ κ (.ldc_w idx) pc len ls st σ) : qx_K G T d own Y pc ls st σ Φ := by
  obtain rfl : len = 3 := qx_beq hv
  simp only [qx_step] at h
  obtain ⟨e7, h⟩ := qx_cond h
  exact qx_go1 (hκ _ _ _ _ h) fun p e R s m args below meth c H locs cells slots lsA Q hcx hR hb hS hl k => lv_ldcw hcx.1 hcx.2.1 hcx.2.2.2.2.1 (hcx.2.2.2.2.2.1 _ (hlk (qx_beq e7))) hd k
/-! answers -/
theorem qs_ireturn {pc len : Nat} {ls st : List Value} {σ : qx_S} (hd : decode Y.2.1 pc = .ok (.ireturn, len)) (hv : qx_vi Y.2.2.1 .ireturn pc len = true) (h : qx_step T sc call Y.2.2.2 lk Φ κ .ireturn pc len ls st σ) : qx_K G T d own Y pc ls st σ Φ := by
  obtain rfl : len = 1 := qx_beq hv
  simp only [qx_step] at h
  split at h
  · next x =>
    unfold qx_ret at h
    split at h
    · next et =>
      refine ⟨_, σ, h, Nat.le_refl _, Nat.le_refl _, fun p e R s m args below meth c H locs cells slots lsA hcx hf hlo hc hs hR hb hS hl => ?_⟩
      simp only [Nat.sub_self, Nat.add_zero]
      exact W.iret hcx.1 hcx.2.1 (hcx.2.2.2.1.trans et) (fun t ht hW => ⟨rfl, by rw [ht]; exact hR.2.2.2.2.2, hS.F ht, qx_sc.rf⟩) hS.2.2 hd hcx.2.2.2.2.2.2.1
    · next et =>
      obtain ⟨hx, h⟩ := h
      refine ⟨_, σ, h, Nat.le_refl _, Nat.le_refl _, fun p e R s m args below meth c H locs cells slots lsA hcx hf hlo hc hs hR hb hS hl => ?_⟩
      simp only [Nat.sub_self, Nat.add_zero]
      exact W.zret hcx.1 hcx.2.1 (hcx.2.2.2.1.trans et) (by rcases hx with rfl | rfl <;> rfl) (fun t ht hW => ⟨rfl, by rw [ht]; exact hR.2.2.2.2.2, hS.F ht, qx_sc.rf⟩) hS.2.2 hd hcx.2.2.2.2.2.2.1
    · exact h.elim
  · exact h.elim
theorem qs_lreturn {pc len : Nat} {ls st : List Value} {σ : qx_S} (ht : Y.2.2.2 = some .long) (hd : decode Y.2.1 pc = .ok (.lreturn, len)) (hv : qx_vi Y.2.2.1 .lreturn pc len = true) (h : qx_step T sc call Y.2.2.2 lk Φ κ .lreturn pc len ls st σ) : qx_K G T d own Y pc ls st σ Φ := by
  obtain rfl : len = 1 := qx_beq hv
  simp only [qx_step] at h
  split at h
  · next x =>
    refine ⟨_, σ, h, Nat.le_refl _, Nat.le_refl _, fun p e R s m args below meth c H locs cells slots lsA hcx hf hlo hc hs hR hb hS hl => ?_⟩
    simp only [Nat.sub_self, Nat.add_zero]
    exact W.lret hcx.1 hcx.2.1 (hcx.2.2.2.1.trans ht) (fun t ht hW => ⟨rfl, by rw [ht]; exact hR.2.2.2.2.2, hS.F ht, qx_sc.rf⟩) hS.2.2 hd hcx.2.2.2.2.2.2.1
  · exact h.elim
theorem qs_areturn {pc len : Nat} {ls st : List Value} {σ : qx_S} (ht : (∃ n, Y.2.2.2 = some (.object n)) ∨ ∃ t, Y.2.2.2 = some (.array t)) (hd : decode Y.2.1 pc = .ok (.areturn, len)) (hv : qx_vi Y.2.2.1 .areturn pc len = true) (h : qx_step T sc call Y.2.2.2 lk Φ κ .areturn pc len ls st σ) : qx_K G T d own Y pc ls st σ Φ := by
  obtain rfl : len = 1 := qx_beq hv
  simp only [qx_step] at h
  split at h
  · next x =>
    refine ⟨_, σ, h, Nat.le_refl _, Nat.le_refl _, fun p e R s m args below meth c H locs cells slots lsA hcx hf hlo hc hs hR hb hS hl => ?_⟩
    simp only [Nat.sub_self, Nat.add_zero]
    rcases ht with ⟨n, ht⟩ | ⟨n, ht⟩
    · exact W.aret hcx.1 hcx.2.1 (hcx.2.2.2.1.trans ht) (Or.inl ⟨_, rfl⟩) (Or.inr ⟨_, rfl⟩) (fun t ht hW => ⟨rfl, by rw [ht]; exact hR.2.2.2.2.2, hS.F ht, qx_sc.rf⟩) hS.2.2 hd hcx.2.2.2.2.2.2.1
    · exact W.aret hcx.1 hcx.2.1 (hcx.2.2.2.1.trans ht) (Or.inr ⟨_, rfl⟩) (Or.inr ⟨_, rfl⟩) (fun t ht hW => ⟨rfl, by rw [ht]; exact hR.2.2.2.2.2, hS.F ht, qx_sc.rf⟩) hS.2.2 hd hcx.2.2.2.2.2.2.1
  · exact h.elim
theorem qs_return {pc len : Nat} {ls st : List Value} {σ : qx_S} (ht : Y.2.2.2 = none) (hd : decode Y.2.1 pc = .ok (.return_, len)) (hv : qx_vi Y.2.2.1 .return_ pc len = true) (h : qx_step T sc call Y.2.2.2 lk Φ κ .return_ pc len ls st σ) : qx_K G T d own Y pc ls st σ Φ := by
  obtain rfl : len = 1 := qx_beq hv
  simp only [qx_step] at h
  split at h
  · refine ⟨_, σ, h, Nat.le_refl _, Nat.le_refl _, fun p e R s m args below meth c H locs cells slots lsA hcx hf hlo hc hs hR hb hS hl => ?_⟩
    simp only [Nat.sub_self, Nat.add_zero]
    exact W.vret hcx.1 hcx.2.1 (hcx.2.2.2.1.trans ht) (fun t ht hW => ⟨rfl, by rw [ht]; exact hR.2.2.2.2.2, hS.F ht, qx_sc.rf⟩) hS.2.2 hd hcx.2.2.2.2.2.2.1
  · exact h.elim
/-! switches -/
theorem qx_lsw_inv {x : Int32} {d : Int} {K : Int → Prop} {P : Int → Prop} (hd : P d) : ∀ (ps : List (Int × Int)), (∀ q ∈ ps, P q.2 ∧ (qx_c q.1).toInt = q.1) → qx_lsw ps d x K → ∃ o, Op.lookupswitch.offset ps d x.toInt = o ∧ P o ∧ K o
  | [], _, h => ⟨d, rfl, hd, h⟩
  | (k, o) :: r, hp, h => by
    obtain ⟨h1, h2⟩ := h
    obtain ⟨p1, p2⟩ := hp (k, o) List.mem_cons_self
    by_cases hx : x = qx_c k
    · refine ⟨o, ?_, p1, h1 hx⟩
      rw [Op.lookupswitch.offset_cons, if_pos (by rw [hx]; exact p2.symm)]
    · obtain ⟨o', e1, e2, e3⟩ := qx_lsw_inv hd r (fun q hq => hp q (List.mem_cons_of_mem _ hq)) (h2 hx)
      exact ⟨o', by rw [lv_osw hx p2]; exact e1, e2, e3⟩
theorem qs_lookup (hκ : ∀ pc' ls' st' σ', κ pc' ls' st' σ' → qx_K G T d own Y pc' ls' st' σ' Φ) {pc len : Nat} {ls st : List Value} {σ : qx_S} {df : Int} {ps : Array (Int × Int)} (hd : decode Y.2.1 pc = .ok (.lookupswitch df ps, len)) (hv : qx_vi Y.2.2.1 (.lookupswitch df ps) pc len = true) (h : qx_step T sc call ty lk Φ κ (.lookupswitch df ps) pc len ls st σ) : qx_K G T d own Y pc ls st σ Φ := by
  simp only [qx_vi, Bool.and_eq_true, decide_eq_true_eq] at hv
  simp only [qx_step] at h
  split at h
  · next x r =>
    obtain ⟨o, e1, e2, e3⟩ := qx_lsw_inv (P := fun o => 0 ≤ (pc : Int) + o) hv.1.2 ps.toList (fun q hq => by
      have := List.all_eq_true.mp hv.2 q hq
      simp only [Bool.and_eq_true, decide_eq_true_eq] at this
      exact this) h
    exact qx_go1 (hκ _ _ _ _ e3) fun p e R s m args below meth c H locs cells slots lsA Q hcx hR hb hS hl k => lv_lookup hcx.1 hcx.2.1 hd hv.1.1 e1 (qx_tgt_ok e2) k
  · exact h.elim
theorem qx_c_toInt {n : Int} (h1 : -1000000 ≤ n) (h2 : n ≤ 1000001) : (qx_c n).toInt = n := by
  cases n with
  | ofNat k =>
    show (nI k).toInt = _
    rw [nI_toInt (by have : (k : Int) ≤ 1000001 := h2; omega)]
    rfl
  | negSucc k =>
    show (Int32.ofInt (.negSucc k)).toInt = _
    rw [Int32.toInt_ofInt]
    have : -1000000 ≤ Int.negSucc k := h1
    have : Int.negSucc k < 0 := Int.negSucc_lt_zero k
    have e : (Int32.size : Nat) = 4294967296 := rfl
    rw [e]
    exact Int.bmod_eq_of_le (by omega) (by omega)
theorem qx_tsw_inv {x : Int32} {d : Int} {K : Int → Prop} : ∀ (offs : List Int) (lo : Int), -1000000 ≤ lo → lo + offs.length ≤ 1000001 → qx_tsw offs lo d x K → (∃ i o, i < offs.length ∧ x.toInt = lo + (i : Int) ∧ offs[i]? = some o ∧ K o) ∨ ((x.toInt < lo ∨ lo + offs.length ≤ x.toInt) ∧ K d)
  | [], lo, _, _, h => Or.inr ⟨by simp; omega, h⟩
  | o :: r, lo, h1, h2, h => by
    obtain ⟨ha, hb⟩ := h
    have h2 : lo + ((r.length : Int) + 1) ≤ 1000001 := by simpa using h2
    have ec := qx_c_toInt (n := lo) h1 (by omega)
    by_cases hx : x = qx_c lo
    · exact Or.inl ⟨0, o, by simp, by rw [hx, ec]; simp, rfl, ha hx⟩
    · have hne : x.toInt ≠ lo := fun z => hx (Int32.toInt_inj.mp (z.trans ec.symm))
      rcases qx_tsw_inv r (lo + 1) (by omega) (by omega) (hb hx) with ⟨i, o', e1, e2, e3, e4⟩ | ⟨e1, e2⟩
      · exact Or.inl ⟨i + 1, o', by simp; omega, by rw [e2]; simp; omega, by simpa using e3, e4⟩
      · refine Or.inr ⟨?_, e2⟩
        simp only [List.length_cons, Int.natCast_add, Int.natCast_one]
        omega
theorem qs_table (hκ : ∀ pc' ls' st' σ', κ pc' ls' st' σ' → qx_K G T d own Y pc' ls' st' σ' Φ) {pc len : Nat} {ls st : List Value} {σ : qx_S} {df lo hi : Int} {offs : Array Int} (hd : decode Y.2.1 pc = .ok (.tableswitch df lo hi offs, len)) (hv : qx_vi Y.2.2.1 (.tableswitch df lo hi offs) pc len = true) (h : qx_step T sc call ty lk Φ κ (.tableswitch df lo hi offs) pc len ls st σ) : qx_K G T d own Y pc ls st σ Φ := by
  simp only [qx_vi, Bool.and_eq_true, decide_eq_true_eq] at hv
  obtain ⟨⟨⟨⟨v1, v2⟩, v3⟩, v4⟩, v5⟩ := hv
  simp only [qx_step] at h
  split at h
  · next x r =>
    have hlen : (offs.toList.length : Int) = (offs.size : Int) := by simp
    rcases qx_tsw_inv offs.toList lo v4 (by omega) h with ⟨i, o, e1, e2, e3, e4⟩ | ⟨e1, e2⟩
    · have hp := List.all_eq_true.mp v2 o (List.mem_of_getElem? e3)
      simp only [decide_eq_true_eq] at hp
      have e5 : offs[(x.toInt - lo).toNat]? = some o := by
        rw [e2, show (lo + (i : Int) - lo).toNat = i by omega, ← Array.getElem?_toList]
        exact e3
      exact qx_go1 (hκ _ _ _ _ e4) fun p e R s m args below meth c H locs cells slots lsA Q hcx hR hb hS hl k => lv_tableIn hcx.1 hcx.2.1 hd (by omega) (by omega) e5 (qx_tgt_ok hp) k
    · exact qx_go1 (hκ _ _ _ _ e2) fun p e R s m args below meth c H locs cells slots lsA Q hcx hR hb hS hl k => lv_tableOut hcx.1 hcx.2.1 hd (by omega) (qx_tgt_ok v1) k
  · exact h.elim
end IO
