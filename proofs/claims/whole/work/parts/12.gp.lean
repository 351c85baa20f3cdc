theorem qx_headD {cs : List Nat} {ci k : Nat} (h : qx_fk ci k = qx_fk (cs.headD 0) k) {t : Nat} (ht : (qx_fk (cs.headD 0) k).1 = t) : (qx_fk ci k).1 = t := by rw [h]; exact ht
theorem qx_nofin {ci k N : Nat} {C : String} {T' : u_T} {ty : Nat → FieldType} (hcf : qx_cf ci C T' N ty) (hk : k < N) {t : Nat} (ht : (qx_fk ci k).1 = t) (h3 : t ≠ 3) (h4 : t ≠ 4) : (T' k).2.2.2 = false := by
  rw [(hcf.2.2.2.2.2 k hk).2, ht]
  have a : Nat.beq t 3 = false := by cases hb : Nat.beq t 3 with
    | false => rfl
    | true => exact absurd (qx_beq hb) h3
  have b : Nat.beq t 4 = false := by cases hb : Nat.beq t 4 with
    | false => rfl
    | true => exact absurd (qx_beq hb) h4
  rw [a, b]
  rfl
theorem qx_tyof {ci k N : Nat} {C : String} {T' : u_T} {ty : Nat → FieldType} (hcf : qx_cf ci C T' N ty) (hk : k < N) {t : Nat} (ht : (qx_fk ci k).1 = t) : qx_tyc (ty k) t = true := by rw [← ht]; exact (hcf.2.2.2.2.2 k hk).1
theorem qx_ty0 {t : FieldType} (h : qx_tyc t 0 = true) : t = .int := by cases t <;> first | rfl | cases h
theorem qx_ty5 {t : FieldType} (h : qx_tyc t 5 = true) : t = .boolean := by cases t <;> first | rfl | cases h
theorem qx_ty1 {t : FieldType} (h : qx_tyc t 1 = true) : t = .long := by cases t <;> first | rfl | cases h
theorem qx_ty2 {t : FieldType} (h : qx_tyc t 2 = true) : (∃ C, t = .object C) ∨ ∃ C, t = .array C := by cases t <;> first | exact Or.inl ⟨_, rfl⟩ | exact Or.inr ⟨_, rfl⟩ | cases h
section GP
variable {G : qx_G} {T : qx_T} {sc : Bool} {call : qx_ca} {d : Nat} {own : String} {Y : qx_Y} {ty : Option FieldType} {lk : List (Nat × qx_L)} {Φ : qx_F} {κ : qx_k}
theorem qs_getfield (hκ : ∀ pc' ls' st' σ', κ pc' ls' st' σ' → qx_K G T d own Y pc' ls' st' σ' Φ) {pc len : Nat} {ls st : List Value} {σ : qx_S} {idx : Nat} (hd : decode Y.2.1 pc = .ok (.getfield idx, len)) (hv : qx_vi Y.2.2.1 (.getfield idx) pc len = true)
    (hlk : ((qx_lk lk idx).1 = 0 → qx_lf own idx (qx_lk lk idx).2.1 (qx_lk lk idx).2.2.1) ∧ ((qx_lk lk idx).1 = 10 → qx_lU own Y idx (qx_lk lk idx).2.1 (qx_lk lk idx).2.2.1)) (h : qx_step T sc call ty lk Φ κ (.getfield idx) pc len ls st σ) : qx_K G T d own Y pc ls st σ Φ := by
  obtain rfl : len = 3 := qx_beq hv
  simp only [qx_step] at h
  generalize qx_lk lk idx = E at h hlk
  split at h
  · next a r =>
    unfold qx_get at h
    split at h
    · next e0 =>
      have hf := hlk.1 e0
      split at h
      · next et =>
        obtain ⟨ee, h⟩ := qx_cond h
        obtain ⟨ci, hci, hkd⟩ := qx_ob_inv _ _ ee
        obtain ⟨q1, C, T', N, ty, hcf, hkN, hw⟩ := hf ci hci
        exact qx_getS hcf hkN hw hkd (fun bt _ => by rw [qx_fv_i (Or.inl (qx_headD q1 et))]; rfl) hd (hκ _ _ _ _ h)
      · next et =>
        obtain ⟨ee, h⟩ := qx_cond h
        obtain ⟨ci, hci, hkd⟩ := qx_ob_inv _ _ ee
        obtain ⟨q1, C, T', N, ty, hcf, hkN, hw⟩ := hf ci hci
        exact qx_getS hcf hkN hw hkd (fun bt _ => by rw [qx_fv_i (Or.inr (qx_headD q1 et))]; rfl) hd (hκ _ _ _ _ h)
      · next et =>
        obtain ⟨ee, h⟩ := qx_cond h
        obtain ⟨ci, hci, hkd⟩ := qx_ob_inv _ _ ee
        obtain ⟨q1, C, T', N, ty, hcf, hkN, hw⟩ := hf ci hci
        exact qx_getS hcf hkN hw hkd (fun bt _ => by rw [qx_fv_l (qx_headD q1 et)]; rfl) hd (hκ _ _ _ _ h)
      · next et =>
        obtain ⟨ee, h⟩ := qx_cond h
        obtain ⟨ci, hci, hkd⟩ := qx_ob_inv _ _ ee
        obtain ⟨q1, C, T', N, ty, hcf, hkN, hw⟩ := hf ci hci
        exact qx_getS hcf hkN hw hkd (fun bt _ => by rw [qx_fv_r (qx_headD q1 et), qx_rf_pv]) hd (hκ _ _ _ _ (qx_rr_inv h))
      · next et =>
        obtain ⟨ee, h⟩ := qx_cond h
        obtain ⟨ci, hci, hkd⟩ := qx_obB_inv _ _ ee
        obtain ⟨q1, C, T', N, ty, hcf, hkN, hw⟩ := hf ci hci
        exact qx_getS hcf hkN hw (Or.inl hkd) (fun bt hbt => by rw [hbt.mpr hkd, qx_fv_3 (qx_headD q1 et), q1]; rfl) hd (hκ _ _ _ _ h)
      · next et =>
        obtain ⟨ee, h⟩ := qx_cond h
        obtain ⟨ci, hci, hkd⟩ := qx_obB_inv _ _ ee
        obtain ⟨q1, C, T', N, ty, hcf, hkN, hw⟩ := hf ci hci
        exact qx_getS hcf hkN hw (Or.inl hkd) (fun bt hbt => by rw [hbt.mpr hkd, qx_fv_4 (qx_headD q1 et), q1]; rfl) hd (hκ _ _ _ _ h)
      · exact h.elim
    · next e0 =>
      obtain ⟨ee, h⟩ := qx_cond h
      obtain ⟨ci, hci, hkd⟩ := qx_obU_inv _ _ ee
      obtain ⟨q1, C, T', N, ty, hcf, hkN, hw, -⟩ := (hlk.2 e0).2 ci hci
      refine qx_getS hcf hkN hw (Or.inr hkd) (fun bt hbt => ?_) hd (hκ _ _ _ _ (qx_rr_inv h))
      have : bt = false := by
        cases bt with
        | false => rfl
        | true => have := hbt.mp rfl; omega
      rw [this, qx_fv_U q1, qx_rf_pv]
    · exact h.elim
  · exact h.elim
theorem qs_putfield (hκ : ∀ pc' ls' st' σ', κ pc' ls' st' σ' → qx_K G T d own Y pc' ls' st' σ' Φ) {pc len : Nat} {ls st : List Value} {σ : qx_S} {idx : Nat} (hd : decode Y.2.1 pc = .ok (.putfield idx, len)) (hv : qx_vi Y.2.2.1 (.putfield idx) pc len = true)
    (hlk : ((qx_lk lk idx).1 = 0 → qx_lf own idx (qx_lk lk idx).2.1 (qx_lk lk idx).2.2.1) ∧ ((qx_lk lk idx).1 = 10 → qx_lU own Y idx (qx_lk lk idx).2.1 (qx_lk lk idx).2.2.1)) (h : qx_step T sc call ty lk Φ κ (.putfield idx) pc len ls st σ) : qx_K G T d own Y pc ls st σ Φ := by
  obtain rfl : len = 3 := qx_beq hv
  simp only [qx_step] at h
  generalize qx_lk lk idx = E at h hlk
  split at h
  · next v a r =>
    unfold qx_put at h
    split at h
    · next e0 =>
      have hf := hlk.1 e0
      split at h
      · next x et =>
        obtain ⟨ee, h⟩ := qx_cond h
        obtain ⟨ci, hci, hkd⟩ := qx_ob_inv _ _ ee
        obtain ⟨q1, C, T', N, ty, hcf, hkN, hw⟩ := hf ci hci
        have et' := qx_headD q1 et
        have hty := qx_ty0 (qx_tyof hcf hkN et')
        refine qx_putS (σ1 := qx_wi σ a E.2.1 x) hcf hkN hw hkd (qx_nofin hcf hkN et' (by omega) (by omega)) (by rw [hty]; rfl) (by rw [hty]; rfl) rfl rfl rfl (fun s H hR => qx_wi_sc hR ?_) (fun b hb => ⟨qx_up2_ne hb, rfl, rfl⟩) (fun j hj => ⟨?_, rfl, rfl⟩) (fun bt _ => ?_) hd (hκ _ _ _ _ h)
        · have := hcf.lt; rcases hkd with z | z <;> rw [z]
          · exact Or.inl (by omega)
          · exact Or.inr (by omega)
        · show qx_up2 σ.2.2.2.1 a E.2.1 x a j = _
          simp [qx_up2, hj]
        · rw [qx_fv_i (Or.inl et')]
          show Value.int (qx_up2 σ.2.2.2.1 a E.2.1 x a E.2.1) = .int x
          simp [qx_up2]
      · next x et =>
        obtain ⟨ee, hx, h⟩ := qx_cond h
        obtain ⟨ci, hci, hkd⟩ := qx_ob_inv _ _ ee
        obtain ⟨q1, C, T', N, ty, hcf, hkN, hw⟩ := hf ci hci
        have et' := qx_headD q1 et
        have hty := qx_ty5 (qx_tyof hcf hkN et')
        refine qx_putS (σ1 := qx_wi σ a E.2.1 x) hcf hkN hw hkd (qx_nofin hcf hkN et' (by omega) (by omega)) (by rw [hty]; rcases hx with rfl | rfl <;> rfl) (by rw [hty]; rcases hx with rfl | rfl <;> rfl) rfl rfl rfl (fun s H hR => qx_wi_sc hR ?_) (fun b hb => ⟨qx_up2_ne hb, rfl, rfl⟩) (fun j hj => ⟨?_, rfl, rfl⟩) (fun bt _ => ?_) hd (hκ _ _ _ _ h)
        · have := hcf.lt; rcases hkd with z | z <;> rw [z]
          · exact Or.inl (by omega)
          · exact Or.inr (by omega)
        · show qx_up2 σ.2.2.2.1 a E.2.1 x a j = _
          simp [qx_up2, hj]
        · rw [qx_fv_i (Or.inr et')]
          show Value.int (qx_up2 σ.2.2.2.1 a E.2.1 x a E.2.1) = .int x
          simp [qx_up2]
      · next x et =>
        obtain ⟨ee, h⟩ := qx_cond h
        obtain ⟨ci, hci, hkd⟩ := qx_ob_inv _ _ ee
        obtain ⟨q1, C, T', N, ty, hcf, hkN, hw⟩ := hf ci hci
        have et' := qx_headD q1 et
        have hty := qx_ty1 (qx_tyof hcf hkN et')
        refine qx_putS (σ1 := qx_wl σ a E.2.1 x) hcf hkN hw hkd (qx_nofin hcf hkN et' (by omega) (by omega)) (by rw [hty]; rfl) (by rw [hty]; rfl) rfl rfl rfl (fun s H hR => ⟨rfl, rfl⟩) (fun b hb => ⟨rfl, qx_up2_ne hb, rfl⟩) (fun j hj => ⟨rfl, ?_, rfl⟩) (fun bt _ => ?_) hd (hκ _ _ _ _ h)
        · show qx_up2 σ.2.2.2.2.1 a E.2.1 x a j = _
          simp [qx_up2, hj]
        · rw [qx_fv_l et']
          show Value.long (qx_up2 σ.2.2.2.2.1 a E.2.1 x a E.2.1) = .long x
          simp [qx_up2]
      · next et =>
        obtain ⟨ee, h⟩ := qx_cond h
        obtain ⟨ci, hci, hkd⟩ := qx_ob_inv _ _ ee
        obtain ⟨q1, C, T', N, ty, hcf, hkN, hw⟩ := hf ci hci
        have et' := qx_headD q1 et
        have hty := qx_ty2 (qx_tyof hcf hkN et')
        refine qx_putS (σ1 := qx_wr σ a E.2.1 none) hcf hkN hw hkd (qx_nofin hcf hkN et' (by omega) (by omega)) (by rcases hty with ⟨_, z⟩ | ⟨_, z⟩ <;> rw [z] <;> rfl) (by rcases hty with ⟨_, z⟩ | ⟨_, z⟩ <;> rw [z] <;> rfl) rfl rfl rfl (fun s H hR => ⟨rfl, rfl⟩) (fun b hb => ⟨rfl, rfl, qx_up2_ne hb⟩) (fun j hj => ⟨rfl, rfl, ?_⟩) (fun bt _ => ?_) hd (hκ _ _ _ _ h)
        · show qx_up2 σ.2.2.2.2.2 a E.2.1 none a j = _
          simp [qx_up2, hj]
        · rw [qx_fv_r et']
          show va_rf ((qx_up2 σ.2.2.2.2.2 a E.2.1 none a E.2.1).map (qx_ad G)) = .null
          simp [qx_up2, va_rf]
      · next x et =>
        obtain ⟨ee, h⟩ := qx_cond h
        obtain ⟨ci, hci, hkd⟩ := qx_ob_inv _ _ ee
        obtain ⟨q1, C, T', N, ty, hcf, hkN, hw⟩ := hf ci hci
        have et' := qx_headD q1 et
        have hty := qx_ty2 (qx_tyof hcf hkN et')
        refine qx_putS (σ1 := qx_wr σ a E.2.1 (some x)) hcf hkN hw hkd (qx_nofin hcf hkN et' (by omega) (by omega)) (by rcases hty with ⟨_, z⟩ | ⟨_, z⟩ <;> rw [z] <;> rfl) (by rcases hty with ⟨_, z⟩ | ⟨_, z⟩ <;> rw [z] <;> rfl) rfl rfl rfl (fun s H hR => ⟨rfl, rfl⟩) (fun b hb => ⟨rfl, rfl, qx_up2_ne hb⟩) (fun j hj => ⟨rfl, rfl, ?_⟩) (fun bt _ => ?_) hd (hκ _ _ _ _ h)
        · show qx_up2 σ.2.2.2.2.2 a E.2.1 (some x) a j = _
          simp [qx_up2, hj]
        · rw [qx_fv_r et']
          show va_rf ((qx_up2 σ.2.2.2.2.2 a E.2.1 (some x) a E.2.1).map (qx_ad G)) = .ref (qx_ad G x)
          simp [qx_up2, va_rf]
      · exact h.elim
    · next e0 =>
      split at h
      · next x =>
        obtain ⟨ee, h⟩ := qx_cond h
        obtain ⟨ci, hci, hkd⟩ := qx_obU_inv _ _ ee
        obtain ⟨q1, C, T', N, ty, hcf, hkN, -, hw⟩ := (hlk.2 e0).2 ci hci
        exact qx_putSU (hlk.2 e0).1 hcf hkN hw hkd q1 hd (hκ _ _ _ _ h)
      · exact h.elim
    · exact h.elim
  · exact h.elim
end GP
