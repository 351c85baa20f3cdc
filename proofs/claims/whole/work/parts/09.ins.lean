theorem qx_wl_sc {G : qx_G} {T : qx_T} {s : State} {σ : qx_S} {H : Heap} {a j : Nat} {v : Int64} : qx_sc T σ (qx_wl σ a j v) := ⟨rfl, rfl⟩
theorem qx_wr_sc {G : qx_G} {T : qx_T} {s : State} {σ : qx_S} {H : Heap} {a j : Nat} {v : Option Nat} : qx_sc T σ (qx_wr σ a j v) := ⟨rfl, rfl⟩
theorem qx_kd_arr {k : Nat} (h : k < 20) : qx_kd k := Or.inl h
/-- an int goes into an array's place -/
theorem qx_R.wi {G : qx_G} {T : qx_T} {s : State} {σ : qx_S} {H H1 : Heap} (h : qx_R G T s σ H) {a k j : Nat} {v : Int32} (hk : (qx_sh T σ a).1 = k) (h3 : k < 3) (hz : H1.size = H.size) (ho : ∀ q, q ≠ qx_ad G a → H1[q]? = H[q]?)
    (e : H1[qx_ad G a]? = some ((vp_cell (qx_cA G k) ((qx_sh T σ a).2, .inl (σ.2.2.2.1 a))).setSlot j (.int v))) : qx_R G T s (qx_wi σ a j v) H1 := by
  obtain ⟨g1, g2, g3⟩ := h.arr hk h3
  refine h.set g1 rfl rfl (fun b hb => ⟨qx_up2_ne hb, rfl, rfl⟩) hz ho ?_
  unfold qx_at
  rw [if_pos (by omega), hk, e, vp_cell_i, vp_cell_i, arrV_store]
  congr 2
  funext i
  show updV (fun j => .int (σ.2.2.2.1 a j)) j (.int v) i = .int (qx_up2 σ.2.2.2.1 a j v a i)
  by_cases hi : i = j
  · simp [updV, qx_up2, hi]
  · simp [updV, qx_up2, hi]
theorem qx_R.wl {G : qx_G} {T : qx_T} {s : State} {σ : qx_S} {H H1 : Heap} (h : qx_R G T s σ H) {a j : Nat} {v : Int64} (hk : (qx_sh T σ a).1 = 3) (hz : H1.size = H.size) (ho : ∀ q, q ≠ qx_ad G a → H1[q]? = H[q]?)
    (e : H1[qx_ad G a]? = some ((vp_cell (qx_cA G 3) ((qx_sh T σ a).2, .inr (.inl (σ.2.2.2.2.1 a)))).setSlot j (.long v))) : qx_R G T s (qx_wl σ a j v) H1 := by
  obtain ⟨g1, g2, g3⟩ := h.arrL hk
  refine h.set g1 rfl rfl (fun b hb => ⟨rfl, qx_up2_ne hb, rfl⟩) hz ho ?_
  unfold qx_at
  rw [if_neg (by omega), if_pos hk, e, vp_cell_l, vp_cell_l, arrV_store]
  congr 2
  funext i
  show updV (fun j => .long (σ.2.2.2.2.1 a j)) j (.long v) i = .long (qx_up2 σ.2.2.2.2.1 a j v a i)
  by_cases hi : i = j
  · simp [updV, qx_up2, hi]
  · simp [updV, qx_up2, hi]
theorem qx_R.wr {G : qx_G} {T : qx_T} {s : State} {σ : qx_S} {H H1 : Heap} (h : qx_R G T s σ H) {a k j v : Nat} (hk : (qx_sh T σ a).1 = k) (h4 : 4 ≤ k) (h8 : k < 8) (hz : H1.size = H.size) (ho : ∀ q, q ≠ qx_ad G a → H1[q]? = H[q]?)
    (e : H1[qx_ad G a]? = some ((vp_cell (qx_cA G k) ((qx_sh T σ a).2, .inr (.inr (.inr (.inr (fun j => (σ.2.2.2.2.2 a j).map (qx_ad G))))))).setSlot j (.ref (qx_ad G v)))) : qx_R G T s (qx_wr σ a j (some v)) H1 := by
  obtain ⟨g1, g2, g3⟩ := h.arrR hk h4 h8
  refine h.set g1 rfl rfl (fun b hb => ⟨rfl, rfl, qx_up2_ne hb⟩) hz ho ?_
  unfold qx_at
  rw [if_neg (by omega), if_neg (by omega), if_pos (by omega), hk, e, vp_cell_q, vp_cell_q, arrV_store]
  congr 2
  funext i
  show updV (fun j => va_rf ((σ.2.2.2.2.2 a j).map (qx_ad G))) j (.ref (qx_ad G v)) i = va_rf ((qx_up2 σ.2.2.2.2.2 a j (some v) a i).map (qx_ad G))
  by_cases hi : i = j
  · simp [updV, qx_up2, hi, va_rf]
  · simp [updV, qx_up2, hi]
theorem qx_in_arr {cA : ClassId} {n : Nat} {f : Nat → Value} {i : Int32} (hin : vp_in i n) : ¬ (i < 0 ∨ (arrV cA n f).slots.size ≤ i.toNatClampNeg) := by rw [arrV_size]; exact hin
theorem qs_iastore {G : qx_G} {T : qx_T} {sc : Bool} {call : qx_ca} {d : Nat} {own : String} {Y : qx_Y} {ty : Option FieldType} {lk : List (Nat × qx_L)} {Φ : qx_F} {κ : qx_k} (hκ : ∀ pc' ls' st' σ', κ pc' ls' st' σ' → qx_K G T d own Y pc' ls' st' σ' Φ) {pc len : Nat} {ls st : List Value} {σ : qx_S}  (hd : decode Y.2.1 pc = .ok (.iastore, len)) (hv : qx_vi Y.2.2.1 (.iastore) pc len = true) (h : qx_step T sc call ty lk Φ κ (.iastore) pc len ls st σ) : qx_K G T d own Y pc ls st σ Φ := by
  obtain rfl : len = 1 := qx_beq hv
  simp only [qx_step] at h
  split at h
  · next x j a r =>
    obtain ⟨ee, hin, h⟩ := qx_cond h
    have ek := qx_beq ee
    refine qx_goM (hκ _ _ _ _ h) rfl rfl (fun s H hR => qx_wi_sc hR (by rw [ek]; exact qx_kd_arr (by omega))) (fun p e R s m args below meth c H locs cells slots lsA Q hcx hR hb hS hl k => ?_)
    obtain ⟨g1, g2, g3⟩ := hR.arr ek (by omega)
    exact W.iast hcx.1 hcx.2.1 g3 ((hR.2.1.2 0 _ rfl).1 _ _) (fun q => by cases q) (qx_in_arr hin) rfl rfl hd fun H1 e1 z oq => k H1 _ (hR.wi ek (by omega) z oq e1) (hS.put z oq (hR.1.ge g1))
  · exact h.elim
theorem qs_lastore {G : qx_G} {T : qx_T} {sc : Bool} {call : qx_ca} {d : Nat} {own : String} {Y : qx_Y} {ty : Option FieldType} {lk : List (Nat × qx_L)} {Φ : qx_F} {κ : qx_k} (hκ : ∀ pc' ls' st' σ', κ pc' ls' st' σ' → qx_K G T d own Y pc' ls' st' σ' Φ) {pc len : Nat} {ls st : List Value} {σ : qx_S}  (hd : decode Y.2.1 pc = .ok (.lastore, len)) (hv : qx_vi Y.2.2.1 (.lastore) pc len = true) (h : qx_step T sc call ty lk Φ κ (.lastore) pc len ls st σ) : qx_K G T d own Y pc ls st σ Φ := by
  obtain rfl : len = 1 := qx_beq hv
  simp only [qx_step] at h
  split at h
  · next x j a r =>
    obtain ⟨ee, hin, h⟩ := qx_cond h
    have ek := qx_beq ee
    refine qx_goM (hκ _ _ _ _ h) rfl rfl (fun s H hR => ⟨rfl, rfl⟩) (fun p e R s m args below meth c H locs cells slots lsA Q hcx hR hb hS hl k => ?_)
    obtain ⟨g1, g2, g3⟩ := hR.arrL ek
    exact W.last hcx.1 hcx.2.1 g3 ((hR.2.1.2 3 _ rfl).1 _ _) (fun q => by cases q) (qx_in_arr hin) rfl rfl hd fun H1 e1 z oq => k H1 _ (hR.wl ek z oq e1) (hS.put z oq (hR.1.ge g1))
  · exact h.elim
theorem qs_bastore {G : qx_G} {T : qx_T} {sc : Bool} {call : qx_ca} {d : Nat} {own : String} {Y : qx_Y} {ty : Option FieldType} {lk : List (Nat × qx_L)} {Φ : qx_F} {κ : qx_k} (hκ : ∀ pc' ls' st' σ', κ pc' ls' st' σ' → qx_K G T d own Y pc' ls' st' σ' Φ) {pc len : Nat} {ls st : List Value} {σ : qx_S}  (hd : decode Y.2.1 pc = .ok (.bastore, len)) (hv : qx_vi Y.2.2.1 (.bastore) pc len = true) (h : qx_step T sc call ty lk Φ κ (.bastore) pc len ls st σ) : qx_K G T d own Y pc ls st σ Φ := by
  obtain rfl : len = 1 := qx_beq hv
  simp only [qx_step] at h
  split at h
  · next x j a r =>
    cases e0 : Nat.beq (qx_sh T σ a).1 1 with
    | true =>
      rw [e0] at h
      obtain ⟨hin, h⟩ := h
      have ek := qx_beq e0
      refine qx_goM (hκ _ _ _ _ h) rfl rfl (fun s H hR => qx_wi_sc hR (by rw [ek]; exact qx_kd_arr (by omega))) (fun p e R s m args below meth c H locs cells slots lsA Q hcx hR hb hS hl k => ?_)
      obtain ⟨g1, g2, g3⟩ := hR.arr ek (by omega)
      exact W.bast hcx.1 hcx.2.1 g3 ((hR.2.1.2 1 _ rfl).1 _ _) (fun q => by cases q) (qx_in_arr hin) rfl rfl hd fun H1 e1 z oq => k H1 _ (hR.wi ek (by omega) z oq e1) (hS.put z oq (hR.1.ge g1))
    | false =>
      rw [e0] at h
      obtain ⟨ee, hin, hx, h⟩ := qx_cond h
      have ek := qx_beq ee
      refine qx_goM (hκ _ _ _ _ h) rfl rfl (fun s H hR => qx_wi_sc hR (by rw [ek]; exact qx_kd_arr (by omega))) (fun p e R s m args below meth c H locs cells slots lsA Q hcx hR hb hS hl k => ?_)
      obtain ⟨g1, g2, g3⟩ := hR.arr ek (by omega)
      exact W.zast hcx.1 hcx.2.1 g3 ((hR.2.1.2 2 _ rfl).1 _ _) (fun q => by cases q) (qx_in_arr hin) rfl rfl hd fun H1 e1 z oq => k H1 _ (hR.wi ek (by omega) z oq (by rw [e1]; rcases hx with rfl | rfl <;> rfl)) (hS.put z oq (hR.1.ge g1))
  · exact h.elim
