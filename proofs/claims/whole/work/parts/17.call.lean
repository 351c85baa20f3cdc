theorem qx_cat8 {G : qx_G} {rest : List Value} (h : qx_cs rest ≤ 8) : ((rest.map (qx_pv G)).map fun v => v.category).sum ≤ 8 := by
  have : ∀ l : List Value, ((l.map (qx_pv G)).map fun v => v.category).sum = qx_cs l := by
    intro l
    induction l with
    | nil => rfl
    | cons v l ih => simp only [List.map_cons, List.sum_cons, qx_pv_cat, ih, qx_cs]
  rw [this]
  exact h
section MW
variable {p : Program} {l : Launch} {e : Env} {R : Room} {s : State} {m : MethodId} {args : Array Value} {below : List Frame} {meth : Method} {c : Code} {H : Heap} {locs : List Loc} {cells slots : Nat} {Q : State → Prop}
/-- System.arraycopy of ints between two cells -/
theorem qx_copyW {cc : ByteArray} {pc : Nat} {ls : Array Slot} {rest : List Value} {a a0 : Nat} (hexec : p.tables.exec = Jvm.exec) (hb : c.code = cc) (hml : c.maxLocals = ls.size) {own : String} {index : Nat} (hown : s.vm.findClass own = some m.cls) (hlink : (Cond.methodLink own index arraycopyName).before args s = true) (hnat : (Cond.native arraycopyName).before args s = true) (hstat : (Cond.static arraycopyName).before args s = true) (hini : (Cond.initialized "java/lang/System").before args s = true)
    {cA : ClassId} {n0 n1 : Nat} {f g : Nat → Int32} (hc0 : H[a0]? = some (vp_cell cA (n0, .inl f))) (hc1 : H[a]? = some (vp_cell cA (n1, .inl g))) (hAr : ArrOfT s cA .int)
    {sp dp n : Int32} (h1 : ¬ sp < 0) (h2 : ¬ dp < 0) (h3 : ¬ n < 0) (h4 : sp.toNatClampNeg + n.toNatClampNeg ≤ n0) (h5 : dp.toNatClampNeg + n.toNatClampNeg ≤ n1)
    (hframes : 1 ≤ R.frames) (hlocals : (rest.map fun v => v.category).sum + (nativeFrameWords "java/lang/System" "arraycopy" 5 + 11) ≤ R.locals) (hdg : decode cc pc = .ok (.invokestatic index, 3))
    (kk : ∀ (H1 : Heap) (L : List Loc), H1[a]? = some (vp_cell cA (n1, .inl (va_cpy f g sp.toNatClampNeg dp.toNatClampNeg n.toNatClampNeg))) → H1.size = H.size → (∀ q, q ≠ a → H1[q]? = H[q]?) → (∀ q ∈ L, q.base = a) → W p l e R s m args below meth c H1 (locs ++ L) cells slots Q (F0 m (pc + 3) ls rest)) : W p l e R s m args below meth c H locs cells slots Q (F0 m pc ls (.int n :: .int dp :: .ref a :: .int sp :: .ref a0 :: rest)) := by
  have nn : ∀ z : Int32, ¬ z < 0 → z.toInt = (z.toNatClampNeg : Int) := by
    intro z hz
    have hz0 : (0 : Int) ≤ z.toInt := by
      have := Int32.not_lt.mp hz
      simpa using Int32.le_iff_toInt_le.mp this
    show z.toInt = ((z.toInt.toNat : Nat) : Int)
    omega
  intro T hT X
  obtain ⟨-, k0, hk0, cm0, hkk0⟩ := hAr n0 (fun j => .int (f j))
  obtain ⟨-, k1, hk1, cm1, hkk1⟩ := hAr n1 (fun j => .int (g j))
  obtain ⟨vm', X', step⟩ := X.arraycopy hexec hown hlink hnat hstat hini (src := a0) (dst := a) (cs := vp_cell cA (n0, .inl f)) (cd := vp_cell cA (n1, .inl g)) (srcPos := sp) (destPos := dp) (n := n) (by rw [hT]; exact hc0) (by rw [hT]; exact hc1)
    (fun _ h => by cases h) (fun _ h => by cases h) (fun h => by cases h) (fun h => by cases h) hk0 hk1 hkk0 hkk1 (by simp [refKind]) h1 h2 h3
    (by rw [nn sp h1, nn n h3]; show ¬ _ > ((arrV cA n0 (fun j => .int (f j))).slots.size : Int); rw [arrV_size]; omega)
    (by rw [nn dp h2, nn n h3]; show ¬ _ > ((arrV cA n1 (fun j => .int (g j))).slots.size : Int); rw [arrV_size]; omega)
    (fun vm₁ _ i hi => by
      have e : (vp_cell cA (n0, .inl f)).slots.getD (sp.toNatClampNeg + i) .null = .int (f (sp.toNatClampNeg + i)) := by
        show (arrV cA n0 (fun j => .int (f j))).slots.getD _ _ = _
        rw [Array.getD_eq_getD_getElem?, arrV_read _ _ (by omega)]
        rfl
      refine ⟨?_, ?_⟩
      · rw [e]
        rfl
      · rw [e]
        exact trivial)
    (g := F0 m pc ls (.int n :: .int dp :: .ref a :: .int sp :: .ref a0 :: rest)) rfl (by rw [hml]) (rest := rest) rfl (by rw [hb]; exact hdg) hframes (by show 2 * 0 + _ + _ ≤ _; omega)
  have e1 : copied (vp_cell cA (n0, .inl f)) (vp_cell cA (n1, .inl g)) sp dp n = vp_cell cA (n1, .inl (va_cpy f g sp.toNatClampNeg dp.toNatClampNeg n.toNatClampNeg)) := va_copied (fun z => .int z) cA cA f g h4
  rw [e1] at X' step
  have hl : a < H.size := (Array.getElem?_eq_some_iff.mp hc1).1
  have hheap : ((T.setVm vm').setCell a (vp_cell cA (n1, .inl (va_cpy f g sp.toNatClampNeg dp.toNatClampNeg n.toNatClampNeg)))).heap = H.setIfInBounds a (vp_cell cA (n1, .inl (va_cpy f g sp.toNatClampNeg dp.toNatClampNeg n.toNatClampNeg))) := by rw [← hT]; rfl
  have oq : ∀ q : Nat, q ≠ a → (H.setIfInBounds a (vp_cell cA (n1, .inl (va_cpy f g sp.toNatClampNeg dp.toNatClampNeg n.toNatClampNeg))))[q]? = H[q]? := fun q hq => by simp [Array.getElem?_setIfInBounds, Ne.symm hq]
  obtain ⟨t, a1, b1⟩ := kk _ _ (show (H.setIfInBounds a _)[a]? = some _ by simp [Array.getElem?_setIfInBounds, hl]) (by simp) oq (fun q hq => by
      obtain ⟨z, -, hz⟩ := List.mem_map.mp hq
      rw [← hz]) _ hheap X'
  exact ⟨t, step t a1, b1⟩
end MW
section SS
variable {G : qx_G} {T : qx_T} {sc : Bool} {d : Nat} {own : String} {Y : qx_Y} {ty : Option FieldType} {lk : List (Nat × qx_L)} {Φ : qx_F} {κ : qx_k}
/-- the links of static calls -/
def qx_ls (own : String) (idx : Nat) (e : qx_L) : Prop := (e.1 = 3 → ∀ y ∈ e.2.2.2.2, qx_sok own idx e.2.1 y.2) ∧
  (e.1 = 11 → Cond.methodLink own idx arraycopyName ∈ qx_tbl ∧ Cond.native arraycopyName ∈ qx_tbl ∧ Cond.static arraycopyName ∈ qx_tbl ∧ Cond.initialized "java/lang/System" ∈ qx_tbl) ∧
  (e.1 = 12 → Cond.methodLink own idx Lib.Math.max.name ∈ qx_tbl ∧ Cond.static Lib.Math.max.name ∈ qx_tbl ∧ Cond.initialized "java/lang/Math" ∈ qx_tbl ∧ Cond.code Lib.Math.max.name Lib.Math.max.code 2 (some .int) ∈ qx_tbl) ∧
  (e.1 = 13 → Cond.methodLink own idx Lib.Math.min.name ∈ qx_tbl ∧ Cond.static Lib.Math.min.name ∈ qx_tbl ∧ Cond.initialized "java/lang/Math" ∈ qx_tbl ∧ Cond.code Lib.Math.min.name Lib.Math.min.code 2 (some .int) ∈ qx_tbl) ∧
  (e.1 = 14 → Cond.methodLink own idx Lib.MathLoose.max_long.x ∈ qx_tbl ∧ Cond.static Lib.MathLoose.max_long.x ∈ qx_tbl ∧ Cond.initialized "java/lang/Math" ∈ qx_tbl ∧ Cond.code Lib.MathLoose.max_long.x Lib.MathLoose.max_long.code 4 (some .long) ∈ qx_tbl) ∧
  (e.1 = 15 → Cond.methodLink own idx Lib.MathLoose.min_long.x ∈ qx_tbl ∧ Cond.static Lib.MathLoose.min_long.x ∈ qx_tbl ∧ Cond.initialized "java/lang/Math" ∈ qx_tbl ∧ Cond.code Lib.MathLoose.min_long.x Lib.MathLoose.min_long.code 4 (some .long) ∈ qx_tbl)
theorem qs_copy {pc idx : Nat} {ls rest : List Value} {σ : qx_S} {n dp sp : Int32} {a a0 : Nat} (hd : decode Y.2.1 pc = .ok (.invokestatic idx, 3)) (hw : Cond.methodLink own idx arraycopyName ∈ qx_tbl ∧ Cond.native arraycopyName ∈ qx_tbl ∧ Cond.static arraycopyName ∈ qx_tbl ∧ Cond.initialized "java/lang/System" ∈ qx_tbl)
    (h0 : (qx_sh T σ a0).1 = 0) (h1 : (qx_sh T σ a).1 = 0) (hs : qx_cs rest ≤ 8) (hne : ¬ a0 = a) (hn : ¬ n < 0) (hsp : ¬ sp < 0) (hdp : ¬ dp < 0) (h4 : sp.toNatClampNeg + n.toNatClampNeg ≤ (qx_sh T σ a0).2) (h5 : dp.toNatClampNeg + n.toNatClampNeg ≤ (qx_sh T σ a).2)
    (h : qx_K G T d own Y (pc + 3) ls rest (σ.1, σ.2.1, σ.2.2.1, va_up σ.2.2.2.1 a (va_cpy (σ.2.2.2.1 a0) (σ.2.2.2.1 a) sp.toNatClampNeg dp.toNatClampNeg n.toNatClampNeg), σ.2.2.2.2.1, σ.2.2.2.2.2) Φ) : qx_K G T d own Y pc ls (.int n :: .int dp :: .ref a :: .int sp :: .ref a0 :: rest) σ Φ := by
  have hup : ∀ (b : Nat) (x : Nat → Int32), b ≠ a → va_up σ.2.2.2.1 a x b = σ.2.2.2.1 b := fun b x hb => by simp [va_up, hb]
  refine qx_go h (Nat.le_refl _) (Nat.le_refl _) (fun s H hR => ⟨rfl, hup 0 _ (by have := (hR.arr h1 (by omega)).1; omega)⟩) fun p e R s m args below meth c H locs cells slots lsA Q hcx hf hlo hc hsl hR hb hS hl k => ?_
  obtain ⟨g1, g2, g3⟩ := hR.arr h1 (by omega)
  obtain ⟨f1, f2, f3⟩ := hR.arr h0 (by omega)
  have hts := hcx.2.2.2.2.2.1
  have h8 := qx_cat8 (G := G) hs
  refine qx_copyW hcx.1 hcx.2.1 (by rw [hcx.2.2.1, hl.1]) hcx.2.2.2.2.1 (hts _ hw.1) (hts _ hw.2.1) (hts _ hw.2.2.1) (hts _ hw.2.2.2) f3 g3 (hR.2.1.2 0 _ rfl).1 hsp hdp hn h4 h5 (by omega) ?_ hd fun H1 L e1 z oq hL => ?_
  · have : nativeFrameWords "java/lang/System" "arraycopy" 5 = 7 := by decide +kernel
    rw [this]
    omega
  · have hR1 : qx_R G T s (σ.1, σ.2.1, σ.2.2.1, va_up σ.2.2.2.1 a (va_cpy (σ.2.2.2.1 a0) (σ.2.2.2.1 a) sp.toNatClampNeg dp.toNatClampNeg n.toNatClampNeg), σ.2.2.2.2.1, σ.2.2.2.2.2) H1 := by
      refine hR.set g1 rfl rfl (fun b hb => ⟨hup b _ hb, rfl, rfl⟩) z oq ?_
      unfold qx_at
      rw [if_pos (by omega), h1, e1]
      congr 3
      show (_ : (Nat → Int32) ⊕ _) = .inl (va_up σ.2.2.2.1 a _ a)
      simp [va_up]
    have kk := k H1 (locs ++ L) lsA hR1 ⟨by rw [z]; exact hS.1, fun q q1 q2 => by
      rw [oq q (fun e => q2 (by rw [e]; exact hR.1.ge g1))]
      exact hS.2.1 q q1 q2, fun q hq => by
      rcases List.mem_append.mp hq with h | h
      · exact hS.2.2 q h
      · rw [hL q h]; exact hR.1.ge g1⟩ hl
    rw [show ((σ.1, σ.2.1, σ.2.2.1, va_up σ.2.2.2.1 a (va_cpy (σ.2.2.2.1 a0) (σ.2.2.2.1 a) sp.toNatClampNeg dp.toNatClampNeg n.toNatClampNeg), σ.2.2.2.2.1, σ.2.2.2.2.2) : qx_S).1 - σ.1 = 0 from Nat.sub_self _, show ((σ.1, σ.2.1, σ.2.2.1, va_up σ.2.2.2.1 a (va_cpy (σ.2.2.2.1 a0) (σ.2.2.2.1 a) sp.toNatClampNeg dp.toNatClampNeg n.toNatClampNeg), σ.2.2.2.2.1, σ.2.2.2.2.2) : qx_S).2.1 - σ.2.1 = 0 from Nat.sub_self _] at kk
    exact kk
theorem qs_invokestatic (hκ : ∀ pc' ls' st' σ', κ pc' ls' st' σ' → qx_K G T d own Y pc' ls' st' σ' Φ) {pc len : Nat} {ls st : List Value} {σ : qx_S} {idx : Nat} (hd : decode Y.2.1 pc = .ok (.invokestatic idx, len)) (hv : qx_vi Y.2.2.1 (.invokestatic idx) pc len = true) (hlk : qx_ls own idx (qx_lk lk idx)) (h : qx_step T sc (qx_call G T d) ty lk Φ κ (.invokestatic idx) pc len ls st σ) : qx_K G T d own Y pc ls st σ Φ := by
  obtain rfl : len = 3 := qx_beq hv
  simp only [qx_step] at h
  generalize qx_lk lk idx = E at h hlk
  obtain ⟨l3, l11, l12, l13, l14, l15⟩ := hlk
  cases e2 : Nat.ble 11 E.1 with
  | false =>
    rw [e2] at h
    obtain ⟨e3, h⟩ := qx_cond h
    have e1 := qx_beq e3
    replace h : qx_inv T (qx_call G T d) E st σ (fun r σ1 => κ (pc + 3) ls r σ1) := h
    unfold qx_inv at h
    rw [e1] at h
    replace h : qx_iv3 T (qx_call G T d) E st σ (fun r σ1 => κ (pc + 3) ls r σ1) := h
    unfold qx_iv3 at h
    split at h
    · next as rest y hp hys =>
      obtain ⟨hs, h⟩ := qx_cond h
      have hV := l3 e1 y (by rw [hys]; exact List.mem_cons_self)
      obtain ⟨l, q1, q2, q3⟩ := qx_pop_inv _ _ _ _ hp
      simp only [List.append_nil] at q3
      have est : st = qx_stk as rest := by rw [q2, q3]; simp [qx_stk]
      rw [est]
      exact qx_callS hV.1 hV.2 hd (fun s H hR => by show _ = _; rw [q3]; simp [q1]) (Nat.le_of_ble_eq_true hs) (qx_call_mono h fun r σ1 z => hκ _ _ _ _ z)
    · exact h.elim
  | true =>
    rw [e2] at h
    replace h : qx_inv T (qx_call G T d) E st σ (fun r σ1 => κ (pc + 3) ls r σ1) := h
    unfold qx_inv at h
    split at h
    · next e1 => rw [e1] at e2; cases e2
    · next e1 => rw [e1] at e2; cases e2
    · next e1 => rw [e1] at e2; cases e2
    · next e1 => rw [e1] at e2; cases e2
    · next e1 =>
      unfold qx_iv11 at h
      split at h
      · next n dp a sp a0 rest =>
        obtain ⟨z0, h⟩ := qx_cond h
        obtain ⟨z1, h⟩ := qx_cond h
        obtain ⟨hs, hne, hn, hsp, hdp, h4, h5, h⟩ := qx_cond h
        exact qs_copy hd (l11 e1) (qx_beq z0) (qx_beq z1) (Nat.le_of_ble_eq_true hs) hne hn hsp hdp h4 h5 (hκ _ _ _ _ h)
      · exact h.elim
    · next e1 =>
      unfold qx_iv12 at h
      split at h
      · next y x rest =>
        obtain ⟨hs, h⟩ := qx_cond h
        obtain ⟨w1, w2, w3, w4⟩ := l12 e1
        refine qx_go (hκ _ _ _ _ h) (Nat.le_refl _) (Nat.le_refl _) (fun _ _ _ => qx_sc.rf) fun p e R s m args below meth c H locs cells slots lsA Q hcx hf hlo hc hsl hR hb hS hl k => ?_
        have hts := hcx.2.2.2.2.2.1
        have h8 := qx_cat8 (G := G) (Nat.le_of_ble_eq_true hs)
        have kk := k H locs lsA hR hS hl
        rw [Nat.sub_self, Nat.sub_self] at kk
        rw [Nat.sub_self] at hc hsl
        exact va_mmax hcx.1 hcx.2.1 (by rw [hcx.2.2.1, hl.1]) hcx.2.2.2.2.1 (hts _ w1) (hts _ w2) (hts _ w3) (hts _ w4) (by omega) (by omega) hc hsl hd kk
      · exact h.elim
    · next e1 =>
      unfold qx_iv13 at h
      split at h
      · next y x rest =>
        obtain ⟨hs, h⟩ := qx_cond h
        obtain ⟨w1, w2, w3, w4⟩ := l13 e1
        refine qx_go (hκ _ _ _ _ h) (Nat.le_refl _) (Nat.le_refl _) (fun _ _ _ => qx_sc.rf) fun p e R s m args below meth c H locs cells slots lsA Q hcx hf hlo hc hsl hR hb hS hl k => ?_
        have hts := hcx.2.2.2.2.2.1
        have h8 := qx_cat8 (G := G) (Nat.le_of_ble_eq_true hs)
        have kk := k H locs lsA hR hS hl
        rw [Nat.sub_self, Nat.sub_self] at kk
        rw [Nat.sub_self] at hc hsl
        exact va_mmin hcx.1 hcx.2.1 (by rw [hcx.2.2.1, hl.1]) hcx.2.2.2.2.1 (hts _ w1) (hts _ w2) (hts _ w3) (hts _ w4) (by omega) (by omega) hc hsl hd kk
      · exact h.elim
    · next e1 =>
      unfold qx_iv14 at h
      split at h
      · next y x rest =>
        obtain ⟨hs, h⟩ := qx_cond h
        obtain ⟨w1, w2, w3, w4⟩ := l14 e1
        refine qx_go (hκ _ _ _ _ h) (Nat.le_refl _) (Nat.le_refl _) (fun _ _ _ => qx_sc.rf) fun p e R s m args below meth c H locs cells slots lsA Q hcx hf hlo hc hsl hR hb hS hl k => ?_
        have hts := hcx.2.2.2.2.2.1
        have h8 := qx_cat8 (G := G) (Nat.le_of_ble_eq_true hs)
        have kk := k H locs lsA hR hS hl
        rw [Nat.sub_self, Nat.sub_self] at kk
        rw [Nat.sub_self] at hc hsl
        exact va_mmax_long hcx.1 hcx.2.1 (by rw [hcx.2.2.1, hl.1]) hcx.2.2.2.2.1 (hts _ w1) (hts _ w2) (hts _ w3) (hts _ w4) (by omega) (by omega) hc hsl hd kk
      · exact h.elim
    · next e1 =>
      unfold qx_iv15 at h
      split at h
      · next y x rest =>
        obtain ⟨hs, h⟩ := qx_cond h
        obtain ⟨w1, w2, w3, w4⟩ := l15 e1
        refine qx_go (hκ _ _ _ _ h) (Nat.le_refl _) (Nat.le_refl _) (fun _ _ _ => qx_sc.rf) fun p e R s m args below meth c H locs cells slots lsA Q hcx hf hlo hc hsl hR hb hS hl k => ?_
        have hts := hcx.2.2.2.2.2.1
        have h8 := qx_cat8 (G := G) (Nat.le_of_ble_eq_true hs)
        have kk := k H locs lsA hR hS hl
        rw [Nat.sub_self, Nat.sub_self] at kk
        rw [Nat.sub_self] at hc hsl
        exact va_mmin_long hcx.1 hcx.2.1 (by rw [hcx.2.2.1, hl.1]) hcx.2.2.2.2.1 (hts _ w1) (hts _ w2) (hts _ w3) (hts _ w4) (by omega) (by omega) hc hsl hd kk
      · exact h.elim
    · exact h.elim
end SS
