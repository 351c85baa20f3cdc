/-! MEMORY: what a write, a new cell, a call leave -/
theorem qx_at.congr {G : qx_G} {q : Nat × Nat} {σ σ1 : qx_S} {b : Nat} {H H1 : Heap} (h1 : σ1.2.2.2.1 b = σ.2.2.2.1 b) (h2 : σ1.2.2.2.2.1 b = σ.2.2.2.2.1 b) (h3 : σ1.2.2.2.2.2 b = σ.2.2.2.2.2 b) (hH : H1[qx_ad G b]? = H[qx_ad G b]?) (h : qx_at G q σ b H) : qx_at G q σ1 b H1 := by
  have hf : ∀ bt ci k, qx_fv G bt σ1 ci b k = qx_fv G bt σ ci b k := by
    intro bt ci k
    unfold qx_fv
    rw [h1, h2, h3]
  unfold qx_at at h ⊢
  rw [h1, h2, h3, hH]
  split
  · next c => rw [if_pos c] at h; exact h
  · next c =>
    rw [if_neg c] at h
    split
    · next c => rw [if_pos c] at h; exact h
    · next c =>
      rw [if_neg c] at h
      split
      · next c => rw [if_pos c] at h; exact h
      · next c =>
        rw [if_neg c] at h
        split
        · next c => rw [if_pos c] at h; exact (h.kept hH).to (fun k _ => (hf _ _ _).symm)
        · next c =>
          rw [if_neg c] at h
          split
          · next c => rw [if_pos c] at h; exact (h.kept hH).to (fun k _ => (hf _ _ _).symm)
          · trivial
theorem qx_ok.ge {G : qx_G} (h : qx_ok G) {a : Nat} (ha : 3 ≤ a) : qx_b G ≤ qx_ad G a := by rw [h.2.1 a ha]; exact Nat.le_add_right _ _
theorem qx_H.get {G : qx_G} {T : qx_T} {σ : qx_S} {H : Heap} (h : qx_H G T σ H) {a : Nat} {q : Nat × Nat} (hq : qx_sh T σ a = q) (hk : qx_kd q.1) : 3 ≤ a ∧ a < σ.1 ∧ qx_at G q σ a H := by
  subst hq
  exact h.2.2.2 a hk
/-- one cell changes -/
theorem qx_H.set {G : qx_G} {T : qx_T} {σ σ1 : qx_S} {H H1 : Heap} {a : Nat} (hok : qx_ok G) (h : qx_H G T σ H) (e1 : σ1.1 = σ.1) (e2 : σ1.2.2.1 = σ.2.2.1) (hm : ∀ b, b ≠ a → σ1.2.2.2.1 b = σ.2.2.2.1 b ∧ σ1.2.2.2.2.1 b = σ.2.2.2.2.1 b ∧ σ1.2.2.2.2.2 b = σ.2.2.2.2.2 b)
    (hz : H1.size = H.size) (ho : ∀ q, q ≠ qx_ad G a → H1[q]? = H[q]?) (ha : qx_at G (qx_sh T σ a) σ1 a H1) : qx_H G T σ1 H1 := by
  have hs : ∀ b, qx_sh T σ1 b = qx_sh T σ b := fun b => by unfold qx_sh; rw [e2]
  refine ⟨by rw [hz, e1]; exact h.1, by rw [e1]; exact h.2.1, by rw [e1]; exact h.2.2.1, fun b hb => ?_⟩
  rw [hs] at hb ⊢
  obtain ⟨g1, g2, g3⟩ := h.2.2.2 b hb
  refine ⟨g1, by rw [e1]; exact g2, ?_⟩
  by_cases hba : b = a
  · subst hba; exact ha
  · obtain ⟨m1, m2, m3⟩ := hm b hba
    exact qx_at.congr m1 m2 m3 (ho _ (fun z => hba (hok.1 _ _ z))) g3
theorem qx_R.set {G : qx_G} {T : qx_T} {s : State} {σ σ1 : qx_S} {H H1 : Heap} {a : Nat} (h : qx_R G T s σ H) (ha3 : 3 ≤ a) (e1 : σ1.1 = σ.1) (e2 : σ1.2.2.1 = σ.2.2.1) (hm : ∀ b, b ≠ a → σ1.2.2.2.1 b = σ.2.2.2.1 b ∧ σ1.2.2.2.2.1 b = σ.2.2.2.2.1 b ∧ σ1.2.2.2.2.2 b = σ.2.2.2.2.2 b)
    (hz : H1.size = H.size) (ho : ∀ q, q ≠ qx_ad G a → H1[q]? = H[q]?) (ha : qx_at G (qx_sh T σ a) σ1 a H1) : qx_R G T s σ1 H1 := by
  obtain ⟨hok, hK, hX, hO, hE, hH⟩ := h
  have hge := hok.ge ha3
  have hlow : ∀ q, q < qx_b G → H1[q]? = H[q]? := fun q hq => ho q (by omega)
  have hs0 : qx_sh T σ1 0 = qx_sh T σ 0 := by unfold qx_sh; rw [e2]
  refine ⟨hok, hK, ?_, hO.kept (fun q _ hq => hlow q (Nat.not_le.mp hq)), ⟨hok.2.2.2.2.1 s H H1 hlow hE.1, hE.2⟩, hH.set hok e1 e2 hm hz ho ha⟩
  rw [hs0, (hm 0 (by omega)).1]
  exact hX.kept (hlow _ (hok.2.2.1 0 (by omega)))
/-- a new cell -/
theorem qx_H.new {G : qx_G} {T : qx_T} {σ : qx_S} {H H1 : Heap} {q : Nat × Nat} {n : Nat} (hok : qx_ok G) (h : qx_H G T σ H) (hz : H1.size = H.size + 1) (ho : ∀ x, x < H.size → H1[x]? = H[x]?)
    (ha : qx_at G q (qx_al σ q n) σ.1 H1) : qx_H G T (qx_al σ q n) H1 := by
  have hT : T σ.1 = none := h.2.2.1 _ (Nat.le_refl _)
  have hsn : qx_sh T (qx_al σ q n) σ.1 = q := by
    show (match T σ.1 with | some q => q | none => va_up σ.2.2.1 σ.1 q σ.1) = q
    rw [hT]
    simp [va_up]
  have hso : ∀ b, b ≠ σ.1 → qx_sh T (qx_al σ q n) b = qx_sh T σ b := fun b hb => by
    show (match T b with | some q => q | none => va_up σ.2.2.1 σ.1 q b) = (match T b with | some q => q | none => σ.2.2.1 b)
    cases T b <;> simp [va_up, hb]
  refine ⟨?_, ?_, ?_, fun b hb => ?_⟩
  · show H1.size + 3 = qx_b G + (σ.1 + 1)
    rw [hz]; have := h.1; omega
  · show 3 ≤ σ.1 + 1
    have := h.2.1; omega
  · intro a ha
    exact h.2.2.1 a (Nat.le_of_succ_le ha)
  · by_cases hbn : b = σ.1
    · subst hbn
      rw [hsn] at hb ⊢
      exact ⟨h.2.1, Nat.lt_succ_self _, ha⟩
    · rw [hso b hbn] at hb ⊢
      obtain ⟨g1, g2, g3⟩ := h.2.2.2 b hb
      refine ⟨g1, Nat.lt_succ_of_lt g2, qx_at.congr ?_ ?_ ?_ (ho _ ?_) g3⟩
      · show va_up σ.2.2.2.1 σ.1 (fun _ => 0) b = _
        simp [va_up, hbn]
      · show va_up σ.2.2.2.2.1 σ.1 (fun _ => 0) b = _
        simp [va_up, hbn]
      · show va_up σ.2.2.2.2.2 σ.1 (fun _ => none) b = _
        simp [va_up, hbn]
      · rw [hok.2.1 b g1]
        have := h.1
        omega
theorem qx_R.new {G : qx_G} {T : qx_T} {s : State} {σ : qx_S} {H H1 : Heap} {q : Nat × Nat} {n : Nat} (h : qx_R G T s σ H) (hz : H1.size = H.size + 1) (ho : ∀ x, x < H.size → H1[x]? = H[x]?)
    (ha : qx_at G q (qx_al σ q n) σ.1 H1) : qx_R G T s (qx_al σ q n) H1 := by
  obtain ⟨hok, hK, hX, hO, hE, hH⟩ := h
  have hb : qx_b G ≤ H.size := by have := hH.1; have := hH.2.1; omega
  have hlow : ∀ x, x < qx_b G → H1[x]? = H[x]? := fun x hx => ho x (by omega)
  have hne : ¬ 0 = σ.1 := by have := hH.2.1; omega
  have hs0 : qx_sh T (qx_al σ q n) 0 = qx_sh T σ 0 := by
    show (match T 0 with | some q => q | none => va_up σ.2.2.1 σ.1 q 0) = (match T 0 with | some q => q | none => σ.2.2.1 0)
    cases T 0 <;> simp [va_up, hne]
  have hm0 : (qx_al σ q n).2.2.2.1 0 = σ.2.2.2.1 0 := by
    show va_up σ.2.2.2.1 σ.1 (fun _ => 0) 0 = _
    simp [va_up, hne]
  refine ⟨hok, hK, ?_, hO.kept (fun x _ hq => hlow x (Nat.not_le.mp hq)), ⟨hok.2.2.2.2.1 s H H1 hlow hE.1, hE.2⟩, hH.new hok hz ho ha⟩
  rw [hs0, hm0]
  exact hX.kept (hlow _ (hok.2.2.1 0 (by omega)))
/-- behind a call -/
theorem qx_R.call {G : qx_G} {T : qx_T} {s : State} {σ σ1 : qx_S} {H H1 : Heap} (h : qx_R G T s σ H) (hlow : ∀ q, q < H.size → ¬ qx_A G q → H1[q]? = H[q]?) (h1 : qx_H G T σ1 H1) (e0 : qx_sh T σ1 0 = qx_sh T σ 0) (e1 : σ1.2.2.2.1 0 = σ.2.2.2.1 0) : qx_R G T s σ1 H1 := by
  obtain ⟨hok, hK, hX, hO, hE, hH⟩ := h
  have hb : qx_b G ≤ H.size := by have := hH.1; have := hH.2.1; omega
  have hl : ∀ x, x < qx_b G → H1[x]? = H[x]? := fun x hx => hlow x (by omega) (Nat.not_le.mpr hx)
  refine ⟨hok, hK, ?_, hO.kept (fun x _ hq => hl x (Nat.not_le.mp hq)), ⟨hok.2.2.2.2.1 s H H1 hl hE.1, hE.2⟩, h1⟩
  rw [e0, e1]
  exact hX.kept (hl _ (hok.2.2.1 0 (by omega)))
theorem qx_ne.moved {s U : State} (hW : s.WarmedH U.vm) (h : qx_ne s) : qx_ne U := by
  refine ⟨fun w hw => ?_, fun C hC => (h.2 C hC).moved hW.alike⟩
  have hz := h.1 w hw
  have hn := (List.mem_filter.mp hw).2
  cases w with
  | fieldLinkNest => exact hz.warmF hW
  | methodLinkNest => exact hz.warmM hW
  | declares => exact hz.warmD hW
  | _ => cases hn
theorem qx_R.moved {G : qx_G} {T : qx_T} {s U : State} {σ : qx_S} {H : Heap} (hW : s.WarmedH U.vm) (h : qx_R G T s σ H) : qx_R G T U σ H := by
  obtain ⟨hok, hK, hX, hO, hE, hH⟩ := h
  exact ⟨hok, va_K.moved hW.alike hK, hX.moved hW.alike, hO.moved hW.alike, ⟨hok.2.2.2.1 s U H hW hE.1, hE.2.moved hW⟩, hH⟩
theorem qx_P_blind (G : qx_G) (T : qx_T) (as : List Value) (σ : qx_S) : FrameBlind (qx_P G T as σ) := fun a U g mk h => ⟨h.1, qx_R.moved (U := U.calling g mk a) (State.WarmedH.refl U) h.2⟩
