/-! THE CLASS: what always holds; who, where -/
def cI (σ : qx_S) (S : qS) (rf : Option qR) (e : Nat) : Prop := gT S ∧ cSt σ 15 S ∧ cSh σ 15 ∧ qx_mr σ 156 6 = some 21 ∧ cRu σ rf ∧ inF σ (qx_mr σ 156 7) ∧ cK σ e true (s_n S 1) (q_lk S rf) ∧ kTw σ e (s_n S 1) (q_c2 S rf) ∧ 229 ≤ σ.1
theorem cI.W {σ : qx_S} {S : qS} {rf : Option qR} {e : Nat} (h : cI σ S rf e) : cW σ S rf 21 := ⟨h.1.1, h.2.1.wL h.1 h.2.2.2.1, h.2.2.2.2.1⟩
theorem cI.K {σ : qx_S} {S : qS} {rf : Option qR} {e : Nat} (h : cI σ S rf e) : cK σ e true (s_n S 1) (q_lk S rf) := h.2.2.2.2.2.2.1
theorem cI.T {σ : qx_S} {S : qS} {rf : Option qR} {e : Nat} (h : cI σ S rf e) : kTw σ e (s_n S 1) (q_c2 S rf) := h.2.2.2.2.2.2.2.1
theorem cH_rf {S : qS} {rf : Option qR} {kp : Bool} : cH S rf kp (q_lk S rf) := fun _ _ _ _ _ _ _ => rfl
theorem cH2_rf {S : qS} {rf : Option qR} {kp : Bool} : cH2 S rf kp (q_c2 S rf) := fun _ _ _ _ _ _ _ _ _ => rfl
def kIq (q : Nat × Option Nat) : Bool := Nat.blt q.1 191 && !(Nat.beq q.1 156) && !(Nat.beq q.1 157) && (!(Nat.beq q.1 3) || (match q.2 with
  | some k => Nat.beq k 16
  | none => false)) && (!(Nat.beq q.1 15) || (match q.2 with
  | some k => !(Nat.beq k 9)
  | none => false))
def kY (l : List (Nat × Option Nat)) : Bool := l.all kIq
theorem kY.low {l : List (Nat × Option Nat)} (h : kY l = true) : kLow l = true := by
  refine List.all_eq_true.mpr (fun q hq => ?_)
  have k := List.all_eq_true.mp h q hq
  unfold kIq at k
  simp only [Bool.and_eq_true] at k
  exact k.1.1.1.1
theorem kY.n156 {l : List (Nat × Option Nat)} (h : kY l = true) (j : Nat) : pL l 156 j = false := by
  refine pL_ne (fun q hq => Or.inl (fun z => ?_))
  have k := List.all_eq_true.mp h q hq
  unfold kIq at k
  rw [z] at k
  simp at k
theorem kY.n157 {l : List (Nat × Option Nat)} (h : kY l = true) (j : Nat) : pL l 157 j = false := by
  refine pL_ne (fun q hq => Or.inl (fun z => ?_))
  have k := List.all_eq_true.mp h q hq
  unfold kIq at k
  rw [z] at k
  simp at k
theorem kY.n3 {l : List (Nat × Option Nat)} (h : kY l = true) : pL l 3 15 = false := by
  refine pL_ne (fun q hq => ?_)
  by_cases z : q.1 = 3
  · have k := List.all_eq_true.mp h q hq
    unfold kIq at k
    rw [z] at k
    simp only [Bool.and_eq_true] at k
    have k := k.1.2
    right
    cases hq2 : q.2 with
    | none => rw [hq2] at k; cases k
    | some y =>
      rw [hq2] at k
      have : Nat.beq y 16 = true := k
      exact ⟨y, rfl, by rw [Nat.eq_of_beq_eq_true this]; decide⟩
  · exact Or.inl z
theorem kY.n15 {l : List (Nat × Option Nat)} (h : kY l = true) : pL l 15 9 = false := by
  refine pL_ne (fun q hq => ?_)
  by_cases z : q.1 = 15
  · have k := List.all_eq_true.mp h q hq
    unfold kIq at k
    rw [z] at k
    simp only [Bool.and_eq_true] at k
    have k := k.2
    right
    cases hq2 : q.2 with
    | none => rw [hq2] at k; cases k
    | some y =>
      rw [hq2] at k
      have k : (!(Nat.beq y 9)) = true := k
      exact ⟨y, rfl, fun w => by rw [w] at k; cases k⟩
  · exact Or.inl z
theorem shS.fr {σ s : qx_S} {a : Nat} {P : Nat → Nat → Bool} (h : shS σ a) (f : qf P σ s) : shS s a := ⟨(f.s _).trans h.1, (f.s _).trans h.2.1, (f.s _).trans h.2.2.1, (f.s _).trans h.2.2.2.1, (f.s _).trans h.2.2.2.2⟩
theorem shL.fr {σ s : qx_S} {a : Nat} {P : Nat → Nat → Bool} (h : shL σ a) (f : qf P σ s) : shL s a := ⟨(f.s _).trans h.1, (f.s _).trans h.2.1, (f.s _).trans h.2.2.1, (f.s _).trans h.2.2.2.1, (f.s _).trans h.2.2.2.2⟩
theorem shG.fr {σ s : qx_S} {a : Nat} {P : Nat → Nat → Bool} (h : shG σ a) (f : qf P σ s) : shG s a := ⟨(f.s _).trans h.1, (f.s _).trans h.2⟩
theorem cSh.fr {σ s : qx_S} {b : Nat} {P : Nat → Nat → Bool} (h : cSh σ b) (f : qf P σ s) : cSh s b := by
  obtain ⟨a1, a2, a3, a4, a5, a6, a7, a8, a9⟩ := h
  exact ⟨(f.s _).trans a1, a2.fr f, a3.fr f, (f.s _).trans a4, a5.fr f, (f.s _).trans a6, (f.s _).trans a7, fun i hi => ⟨(f.r _ _).trans (a8 i hi).1, (a8 i hi).2.fr f⟩, fun i hi => ⟨(f.r _ _).trans (a9 i hi).1, (a9 i hi).2.fr f⟩⟩
theorem gT.b12 {S : qS} (h : gT S) : s_n S 5 ≤ 12 := h.2.2.2.1.2.1
/-- over a frame that leaves the state -/
theorem cI.fr {σ s : qx_S} {S : qS} {rf : Option qR} {e : Nat} {l : List (Nat × Option Nat)} (h : cI σ S rf e) (f : ql l σ s) (h1 : k15 l = true) (h2 : kY l = true) : cI s S rf e := by
  obtain ⟨a1, a2, a3, a4, a5, a6, a7, a8, a9⟩ := h
  refine ⟨a1, a2.fr a1.1.1 a1.b12 f h1, a3.fr f, (f.r _ _).trans a4, a5.fr f (kY.low h2), ?_, a7.fr f (kY.n157 h2) (kY.n156 h2 _) (kY.n156 h2 _), a8.fr f (kY.low h2), by rw [f.1]; exact a9⟩
  rw [show qx_mr s 156 7 = qx_mr σ 156 7 from f.r _ _]
  exact a6.fr f (kY.n15 h2) (kY.n3 h2)
/-- the laws' own rows -/
theorem cI.lw {σ s : qx_S} {S : qS} {rf : Option qR} {e : Nat} (h : cI σ S rf e) (f : ql kLw σ s) (k : cK s e true (s_n S 1) (q_lk S rf)) : cI s S rf e := by
  obtain ⟨a1, a2, a3, a4, a5, a6, a7, a8, a9⟩ := h
  refine ⟨a1, a2.fr a1.1.1 a1.b12 f rfl, a3.fr f, (f.r _ _).trans a4, a5.fr f rfl, ?_, k, a8.fr f rfl, by rw [f.1]; exact a9⟩
  rw [show qx_mr s 156 7 = qx_mr σ 156 7 from f.r _ _]
  exact a6.fr f rfl rfl
theorem qw_rid {σ : qx_S} {a k : Nat} {v : Option Nat} (h : qx_mr σ a k = v) : qx_wr σ a k v = σ := by
  unfold qx_wr
  have : qx_up2 σ.2.2.2.2.2 a k v = σ.2.2.2.2.2 := by
    funext x y
    unfold qx_up2
    split
    · next z => rw [z.1, z.2]; exact h.symm
    · rfl
  rw [this]
theorem c_stirS {G : qx_G} {σ : qx_S} {e : Nat} (h8 : qx_mi σ 156 8 = nI e) (h : inF σ (qx_mr σ 156 7)) : qx_M G qc_T 1 YX11_stir [.ref 3] σ (fun r s => r = none ∧ ql [(156, some 8)] σ s ∧ s = qx_wi σ 156 8 (nI (e + 1))) := by
  refine qx_M_mono (c_stirV h8 h) (fun r s h => ⟨h.1, ?_, ?_⟩)
  · rw [h.2, qw_rid rfl]
    exact qn_wif rfl
  · rw [h.2, qw_rid rfl]
/-- stirred: nothing that was kept is of this edition -/
theorem cI.up {σ s1 s : qx_S} {S S' : qS} {rf : Option qR} {e : Nat} {l : List (Nat × Option Nat)} (h : cI σ S rf e) (f : ql l σ s1) (h2 : kY l = true) (es : s = qx_wi s1 156 8 (nI (e + 1))) (g : gT S') (c : cSt s1 15 S') (he : e + 1 ≤ 1000) : cI s S' rf (e + 1) := by
  obtain ⟨a1, a2, a3, a4, a5, a6, a7, a8, a9⟩ := h
  have f2 := qn_wif es
  have k1 := a7.fr f (kY.n157 h2) (kY.n156 h2 _) (kY.n156 h2 _)
  have t1 := a8.fr f (kY.low h2)
  refine ⟨g, c.fr g.1.1 g.b12 f2 rfl, (a3.fr f).fr f2, (f2.r _ _).trans ((f.r _ _).trans a4), (a5.fr f (kY.low h2)).fr f2 rfl, ?_, ⟨qn_eq es, ⟨by omega, he⟩, (f2.i _ _ rfl).trans k1.2.2.1, fun p a q hp ha hq => ?_⟩, ?_, by rw [f2.1, f.1]; exact a9⟩
  · rw [show qx_mr s 156 7 = qx_mr σ 156 7 from (f2.r _ _).trans (f.r _ _)]
    exact (a6.fr f (kY.n15 h2) (kY.n3 h2)).fr f2 rfl rfl
  · obtain ⟨v, w1, w2, w3⟩ := k1.2.2.2 p a q hp ha hq
    exact ⟨v, (f2.i _ _ rfl).trans w1, by omega, fun _ z => absurd z (by omega)⟩
  · rcases t1 with t1 | ⟨t, t1⟩
    · exact Or.inl ((f2.r _ _).trans t1)
    · refine Or.inr ⟨t, (f2.r _ _).trans t1.1, t1.2.1, by rw [f2.1]; exact t1.2.2.1, (f2.s _).trans t1.2.2.2.1, fun i j x y hi hj hx hy => ?_⟩
      obtain ⟨v, w1, w2, w3⟩ := t1.2.2.2.2 i j x y hi hj hx hy
      have := t1.2.1
      exact ⟨v, (qn_ne es (Or.inl (by omega))).trans w1, by omega, fun _ _ z => absurd z (by omega)⟩
/-- not stirred: what the laws look at is as it was -/
theorem cI.as {σ s : qx_S} {S S' : qS} {rf : Option qR} {e : Nat} {l : List (Nat × Option Nat)} (h : cI σ S rf e) (f : ql l σ s) (h2 : kY l = true) (g : gT S') (c : cSt s 15 S') (e1 : s_n S' 1 = s_n S 1) (el : ∀ p a q, p < s_n S 1 → q < 8 → q_lk S' rf p a q = q_lk S rf p a q) (ec : ∀ i j x y, i < s_n S 1 → j < s_n S 1 → x < 8 → y < 8 → q_c2 S' rf i j x y = q_c2 S rf i j x y) : cI s S' rf e := by
  obtain ⟨a1, a2, a3, a4, a5, a6, a7, a8, a9⟩ := h
  have k1 := a7.fr f (kY.n157 h2) (kY.n156 h2 _) (kY.n156 h2 _)
  have t1 := a8.fr f (kY.low h2)
  refine ⟨g, c, a3.fr f, (f.r _ _).trans a4, a5.fr f (kY.low h2), ?_, ⟨k1.1, k1.2.1, k1.2.2.1, fun p a q hp ha hq => ?_⟩, ?_, by rw [f.1]; exact a9⟩
  · rw [show qx_mr s 156 7 = qx_mr σ 156 7 from f.r _ _]
    exact a6.fr f (kY.n15 h2) (kY.n3 h2)
  · obtain ⟨v, w1, w2, w3⟩ := k1.2.2.2 p a q hp ha hq
    exact ⟨v, w1, w2, fun hp2 z => by rw [e1] at hp2; rw [el p a q hp2 hq]; exact w3 hp2 z⟩
  · rcases t1 with t1 | ⟨t, t1⟩
    · exact Or.inl t1
    · refine Or.inr ⟨t, t1.1, t1.2.1, t1.2.2.1, t1.2.2.2.1, fun i j x y hi hj hx hy => ?_⟩
      obtain ⟨v, w1, w2, w3⟩ := t1.2.2.2.2 i j x y hi hj hx hy
      exact ⟨v, w1, w2, fun h1 h2 z => by rw [e1] at h1 h2; rw [ec i j x y h1 h2 hx hy]; exact w3 h1 h2 z⟩
theorem c_isPerson {G : qx_G} {σ : qx_S} {S : qS} {b : Nat} (hd : dR σ 16 S) (e1 : S 1 = nI b) (x : Int32) : qx_M G qc_T 0 YX11_isPerson [.ref 3, .int x] σ (qr (bI (q_is x b)) σ) := by
  have u1 : x < 0 → q_is x b = false := fun h => by
    unfold q_is
    rw [decide_eq_false (Int32.not_le.mpr h)]
    rfl
  have u2 : ¬ x < 0 → ¬ nI b ≤ x → q_is x b = true := fun h h2 => by
    unfold q_is
    rw [decide_eq_true (Int32.not_lt.mp h), decide_eq_true (Int32.not_le.mp h2)]
    rfl
  have u3 : nI b ≤ x → q_is x b = false := fun h => by
    unfold q_is
    rw [decide_eq_false (Int32.not_lt.mpr h)]
    exact Bool.and_false _
  refine qx_M_in rfl (Nat.le_of_ble_eq_true rfl) ?_
  refine qy_wp_ok (c := CX11_isPerson) (cuts := []) vX11_isPerson wX11_isPerson 2000 0 _ _ _ ?_
  refine And.intro (fun h1 => ?_) (fun h1 => ?_)
  · skip
    refine Exists.intro (nI 0) (And.intro rfl ?_)
    refine And.intro (Or.inl rfl) ?_
    first | exact ⟨by rw [u2 h1 h15]; rfl, rfl⟩ | exact ⟨by rw [u1 h1]; rfl, rfl⟩ | exact ⟨by rw [u3 h15]; rfl, rfl⟩
  · skip
    refine And.intro rfl (Exists.intro 15 (And.intro rfl ?_))
    refine And.intro rfl (Exists.intro 16 (And.intro rfl ?_))
    refine And.intro rfl (Exists.intro 5 (Exists.intro (nI b) (And.intro rfl (And.intro (hd.2.1.trans e1) ?_))))
    refine And.intro (fun h15 => ?_) (fun h15 => ?_)
    · skip
      refine Exists.intro (nI 0) (And.intro rfl ?_)
      refine And.intro (Or.inl rfl) ?_
      first | exact ⟨by rw [u2 h1 h15]; rfl, rfl⟩ | exact ⟨by rw [u1 h1]; rfl, rfl⟩ | exact ⟨by rw [u3 h15]; rfl, rfl⟩
    · skip
      refine Exists.intro (nI 1) (And.intro rfl ?_)
      refine And.intro (Or.inr rfl) ?_
      first | exact ⟨by rw [u2 h1 h15]; rfl, rfl⟩ | exact ⟨by rw [u1 h1]; rfl, rfl⟩ | exact ⟨by rw [u3 h15]; rfl, rfl⟩
theorem c_isPlace {G : qx_G} {σ : qx_S} {S : qS} {b : Nat} (hd : dR σ 16 S) (e1 : S 0 = nI b) (x : Int32) : qx_M G qc_T 0 YX11_isPlace [.ref 3, .int x] σ (qr (bI (q_is x b)) σ) := by
  have u1 : x < 0 → q_is x b = false := fun h => by
    unfold q_is
    rw [decide_eq_false (Int32.not_le.mpr h)]
    rfl
  have u2 : ¬ x < 0 → ¬ nI b ≤ x → q_is x b = true := fun h h2 => by
    unfold q_is
    rw [decide_eq_true (Int32.not_lt.mp h), decide_eq_true (Int32.not_le.mp h2)]
    rfl
  have u3 : nI b ≤ x → q_is x b = false := fun h => by
    unfold q_is
    rw [decide_eq_false (Int32.not_lt.mpr h)]
    exact Bool.and_false _
  refine qx_M_in rfl (Nat.le_of_ble_eq_true rfl) ?_
  refine qy_wp_ok (c := CX11_isPlace) (cuts := []) vX11_isPlace wX11_isPlace 2000 0 _ _ _ ?_
  refine And.intro (fun h1 => ?_) (fun h1 => ?_)
  · skip
    refine Exists.intro (nI 0) (And.intro rfl ?_)
    refine And.intro (Or.inl rfl) ?_
    first | exact ⟨by rw [u2 h1 h15]; rfl, rfl⟩ | exact ⟨by rw [u1 h1]; rfl, rfl⟩ | exact ⟨by rw [u3 h15]; rfl, rfl⟩
  · skip
    refine And.intro rfl (Exists.intro 15 (And.intro rfl ?_))
    refine And.intro rfl (Exists.intro 16 (And.intro rfl ?_))
    refine And.intro rfl (Exists.intro 4 (Exists.intro (nI b) (And.intro rfl (And.intro (hd.1.trans e1) ?_))))
    refine And.intro (fun h15 => ?_) (fun h15 => ?_)
    · skip
      refine Exists.intro (nI 0) (And.intro rfl ?_)
      refine And.intro (Or.inl rfl) ?_
      first | exact ⟨by rw [u2 h1 h15]; rfl, rfl⟩ | exact ⟨by rw [u1 h1]; rfl, rfl⟩ | exact ⟨by rw [u3 h15]; rfl, rfl⟩
    · skip
      refine Exists.intro (nI 1) (And.intro rfl ?_)
      refine And.intro (Or.inr rfl) ?_
      first | exact ⟨by rw [u2 h1 h15]; rfl, rfl⟩ | exact ⟨by rw [u1 h1]; rfl, rfl⟩ | exact ⟨by rw [u3 h15]; rfl, rfl⟩
theorem c_hasCountry {G : qx_G} {σ : qx_S} {S : qS} {b : Nat} (hd : dR σ 16 S) (e1 : S 0 = nI b) (hb : b ≤ 8) : qx_M G qc_T 0 YX11_hasCountry [.ref 3] σ (qr (bI (decide (0 < b))) σ) := by
  refine qx_M_in rfl (Nat.le_of_ble_eq_true rfl) ?_
  refine qy_wp_ok (c := CX11_hasCountry) (cuts := []) vX11_hasCountry wX11_hasCountry 2000 0 _ _ _ ?_
  refine And.intro rfl (Exists.intro 15 (And.intro rfl ?_))
  refine And.intro rfl (Exists.intro 16 (And.intro rfl ?_))
  refine And.intro rfl (Exists.intro 4 (Exists.intro (nI b) (And.intro rfl (And.intro (hd.1.trans e1) ?_))))
  refine And.intro (fun h10 => ?_) (fun h10 => ?_)
  · skip
    have h10 := nI_leT (a := b) (b := 0) (by omega) (by decide) h10
    refine Exists.intro (nI 0) (And.intro rfl ?_)
    refine And.intro (Or.inl rfl) ?_
    first | exact ⟨by rw [decide_eq_true h10]; rfl, rfl⟩ | exact ⟨by rw [decide_eq_false (Nat.not_lt.mpr h10)]; rfl, rfl⟩
  · skip
    have h10 := nI_leF (a := b) (b := 0) (by omega) (by decide) h10
    refine Exists.intro (nI 1) (And.intro rfl ?_)
    refine And.intro (Or.inr rfl) ?_
    first | exact ⟨by rw [decide_eq_true h10]; rfl, rfl⟩ | exact ⟨by rw [decide_eq_false (Nat.not_lt.mpr h10)]; rfl, rfl⟩

