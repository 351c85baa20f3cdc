/-! THE CLASS: LIKING -/
/-- a sound state, as far as the laws look -/
def gL (S : qS) : Prop := gD S ∧ gS S ∧ ∀ p, p < s_n S 1 → (∀ q, q < 8 → ∃ v, v ≤ 99 ∧ S (60 + 8 * p + q) = nI v) ∧ (S (10 + 5 * p + 3) = nI 0 ∨ S (10 + 5 * p + 3) = nI 1)
/-- what the words tell: the land, and the standing at st -/
def wL (σ : qx_S) (S : qS) (st : Nat) : Prop := qx_mr σ 156 6 = some st ∧ (st = 21 ∨ st = 180) ∧ dR σ 16 S ∧ qx_mi σ st 4 = S 3 ∧ ∀ p, p < s_n S 1 → qx_mi σ (st + 4) p = q_sum (fun k => S (154 + 10 * p + k)) (s_n S 1) ∧ qx_mi σ (st + 2) p = S (10 + 5 * p + 4)
/-- the rule in force -/
def cRu (σ : qx_S) (rf : Option qR) : Prop := match rf with
  | none => qx_mr σ 156 7 = none
  | some R => ∃ x, qx_mr σ 156 7 = some x ∧ (191 ≤ x ∧ x + 6 ≤ σ.1) ∧ shR σ x ∧ uR σ x R ∧ q_wf R
def kLow (l : List (Nat × Option Nat)) : Bool := l.all (fun q => Nat.blt q.1 191)
theorem kLow_ne {l : List (Nat × Option Nat)} (h : kLow l = true) {x j : Nat} (hx : 191 ≤ x) : pL l x j = false := by
  refine pL_ne (fun q hq => Or.inl ?_)
  have := Nat.le_of_ble_eq_true (List.all_eq_true.mp h q hq)
  omega
theorem uR.lo {σ s : qx_S} {x : Nat} {R : qR} (h : uR σ x R) (f : ∀ y, x ≤ y → y ≤ x + 5 → ∀ j, qx_mi s y j = qx_mi σ y j) : uR s x R :=
  ⟨(f x (by omega) (by omega) 6).trans h.1, (f x (by omega) (by omega) 5).trans h.2.1, fun i hi => (f (x + 1) (by omega) (by omega) i).trans (h.2.2.1 i hi), (f x (by omega) (by omega) 8).trans h.2.2.2.1, fun c hc => ⟨(f (x + 2) (by omega) (by omega) c).trans (h.2.2.2.2 c hc).1, (f (x + 3) (by omega) (by omega) c).trans (h.2.2.2.2 c hc).2.1, (f (x + 4) (by omega) (by omega) c).trans (h.2.2.2.2 c hc).2.2.1, (f (x + 5) (by omega) (by omega) c).trans (h.2.2.2.2 c hc).2.2.2⟩⟩
theorem cRu.fr {σ s : qx_S} {rf : Option qR} {l : List (Nat × Option Nat)} (h : cRu σ rf) (f : ql l σ s) (hl : kLow l = true) : cRu s rf := by
  cases rf with
  | none => exact (f.r _ _).trans h
  | some R =>
    obtain ⟨x, h1, h2, h3, h4, h5⟩ := h
    exact ⟨x, (f.r _ _).trans h1, ⟨h2.1, by rw [f.1]; exact h2.2⟩, h3.fr f, h4.lo (fun y hy _ j => f.i _ _ (kLow_ne hl (by omega))), h5⟩
def kOut (l : List (Nat × Option Nat)) : Bool := l.all (fun q => cond (Nat.ble q.1 25) (Nat.blt q.1 16) (cond (Nat.ble q.1 184) (Nat.blt q.1 180) true))
theorem kOut_ne {l : List (Nat × Option Nat)} (h : kOut l = true) {x j : Nat} (hx : (16 ≤ x ∧ x ≤ 25) ∨ (180 ≤ x ∧ x ≤ 184)) : pL l x j = false := by
  refine pL_ne (fun q hq => Or.inl (fun z => ?_))
  have k := List.all_eq_true.mp h q hq
  rw [z] at k
  rcases hx with ⟨a, b⟩ | ⟨a, b⟩
  · rw [Nat.ble_eq_true_of_le b] at k
    have := Nat.le_of_ble_eq_true (show Nat.ble (x + 1) 16 = true from k)
    omega
  · rw [show Nat.ble x 25 = false from Bool.eq_false_iff.mpr (fun w => by have := Nat.le_of_ble_eq_true w; omega), Nat.ble_eq_true_of_le b] at k
    have := Nat.le_of_ble_eq_true (show Nat.ble (x + 1) 180 = true from k)
    omega
theorem wL.fr {σ s : qx_S} {S : qS} {st : Nat} {l : List (Nat × Option Nat)} (h : wL σ S st) (g : gD S) (f : ql l σ s) (hl : kOut l = true) : wL s S st := by
  obtain ⟨h1, h2, h3, h4, h5⟩ := h
  exact ⟨(f.r _ _).trans h1, h2, h3.fb g (fun k hk j => f.i _ _ (kOut_ne hl (by omega))), (f.i _ _ (kOut_ne hl (by omega))).trans h4, fun p hp => ⟨(f.i _ _ (kOut_ne hl (by omega))).trans (h5 p hp).1, (f.i _ _ (kOut_ne hl (by omega))).trans (h5 p hp).2⟩⟩
theorem c_tell0 {G : qx_G} {σ : qx_S} {S : qS} {st : Nat} (g : gL S) (h : wL σ S st) {p a q : Nat} (hp : p < s_n S 1) (hq : q < 8) : qx_M G qc_T 0 YX2_tellWords [.ref 156, .int (nI p), .int (nI a), .int (nI q), .int (nI 99), .int (nI 0)] σ (fun r s => r = none ∧ ql [(158, none)] σ s ∧ ∀ v, v < 12 → qx_mi s 158 v = q_wd S p a q none 0 v) := by
  have hpe := g.1.2.1.2
  have hst := h.2.1
  have sh : shS σ st := by rcases hst with z | z <;> rw [z] <;> exact ⟨rfl, rfl, rfl, rfl, rfl⟩
  refine qx_M_in rfl (Nat.le_of_ble_eq_true rfl) ?_
  refine qy_wp_ok (c := CX2_tellWords) (cuts := []) vX2_tellWords wX2_tellWords 2000 0 _ _ _ ?_
  refine And.intro rfl (Exists.intro 158 (And.intro rfl ?_))
  refine Exists.intro (nI 0) (And.intro rfl ?_)
  obtain ⟨σ1, eσ1⟩ : ∃ zs, zs = (qx_wi σ 158 0 (nI p)) := ⟨_, rfl⟩
  have fσ1 := qn_wi eσ1
  refine Exists.intro (0) (Exists.intro σ1 (And.intro rfl (And.intro ⟨12, rfl, by decide, by decide⟩ (And.intro eσ1.symm ?_))))
  refine And.intro rfl (Exists.intro 158 (And.intro rfl ?_))
  refine Exists.intro (nI 1) (And.intro rfl ?_)
  refine And.intro rfl (Exists.intro 16 (And.intro rfl ?_))
  refine And.intro rfl (Exists.intro 17 (And.intro rfl ?_))
  refine Exists.intro (p) (Exists.intro (S (10 + 5 * p + 1)) (And.intro rfl (And.intro ⟨10, rfl, by omega, by decide⟩ (And.intro ((fσ1.i _ _ rfl).trans ((h.2.2.1.2.2.2.1 p hp).1)) ?_))))
  obtain ⟨σ2, eσ2⟩ : ∃ zs, zs = (qx_wi σ1 158 1 (S (10 + 5 * p + 1))) := ⟨_, rfl⟩
  have fσ2 := qn_wi eσ2
  refine Exists.intro (1) (Exists.intro σ2 (And.intro rfl (And.intro ⟨12, rfl, by decide, by decide⟩ (And.intro eσ2.symm ?_))))
  refine And.intro rfl (Exists.intro 158 (And.intro rfl ?_))
  refine Exists.intro (nI 2) (And.intro rfl ?_)
  refine And.intro rfl (Exists.intro 16 (And.intro rfl ?_))
  refine And.intro rfl (Exists.intro 18 (And.intro rfl ?_))
  refine Exists.intro (p) (Exists.intro (S (10 + 5 * p + 2)) (And.intro rfl (And.intro ⟨10, rfl, by omega, by decide⟩ (And.intro ((fσ2.i _ _ rfl).trans ((fσ1.i _ _ rfl).trans ((h.2.2.1.2.2.2.1 p hp).2))) ?_))))
  obtain ⟨σ3, eσ3⟩ : ∃ zs, zs = (qx_wi σ2 158 2 (S (10 + 5 * p + 2))) := ⟨_, rfl⟩
  have fσ3 := qn_wi eσ3
  refine Exists.intro (2) (Exists.intro σ3 (And.intro rfl (And.intro ⟨12, rfl, by decide, by decide⟩ (And.intro eσ3.symm ?_))))
  refine And.intro rfl (Exists.intro 158 (And.intro rfl ?_))
  refine Exists.intro (nI 3) (And.intro rfl ?_)
  obtain ⟨σ4, eσ4⟩ : ∃ zs, zs = (qx_wi σ3 158 3 (nI a)) := ⟨_, rfl⟩
  have fσ4 := qn_wi eσ4
  refine Exists.intro (3) (Exists.intro σ4 (And.intro rfl (And.intro ⟨12, rfl, by decide, by decide⟩ (And.intro eσ4.symm ?_))))
  refine And.intro rfl (Exists.intro 158 (And.intro rfl ?_))
  refine Exists.intro (nI 4) (And.intro rfl ?_)
  obtain ⟨σ5, eσ5⟩ : ∃ zs, zs = (qx_wi σ4 158 4 (nI q)) := ⟨_, rfl⟩
  have fσ5 := qn_wi eσ5
  refine Exists.intro (4) (Exists.intro σ5 (And.intro rfl (And.intro ⟨12, rfl, by decide, by decide⟩ (And.intro eσ5.symm ?_))))
  refine And.intro rfl (Exists.intro 158 (And.intro rfl ?_))
  refine Exists.intro (nI 5) (And.intro rfl ?_)
  refine And.intro rfl (Exists.intro 16 (And.intro rfl ?_))
  refine And.intro rfl (Exists.intro 19 (And.intro rfl ?_))
  refine Exists.intro (nI 8) (And.intro rfl ?_)
  refine Exists.intro (nI (p * 8)) (And.intro (pk_mul _ _) ?_)
  refine Exists.intro (nI (p * 8 + q)) (And.intro (nI_add _ _) ?_)
  refine Exists.intro (p * 8 + q) (Exists.intro (S (60 + 8 * p + q)) (And.intro rfl (And.intro ⟨80, rfl, by omega, by decide⟩ (And.intro ((fσ5.i _ _ rfl).trans ((fσ4.i _ _ rfl).trans ((fσ3.i _ _ rfl).trans ((fσ2.i _ _ rfl).trans ((fσ1.i _ _ rfl).trans (((congrArg (qx_mi σ 19) (by omega)).trans (h.2.2.1.2.2.2.2.1 p hp q hq)))))))) ?_))))
  obtain ⟨σ6, eσ6⟩ : ∃ zs, zs = (qx_wi σ5 158 5 (S (60 + 8 * p + q))) := ⟨_, rfl⟩
  have fσ6 := qn_wi eσ6
  refine Exists.intro (5) (Exists.intro σ6 (And.intro rfl (And.intro ⟨12, rfl, by decide, by decide⟩ (And.intro eσ6.symm ?_))))
  refine And.intro rfl (Exists.intro 158 (And.intro rfl ?_))
  refine Exists.intro (nI 6) (And.intro rfl ?_)
  obtain ⟨σ7, eσ7⟩ : ∃ zs, zs = (qx_wi σ6 158 6 (nI 99)) := ⟨_, rfl⟩
  have fσ7 := qn_wi eσ7
  refine Exists.intro (6) (Exists.intro σ7 (And.intro rfl (And.intro ⟨12, rfl, by decide, by decide⟩ (And.intro eσ7.symm ?_))))
  refine And.intro rfl (Exists.intro 158 (And.intro rfl ?_))
  refine Exists.intro (nI 7) (And.intro rfl ?_)
  refine Exists.intro (nI 10) (And.intro rfl ?_)
  refine And.intro (fun h90 => ?_) (fun h90 => ?_)
  · skip
    refine Exists.intro (nI 0) (And.intro rfl ?_)
    obtain ⟨σ8, eσ8⟩ : ∃ zs, zs = (qx_wi σ7 158 7 (nI 0)) := ⟨_, rfl⟩
    have fσ8 := qn_wi eσ8
    refine Exists.intro (7) (Exists.intro σ8 (And.intro rfl (And.intro ⟨12, rfl, by decide, by decide⟩ (And.intro eσ8.symm ?_))))
    refine And.intro rfl (Exists.intro 158 (And.intro rfl ?_))
    refine Exists.intro (nI 8) (And.intro rfl ?_)
    obtain ⟨σ9, eσ9⟩ : ∃ zs, zs = (qx_wi σ8 158 8 (nI 0)) := ⟨_, rfl⟩
    have fσ9 := qn_wi eσ9
    refine Exists.intro (8) (Exists.intro σ9 (And.intro rfl (And.intro ⟨12, rfl, by decide, by decide⟩ (And.intro eσ9.symm ?_))))
    refine And.intro rfl (Exists.intro 158 (And.intro rfl ?_))
    refine Exists.intro (nI 9) (And.intro rfl ?_)
    refine And.intro rfl (Exists.intro 6 (Exists.intro (some st) (And.intro rfl (And.intro ((fσ9.r _ _).trans ((fσ8.r _ _).trans ((fσ7.r _ _).trans ((fσ6.r _ _).trans ((fσ5.r _ _).trans ((fσ4.r _ _).trans ((fσ3.r _ _).trans ((fσ2.r _ _).trans ((fσ1.r _ _).trans (h.1)))))))))) ?_))))
    refine And.intro (by rw [show qx_sh qc_T _ st = _ from (fσ9.s _).trans ((fσ8.s _).trans ((fσ7.s _).trans ((fσ6.s _).trans ((fσ5.s _).trans ((fσ4.s _).trans ((fσ3.s _).trans ((fσ2.s _).trans ((fσ1.s _).trans (sh.1)))))))))]; rfl) (Exists.intro (st + 4) (And.intro rfl ?_))
    refine Exists.intro (p) (Exists.intro (q_sum (fun k => S (154 + 10 * p + k)) (s_n S 1)) (And.intro rfl (And.intro ⟨10, (fσ9.s _).trans ((fσ8.s _).trans ((fσ7.s _).trans ((fσ6.s _).trans ((fσ5.s _).trans ((fσ4.s _).trans ((fσ3.s _).trans ((fσ2.s _).trans ((fσ1.s _).trans (sh.2.2.2.2))))))))), by omega, by decide⟩ (And.intro ((qn_ne eσ9 (Or.inl (by omega))).trans ((qn_ne eσ8 (Or.inl (by omega))).trans ((qn_ne eσ7 (Or.inl (by omega))).trans ((qn_ne eσ6 (Or.inl (by omega))).trans ((qn_ne eσ5 (Or.inl (by omega))).trans ((qn_ne eσ4 (Or.inl (by omega))).trans ((qn_ne eσ3 (Or.inl (by omega))).trans ((qn_ne eσ2 (Or.inl (by omega))).trans ((qn_ne eσ1 (Or.inl (by omega))).trans ((h.2.2.2.2 p hp).1)))))))))) ?_))))
    obtain ⟨σ10, eσ10⟩ : ∃ zs, zs = (qx_wi σ9 158 9 (q_sum (fun k => S (154 + 10 * p + k)) (s_n S 1))) := ⟨_, rfl⟩
    have fσ10 := qn_wi eσ10
    refine Exists.intro (9) (Exists.intro σ10 (And.intro rfl (And.intro ⟨12, rfl, by decide, by decide⟩ (And.intro eσ10.symm ?_))))
    refine And.intro rfl (Exists.intro 158 (And.intro rfl ?_))
    refine Exists.intro (nI 10) (And.intro rfl ?_)
    refine And.intro rfl (Exists.intro 6 (Exists.intro (some st) (And.intro rfl (And.intro ((fσ10.r _ _).trans ((fσ9.r _ _).trans ((fσ8.r _ _).trans ((fσ7.r _ _).trans ((fσ6.r _ _).trans ((fσ5.r _ _).trans ((fσ4.r _ _).trans ((fσ3.r _ _).trans ((fσ2.r _ _).trans ((fσ1.r _ _).trans (h.1))))))))))) ?_))))
    refine And.intro (by rw [show qx_sh qc_T _ st = _ from (fσ10.s _).trans ((fσ9.s _).trans ((fσ8.s _).trans ((fσ7.s _).trans ((fσ6.s _).trans ((fσ5.s _).trans ((fσ4.s _).trans ((fσ3.s _).trans ((fσ2.s _).trans ((fσ1.s _).trans (sh.1))))))))))]; rfl) (Exists.intro 4 (Exists.intro (S 3) (And.intro rfl (And.intro ((qn_ne eσ10 (Or.inl (by omega))).trans ((qn_ne eσ9 (Or.inl (by omega))).trans ((qn_ne eσ8 (Or.inl (by omega))).trans ((qn_ne eσ7 (Or.inl (by omega))).trans ((qn_ne eσ6 (Or.inl (by omega))).trans ((qn_ne eσ5 (Or.inl (by omega))).trans ((qn_ne eσ4 (Or.inl (by omega))).trans ((qn_ne eσ3 (Or.inl (by omega))).trans ((qn_ne eσ2 (Or.inl (by omega))).trans ((qn_ne eσ1 (Or.inl (by omega))).trans (h.2.2.2.1))))))))))) ?_))))
    obtain ⟨σ11, eσ11⟩ : ∃ zs, zs = (qx_wi σ10 158 10 (S 3)) := ⟨_, rfl⟩
    have fσ11 := qn_wi eσ11
    refine Exists.intro (10) (Exists.intro σ11 (And.intro rfl (And.intro ⟨12, rfl, by decide, by decide⟩ (And.intro eσ11.symm ?_))))
    refine And.intro rfl (Exists.intro 158 (And.intro rfl ?_))
    refine Exists.intro (nI 11) (And.intro rfl ?_)
    refine And.intro rfl (Exists.intro 6 (Exists.intro (some st) (And.intro rfl (And.intro ((fσ11.r _ _).trans ((fσ10.r _ _).trans ((fσ9.r _ _).trans ((fσ8.r _ _).trans ((fσ7.r _ _).trans ((fσ6.r _ _).trans ((fσ5.r _ _).trans ((fσ4.r _ _).trans ((fσ3.r _ _).trans ((fσ2.r _ _).trans ((fσ1.r _ _).trans (h.1)))))))))))) ?_))))
    refine And.intro (by rw [show qx_sh qc_T _ st = _ from (fσ11.s _).trans ((fσ10.s _).trans ((fσ9.s _).trans ((fσ8.s _).trans ((fσ7.s _).trans ((fσ6.s _).trans ((fσ5.s _).trans ((fσ4.s _).trans ((fσ3.s _).trans ((fσ2.s _).trans ((fσ1.s _).trans (sh.1)))))))))))]; rfl) (Exists.intro (st + 2) (And.intro rfl ?_))
    refine Exists.intro (p) (Exists.intro (S (10 + 5 * p + 4)) (And.intro rfl (And.intro ⟨10, (fσ11.s _).trans ((fσ10.s _).trans ((fσ9.s _).trans ((fσ8.s _).trans ((fσ7.s _).trans ((fσ6.s _).trans ((fσ5.s _).trans ((fσ4.s _).trans ((fσ3.s _).trans ((fσ2.s _).trans ((fσ1.s _).trans (sh.2.2.1))))))))))), by omega, by decide⟩ (And.intro ((qn_ne eσ11 (Or.inl (by omega))).trans ((qn_ne eσ10 (Or.inl (by omega))).trans ((qn_ne eσ9 (Or.inl (by omega))).trans ((qn_ne eσ8 (Or.inl (by omega))).trans ((qn_ne eσ7 (Or.inl (by omega))).trans ((qn_ne eσ6 (Or.inl (by omega))).trans ((qn_ne eσ5 (Or.inl (by omega))).trans ((qn_ne eσ4 (Or.inl (by omega))).trans ((qn_ne eσ3 (Or.inl (by omega))).trans ((qn_ne eσ2 (Or.inl (by omega))).trans ((qn_ne eσ1 (Or.inl (by omega))).trans ((h.2.2.2.2 p hp).2)))))))))))) ?_))))
    obtain ⟨σ12, eσ12⟩ : ∃ zs, zs = (qx_wi σ11 158 11 (S (10 + 5 * p + 4))) := ⟨_, rfl⟩
    have fσ12 := qn_wi eσ12
    refine Exists.intro (11) (Exists.intro σ12 (And.intro rfl (And.intro ⟨12, rfl, by decide, by decide⟩ (And.intro eσ12.symm ?_))))
    refine ⟨rfl, fσ1.tr (fσ2.tr (fσ3.tr (fσ4.tr (fσ5.tr (fσ6.tr (fσ7.tr (fσ8.tr (fσ9.tr (fσ10.tr (fσ11.tr fσ12)))))))))) |>.mn (by decide), fun v hv => ?_⟩
    match v, hv with
    | 0, _ => exact ((qn_ne eσ12 (Or.inr (by decide))).trans ((qn_ne eσ11 (Or.inr (by decide))).trans ((qn_ne eσ10 (Or.inr (by decide))).trans ((qn_ne eσ9 (Or.inr (by decide))).trans ((qn_ne eσ8 (Or.inr (by decide))).trans ((qn_ne eσ7 (Or.inr (by decide))).trans ((qn_ne eσ6 (Or.inr (by decide))).trans ((qn_ne eσ5 (Or.inr (by decide))).trans ((qn_ne eσ4 (Or.inr (by decide))).trans ((qn_ne eσ3 (Or.inr (by decide))).trans ((qn_ne eσ2 (Or.inr (by decide))).trans (qn_eq eσ1))))))))))))
    | 1, _ => exact ((qn_ne eσ12 (Or.inr (by decide))).trans ((qn_ne eσ11 (Or.inr (by decide))).trans ((qn_ne eσ10 (Or.inr (by decide))).trans ((qn_ne eσ9 (Or.inr (by decide))).trans ((qn_ne eσ8 (Or.inr (by decide))).trans ((qn_ne eσ7 (Or.inr (by decide))).trans ((qn_ne eσ6 (Or.inr (by decide))).trans ((qn_ne eσ5 (Or.inr (by decide))).trans ((qn_ne eσ4 (Or.inr (by decide))).trans ((qn_ne eσ3 (Or.inr (by decide))).trans (qn_eq eσ2)))))))))))
    | 2, _ => exact ((qn_ne eσ12 (Or.inr (by decide))).trans ((qn_ne eσ11 (Or.inr (by decide))).trans ((qn_ne eσ10 (Or.inr (by decide))).trans ((qn_ne eσ9 (Or.inr (by decide))).trans ((qn_ne eσ8 (Or.inr (by decide))).trans ((qn_ne eσ7 (Or.inr (by decide))).trans ((qn_ne eσ6 (Or.inr (by decide))).trans ((qn_ne eσ5 (Or.inr (by decide))).trans ((qn_ne eσ4 (Or.inr (by decide))).trans (qn_eq eσ3))))))))))
    | 3, _ => exact ((qn_ne eσ12 (Or.inr (by decide))).trans ((qn_ne eσ11 (Or.inr (by decide))).trans ((qn_ne eσ10 (Or.inr (by decide))).trans ((qn_ne eσ9 (Or.inr (by decide))).trans ((qn_ne eσ8 (Or.inr (by decide))).trans ((qn_ne eσ7 (Or.inr (by decide))).trans ((qn_ne eσ6 (Or.inr (by decide))).trans ((qn_ne eσ5 (Or.inr (by decide))).trans (qn_eq eσ4)))))))))
    | 4, _ => exact ((qn_ne eσ12 (Or.inr (by decide))).trans ((qn_ne eσ11 (Or.inr (by decide))).trans ((qn_ne eσ10 (Or.inr (by decide))).trans ((qn_ne eσ9 (Or.inr (by decide))).trans ((qn_ne eσ8 (Or.inr (by decide))).trans ((qn_ne eσ7 (Or.inr (by decide))).trans ((qn_ne eσ6 (Or.inr (by decide))).trans (qn_eq eσ5))))))))
    | 5, _ => exact ((qn_ne eσ12 (Or.inr (by decide))).trans ((qn_ne eσ11 (Or.inr (by decide))).trans ((qn_ne eσ10 (Or.inr (by decide))).trans ((qn_ne eσ9 (Or.inr (by decide))).trans ((qn_ne eσ8 (Or.inr (by decide))).trans ((qn_ne eσ7 (Or.inr (by decide))).trans (qn_eq eσ6)))))))
    | 6, _ => exact ((qn_ne eσ12 (Or.inr (by decide))).trans ((qn_ne eσ11 (Or.inr (by decide))).trans ((qn_ne eσ10 (Or.inr (by decide))).trans ((qn_ne eσ9 (Or.inr (by decide))).trans ((qn_ne eσ8 (Or.inr (by decide))).trans (qn_eq eσ7))))))
    | 7, _ => exact ((qn_ne eσ12 (Or.inr (by decide))).trans ((qn_ne eσ11 (Or.inr (by decide))).trans ((qn_ne eσ10 (Or.inr (by decide))).trans ((qn_ne eσ9 (Or.inr (by decide))).trans (qn_eq eσ8)))))
    | 8, _ => exact ((qn_ne eσ12 (Or.inr (by decide))).trans ((qn_ne eσ11 (Or.inr (by decide))).trans ((qn_ne eσ10 (Or.inr (by decide))).trans (qn_eq eσ9))))
    | 9, _ => exact ((qn_ne eσ12 (Or.inr (by decide))).trans ((qn_ne eσ11 (Or.inr (by decide))).trans (qn_eq eσ10)))
    | 10, _ => exact ((qn_ne eσ12 (Or.inr (by decide))).trans (qn_eq eσ11))
    | 11, _ => exact (qn_eq eσ12)
  · skip
    exact absurd (by decide) h90
theorem c_tell1 {G : qx_G} {σ : qx_S} {S : qS} {st : Nat} (g : gL S) (h : wL σ S st) {p a q o n : Nat} (hp : p < s_n S 1) (hq : q < 8) (ho : o < s_n S 1) : qx_M G qc_T 0 YX2_tellWords [.ref 156, .int (nI p), .int (nI a), .int (nI q), .int (nI o), .int (nI n)] σ (fun r s => r = none ∧ ql [(158, none)] σ s ∧ ∀ v, v < 12 → qx_mi s 158 v = q_wd S p a q (some o) n v) := by
  have hpe := g.1.2.1.2
  have hst := h.2.1
  have sh : shS σ st := by rcases hst with z | z <;> rw [z] <;> exact ⟨rfl, rfl, rfl, rfl, rfl⟩
  refine qx_M_in rfl (Nat.le_of_ble_eq_true rfl) ?_
  refine qy_wp_ok (c := CX2_tellWords) (cuts := []) vX2_tellWords wX2_tellWords 2000 0 _ _ _ ?_
  refine And.intro rfl (Exists.intro 158 (And.intro rfl ?_))
  refine Exists.intro (nI 0) (And.intro rfl ?_)
  obtain ⟨σ1, eσ1⟩ : ∃ zs, zs = (qx_wi σ 158 0 (nI p)) := ⟨_, rfl⟩
  have fσ1 := qn_wi eσ1
  refine Exists.intro (0) (Exists.intro σ1 (And.intro rfl (And.intro ⟨12, rfl, by decide, by decide⟩ (And.intro eσ1.symm ?_))))
  refine And.intro rfl (Exists.intro 158 (And.intro rfl ?_))
  refine Exists.intro (nI 1) (And.intro rfl ?_)
  refine And.intro rfl (Exists.intro 16 (And.intro rfl ?_))
  refine And.intro rfl (Exists.intro 17 (And.intro rfl ?_))
  refine Exists.intro (p) (Exists.intro (S (10 + 5 * p + 1)) (And.intro rfl (And.intro ⟨10, rfl, by omega, by decide⟩ (And.intro ((fσ1.i _ _ rfl).trans ((h.2.2.1.2.2.2.1 p hp).1)) ?_))))
  obtain ⟨σ2, eσ2⟩ : ∃ zs, zs = (qx_wi σ1 158 1 (S (10 + 5 * p + 1))) := ⟨_, rfl⟩
  have fσ2 := qn_wi eσ2
  refine Exists.intro (1) (Exists.intro σ2 (And.intro rfl (And.intro ⟨12, rfl, by decide, by decide⟩ (And.intro eσ2.symm ?_))))
  refine And.intro rfl (Exists.intro 158 (And.intro rfl ?_))
  refine Exists.intro (nI 2) (And.intro rfl ?_)
  refine And.intro rfl (Exists.intro 16 (And.intro rfl ?_))
  refine And.intro rfl (Exists.intro 18 (And.intro rfl ?_))
  refine Exists.intro (p) (Exists.intro (S (10 + 5 * p + 2)) (And.intro rfl (And.intro ⟨10, rfl, by omega, by decide⟩ (And.intro ((fσ2.i _ _ rfl).trans ((fσ1.i _ _ rfl).trans ((h.2.2.1.2.2.2.1 p hp).2))) ?_))))
  obtain ⟨σ3, eσ3⟩ : ∃ zs, zs = (qx_wi σ2 158 2 (S (10 + 5 * p + 2))) := ⟨_, rfl⟩
  have fσ3 := qn_wi eσ3
  refine Exists.intro (2) (Exists.intro σ3 (And.intro rfl (And.intro ⟨12, rfl, by decide, by decide⟩ (And.intro eσ3.symm ?_))))
  refine And.intro rfl (Exists.intro 158 (And.intro rfl ?_))
  refine Exists.intro (nI 3) (And.intro rfl ?_)
  obtain ⟨σ4, eσ4⟩ : ∃ zs, zs = (qx_wi σ3 158 3 (nI a)) := ⟨_, rfl⟩
  have fσ4 := qn_wi eσ4
  refine Exists.intro (3) (Exists.intro σ4 (And.intro rfl (And.intro ⟨12, rfl, by decide, by decide⟩ (And.intro eσ4.symm ?_))))
  refine And.intro rfl (Exists.intro 158 (And.intro rfl ?_))
  refine Exists.intro (nI 4) (And.intro rfl ?_)
  obtain ⟨σ5, eσ5⟩ : ∃ zs, zs = (qx_wi σ4 158 4 (nI q)) := ⟨_, rfl⟩
  have fσ5 := qn_wi eσ5
  refine Exists.intro (4) (Exists.intro σ5 (And.intro rfl (And.intro ⟨12, rfl, by decide, by decide⟩ (And.intro eσ5.symm ?_))))
  refine And.intro rfl (Exists.intro 158 (And.intro rfl ?_))
  refine Exists.intro (nI 5) (And.intro rfl ?_)
  refine And.intro rfl (Exists.intro 16 (And.intro rfl ?_))
  refine And.intro rfl (Exists.intro 19 (And.intro rfl ?_))
  refine Exists.intro (nI 8) (And.intro rfl ?_)
  refine Exists.intro (nI (p * 8)) (And.intro (pk_mul _ _) ?_)
  refine Exists.intro (nI (p * 8 + q)) (And.intro (nI_add _ _) ?_)
  refine Exists.intro (p * 8 + q) (Exists.intro (S (60 + 8 * p + q)) (And.intro rfl (And.intro ⟨80, rfl, by omega, by decide⟩ (And.intro ((fσ5.i _ _ rfl).trans ((fσ4.i _ _ rfl).trans ((fσ3.i _ _ rfl).trans ((fσ2.i _ _ rfl).trans ((fσ1.i _ _ rfl).trans (((congrArg (qx_mi σ 19) (by omega)).trans (h.2.2.1.2.2.2.2.1 p hp q hq)))))))) ?_))))
  obtain ⟨σ6, eσ6⟩ : ∃ zs, zs = (qx_wi σ5 158 5 (S (60 + 8 * p + q))) := ⟨_, rfl⟩
  have fσ6 := qn_wi eσ6
  refine Exists.intro (5) (Exists.intro σ6 (And.intro rfl (And.intro ⟨12, rfl, by decide, by decide⟩ (And.intro eσ6.symm ?_))))
  refine And.intro rfl (Exists.intro 158 (And.intro rfl ?_))
  refine Exists.intro (nI 6) (And.intro rfl ?_)
  obtain ⟨σ7, eσ7⟩ : ∃ zs, zs = (qx_wi σ6 158 6 (nI o)) := ⟨_, rfl⟩
  have fσ7 := qn_wi eσ7
  refine Exists.intro (6) (Exists.intro σ7 (And.intro rfl (And.intro ⟨12, rfl, by decide, by decide⟩ (And.intro eσ7.symm ?_))))
  refine And.intro rfl (Exists.intro 158 (And.intro rfl ?_))
  refine Exists.intro (nI 7) (And.intro rfl ?_)
  refine Exists.intro (nI 10) (And.intro rfl ?_)
  refine And.intro (fun h90 => ?_) (fun h90 => ?_)
  · skip
    have h90 := nI_leT (a := 10) (b := o) (by decide) (by omega) h90
    exact absurd h90 (by omega)
  · skip
    have h90 := nI_leF (a := 10) (b := o) (by decide) (by omega) h90
    refine And.intro rfl (Exists.intro 16 (And.intro rfl ?_))
    refine And.intro rfl (Exists.intro 17 (And.intro rfl ?_))
    refine Exists.intro (o) (Exists.intro (S (10 + 5 * o + 1)) (And.intro rfl (And.intro ⟨10, rfl, by omega, by decide⟩ (And.intro ((fσ7.i _ _ rfl).trans ((fσ6.i _ _ rfl).trans ((fσ5.i _ _ rfl).trans ((fσ4.i _ _ rfl).trans ((fσ3.i _ _ rfl).trans ((fσ2.i _ _ rfl).trans ((fσ1.i _ _ rfl).trans ((h.2.2.1.2.2.2.1 o ho).1)))))))) ?_))))
    obtain ⟨σ8, eσ8⟩ : ∃ zs, zs = (qx_wi σ7 158 7 (S (10 + 5 * o + 1))) := ⟨_, rfl⟩
    have fσ8 := qn_wi eσ8
    refine Exists.intro (7) (Exists.intro σ8 (And.intro rfl (And.intro ⟨12, rfl, by decide, by decide⟩ (And.intro eσ8.symm ?_))))
    refine And.intro rfl (Exists.intro 158 (And.intro rfl ?_))
    refine Exists.intro (nI 8) (And.intro rfl ?_)
    obtain ⟨σ9, eσ9⟩ : ∃ zs, zs = (qx_wi σ8 158 8 (nI n)) := ⟨_, rfl⟩
    have fσ9 := qn_wi eσ9
    refine Exists.intro (8) (Exists.intro σ9 (And.intro rfl (And.intro ⟨12, rfl, by decide, by decide⟩ (And.intro eσ9.symm ?_))))
    refine And.intro rfl (Exists.intro 158 (And.intro rfl ?_))
    refine Exists.intro (nI 9) (And.intro rfl ?_)
    refine And.intro rfl (Exists.intro 6 (Exists.intro (some st) (And.intro rfl (And.intro ((fσ9.r _ _).trans ((fσ8.r _ _).trans ((fσ7.r _ _).trans ((fσ6.r _ _).trans ((fσ5.r _ _).trans ((fσ4.r _ _).trans ((fσ3.r _ _).trans ((fσ2.r _ _).trans ((fσ1.r _ _).trans (h.1)))))))))) ?_))))
    refine And.intro (by rw [show qx_sh qc_T _ st = _ from (fσ9.s _).trans ((fσ8.s _).trans ((fσ7.s _).trans ((fσ6.s _).trans ((fσ5.s _).trans ((fσ4.s _).trans ((fσ3.s _).trans ((fσ2.s _).trans ((fσ1.s _).trans (sh.1)))))))))]; rfl) (Exists.intro (st + 4) (And.intro rfl ?_))
    refine Exists.intro (p) (Exists.intro (q_sum (fun k => S (154 + 10 * p + k)) (s_n S 1)) (And.intro rfl (And.intro ⟨10, (fσ9.s _).trans ((fσ8.s _).trans ((fσ7.s _).trans ((fσ6.s _).trans ((fσ5.s _).trans ((fσ4.s _).trans ((fσ3.s _).trans ((fσ2.s _).trans ((fσ1.s _).trans (sh.2.2.2.2))))))))), by omega, by decide⟩ (And.intro ((qn_ne eσ9 (Or.inl (by omega))).trans ((qn_ne eσ8 (Or.inl (by omega))).trans ((qn_ne eσ7 (Or.inl (by omega))).trans ((qn_ne eσ6 (Or.inl (by omega))).trans ((qn_ne eσ5 (Or.inl (by omega))).trans ((qn_ne eσ4 (Or.inl (by omega))).trans ((qn_ne eσ3 (Or.inl (by omega))).trans ((qn_ne eσ2 (Or.inl (by omega))).trans ((qn_ne eσ1 (Or.inl (by omega))).trans ((h.2.2.2.2 p hp).1)))))))))) ?_))))
    obtain ⟨σ10, eσ10⟩ : ∃ zs, zs = (qx_wi σ9 158 9 (q_sum (fun k => S (154 + 10 * p + k)) (s_n S 1))) := ⟨_, rfl⟩
    have fσ10 := qn_wi eσ10
    refine Exists.intro (9) (Exists.intro σ10 (And.intro rfl (And.intro ⟨12, rfl, by decide, by decide⟩ (And.intro eσ10.symm ?_))))
    refine And.intro rfl (Exists.intro 158 (And.intro rfl ?_))
    refine Exists.intro (nI 10) (And.intro rfl ?_)
    refine And.intro rfl (Exists.intro 6 (Exists.intro (some st) (And.intro rfl (And.intro ((fσ10.r _ _).trans ((fσ9.r _ _).trans ((fσ8.r _ _).trans ((fσ7.r _ _).trans ((fσ6.r _ _).trans ((fσ5.r _ _).trans ((fσ4.r _ _).trans ((fσ3.r _ _).trans ((fσ2.r _ _).trans ((fσ1.r _ _).trans (h.1))))))))))) ?_))))
    refine And.intro (by rw [show qx_sh qc_T _ st = _ from (fσ10.s _).trans ((fσ9.s _).trans ((fσ8.s _).trans ((fσ7.s _).trans ((fσ6.s _).trans ((fσ5.s _).trans ((fσ4.s _).trans ((fσ3.s _).trans ((fσ2.s _).trans ((fσ1.s _).trans (sh.1))))))))))]; rfl) (Exists.intro 4 (Exists.intro (S 3) (And.intro rfl (And.intro ((qn_ne eσ10 (Or.inl (by omega))).trans ((qn_ne eσ9 (Or.inl (by omega))).trans ((qn_ne eσ8 (Or.inl (by omega))).trans ((qn_ne eσ7 (Or.inl (by omega))).trans ((qn_ne eσ6 (Or.inl (by omega))).trans ((qn_ne eσ5 (Or.inl (by omega))).trans ((qn_ne eσ4 (Or.inl (by omega))).trans ((qn_ne eσ3 (Or.inl (by omega))).trans ((qn_ne eσ2 (Or.inl (by omega))).trans ((qn_ne eσ1 (Or.inl (by omega))).trans (h.2.2.2.1))))))))))) ?_))))
    obtain ⟨σ11, eσ11⟩ : ∃ zs, zs = (qx_wi σ10 158 10 (S 3)) := ⟨_, rfl⟩
    have fσ11 := qn_wi eσ11
    refine Exists.intro (10) (Exists.intro σ11 (And.intro rfl (And.intro ⟨12, rfl, by decide, by decide⟩ (And.intro eσ11.symm ?_))))
    refine And.intro rfl (Exists.intro 158 (And.intro rfl ?_))
    refine Exists.intro (nI 11) (And.intro rfl ?_)
    refine And.intro rfl (Exists.intro 6 (Exists.intro (some st) (And.intro rfl (And.intro ((fσ11.r _ _).trans ((fσ10.r _ _).trans ((fσ9.r _ _).trans ((fσ8.r _ _).trans ((fσ7.r _ _).trans ((fσ6.r _ _).trans ((fσ5.r _ _).trans ((fσ4.r _ _).trans ((fσ3.r _ _).trans ((fσ2.r _ _).trans ((fσ1.r _ _).trans (h.1)))))))))))) ?_))))
    refine And.intro (by rw [show qx_sh qc_T _ st = _ from (fσ11.s _).trans ((fσ10.s _).trans ((fσ9.s _).trans ((fσ8.s _).trans ((fσ7.s _).trans ((fσ6.s _).trans ((fσ5.s _).trans ((fσ4.s _).trans ((fσ3.s _).trans ((fσ2.s _).trans ((fσ1.s _).trans (sh.1)))))))))))]; rfl) (Exists.intro (st + 2) (And.intro rfl ?_))
    refine Exists.intro (p) (Exists.intro (S (10 + 5 * p + 4)) (And.intro rfl (And.intro ⟨10, (fσ11.s _).trans ((fσ10.s _).trans ((fσ9.s _).trans ((fσ8.s _).trans ((fσ7.s _).trans ((fσ6.s _).trans ((fσ5.s _).trans ((fσ4.s _).trans ((fσ3.s _).trans ((fσ2.s _).trans ((fσ1.s _).trans (sh.2.2.1))))))))))), by omega, by decide⟩ (And.intro ((qn_ne eσ11 (Or.inl (by omega))).trans ((qn_ne eσ10 (Or.inl (by omega))).trans ((qn_ne eσ9 (Or.inl (by omega))).trans ((qn_ne eσ8 (Or.inl (by omega))).trans ((qn_ne eσ7 (Or.inl (by omega))).trans ((qn_ne eσ6 (Or.inl (by omega))).trans ((qn_ne eσ5 (Or.inl (by omega))).trans ((qn_ne eσ4 (Or.inl (by omega))).trans ((qn_ne eσ3 (Or.inl (by omega))).trans ((qn_ne eσ2 (Or.inl (by omega))).trans ((qn_ne eσ1 (Or.inl (by omega))).trans ((h.2.2.2.2 p hp).2)))))))))))) ?_))))
    obtain ⟨σ12, eσ12⟩ : ∃ zs, zs = (qx_wi σ11 158 11 (S (10 + 5 * p + 4))) := ⟨_, rfl⟩
    have fσ12 := qn_wi eσ12
    refine Exists.intro (11) (Exists.intro σ12 (And.intro rfl (And.intro ⟨12, rfl, by decide, by decide⟩ (And.intro eσ12.symm ?_))))
    refine ⟨rfl, fσ1.tr (fσ2.tr (fσ3.tr (fσ4.tr (fσ5.tr (fσ6.tr (fσ7.tr (fσ8.tr (fσ9.tr (fσ10.tr (fσ11.tr fσ12)))))))))) |>.mn (by decide), fun v hv => ?_⟩
    match v, hv with
    | 0, _ => exact ((qn_ne eσ12 (Or.inr (by decide))).trans ((qn_ne eσ11 (Or.inr (by decide))).trans ((qn_ne eσ10 (Or.inr (by decide))).trans ((qn_ne eσ9 (Or.inr (by decide))).trans ((qn_ne eσ8 (Or.inr (by decide))).trans ((qn_ne eσ7 (Or.inr (by decide))).trans ((qn_ne eσ6 (Or.inr (by decide))).trans ((qn_ne eσ5 (Or.inr (by decide))).trans ((qn_ne eσ4 (Or.inr (by decide))).trans ((qn_ne eσ3 (Or.inr (by decide))).trans ((qn_ne eσ2 (Or.inr (by decide))).trans (qn_eq eσ1))))))))))))
    | 1, _ => exact ((qn_ne eσ12 (Or.inr (by decide))).trans ((qn_ne eσ11 (Or.inr (by decide))).trans ((qn_ne eσ10 (Or.inr (by decide))).trans ((qn_ne eσ9 (Or.inr (by decide))).trans ((qn_ne eσ8 (Or.inr (by decide))).trans ((qn_ne eσ7 (Or.inr (by decide))).trans ((qn_ne eσ6 (Or.inr (by decide))).trans ((qn_ne eσ5 (Or.inr (by decide))).trans ((qn_ne eσ4 (Or.inr (by decide))).trans ((qn_ne eσ3 (Or.inr (by decide))).trans (qn_eq eσ2)))))))))))
    | 2, _ => exact ((qn_ne eσ12 (Or.inr (by decide))).trans ((qn_ne eσ11 (Or.inr (by decide))).trans ((qn_ne eσ10 (Or.inr (by decide))).trans ((qn_ne eσ9 (Or.inr (by decide))).trans ((qn_ne eσ8 (Or.inr (by decide))).trans ((qn_ne eσ7 (Or.inr (by decide))).trans ((qn_ne eσ6 (Or.inr (by decide))).trans ((qn_ne eσ5 (Or.inr (by decide))).trans ((qn_ne eσ4 (Or.inr (by decide))).trans (qn_eq eσ3))))))))))
    | 3, _ => exact ((qn_ne eσ12 (Or.inr (by decide))).trans ((qn_ne eσ11 (Or.inr (by decide))).trans ((qn_ne eσ10 (Or.inr (by decide))).trans ((qn_ne eσ9 (Or.inr (by decide))).trans ((qn_ne eσ8 (Or.inr (by decide))).trans ((qn_ne eσ7 (Or.inr (by decide))).trans ((qn_ne eσ6 (Or.inr (by decide))).trans ((qn_ne eσ5 (Or.inr (by decide))).trans (qn_eq eσ4)))))))))
    | 4, _ => exact ((qn_ne eσ12 (Or.inr (by decide))).trans ((qn_ne eσ11 (Or.inr (by decide))).trans ((qn_ne eσ10 (Or.inr (by decide))).trans ((qn_ne eσ9 (Or.inr (by decide))).trans ((qn_ne eσ8 (Or.inr (by decide))).trans ((qn_ne eσ7 (Or.inr (by decide))).trans ((qn_ne eσ6 (Or.inr (by decide))).trans (qn_eq eσ5))))))))
    | 5, _ => exact ((qn_ne eσ12 (Or.inr (by decide))).trans ((qn_ne eσ11 (Or.inr (by decide))).trans ((qn_ne eσ10 (Or.inr (by decide))).trans ((qn_ne eσ9 (Or.inr (by decide))).trans ((qn_ne eσ8 (Or.inr (by decide))).trans ((qn_ne eσ7 (Or.inr (by decide))).trans (qn_eq eσ6)))))))
    | 6, _ => exact ((qn_ne eσ12 (Or.inr (by decide))).trans ((qn_ne eσ11 (Or.inr (by decide))).trans ((qn_ne eσ10 (Or.inr (by decide))).trans ((qn_ne eσ9 (Or.inr (by decide))).trans ((qn_ne eσ8 (Or.inr (by decide))).trans (qn_eq eσ7))))))
    | 7, _ => exact ((qn_ne eσ12 (Or.inr (by decide))).trans ((qn_ne eσ11 (Or.inr (by decide))).trans ((qn_ne eσ10 (Or.inr (by decide))).trans ((qn_ne eσ9 (Or.inr (by decide))).trans (qn_eq eσ8)))))
    | 8, _ => exact ((qn_ne eσ12 (Or.inr (by decide))).trans ((qn_ne eσ11 (Or.inr (by decide))).trans ((qn_ne eσ10 (Or.inr (by decide))).trans (qn_eq eσ9))))
    | 9, _ => exact ((qn_ne eσ12 (Or.inr (by decide))).trans ((qn_ne eσ11 (Or.inr (by decide))).trans (qn_eq eσ10)))
    | 10, _ => exact ((qn_ne eσ12 (Or.inr (by decide))).trans (qn_eq eσ11))
    | 11, _ => exact (qn_eq eσ12)

