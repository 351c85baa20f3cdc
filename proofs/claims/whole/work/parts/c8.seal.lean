/-! AN OBJECT IS FINISHED: its links stand -/
def qz_s (σ : qx_S) (a ci : Nat) : qx_S := (σ.1, σ.2.1, va_up σ.2.2.1 a (8 + ci, 0), σ.2.2.2)
def qz_l (σ : qx_S) (a ci : Nat) : Prop := ∀ k, ((qx_fk ci k).1 = 3 → σ.2.2.2.2.2 a k = some (a + (qx_fk ci k).2)) ∧ ((qx_fk ci k).1 = 4 → σ.2.2.2.2.2 a k = some (qx_fk ci k).2)
theorem qz_fv {G : qx_G} {σ : qx_S} {a ci : Nat} (hl : qz_l σ a ci) (k : Nat) : qx_fv G false σ ci a k = qx_fv G true (qz_s σ a ci) ci a k := by
  obtain ⟨h3, h4⟩ := hl k
  unfold qx_fv
  split
  · rfl
  · rfl
  · next z => rw [h3 z, if_neg (by decide), if_pos rfl]; rfl
  · next z => rw [h4 z, if_neg (by decide), if_pos rfl]; rfl
  · rfl
theorem qz_sh {T : qx_T} {σ : qx_S} {a ci b : Nat} (hb : b ≠ a) : qx_sh T (qz_s σ a ci) b = qx_sh T σ b := by
  unfold qx_sh
  split
  · rfl
  · exact va_up_ne _ _ hb
theorem qz_H {G : qx_G} {T : qx_T} {σ : qx_S} {H : Heap} {a ci : Nat} (h : qx_H G T σ H) (hT : T a = none) (hs : σ.2.2.1 a = (40 + ci, 0)) (hci : ci < 12) (hl : qz_l σ a ci) : qx_H G T (qz_s σ a ci) H := by
  refine ⟨h.1, h.2.1, h.2.2.1, fun b hb => ?_⟩
  by_cases z : b = a
  · subst z
    have e1 : qx_sh T σ b = (40 + ci, 0) := by unfold qx_sh; rw [hT]; exact hs
    have e2 : qx_sh T (qz_s σ b ci) b = (8 + ci, 0) := by unfold qx_sh; rw [hT]; exact va_up_self _ _ _
    obtain ⟨g1, g2, g3⟩ := h.2.2.2 b (by rw [e1]; exact Or.inr ⟨Nat.le_add_right _ _, by show 40 + ci < 60; omega⟩)
    rw [e1] at g3
    rw [e2]
    refine ⟨g1, g2, ?_⟩
    unfold qx_at at g3 ⊢
    rw [if_neg (show ¬ 40 + ci < 3 by omega), if_neg (show ¬ 40 + ci = 3 by omega), if_neg (show ¬ 40 + ci < 8 by omega), if_neg (show ¬ 40 + ci < 20 by omega), if_pos (show 40 ≤ 40 + ci by omega)] at g3
    rw [if_neg (show ¬ 8 + ci < 3 by omega), if_neg (show ¬ 8 + ci = 3 by omega), if_neg (show ¬ 8 + ci < 8 by omega), if_pos (show 8 + ci < 20 by omega)]
    have n1 : (40 + ci, 0).1 - 40 = ci := by show 40 + ci - 40 = ci; omega
    have n2 : (8 + ci, 0).1 - 8 = ci := by show 8 + ci - 8 = ci; omega
    rw [n1] at g3
    rw [n2]
    rw [show (fun k => qx_fv G true (qz_s σ b ci) ci b k) = fun k => qx_fv G false σ ci b k from funext fun k => (qz_fv hl k).symm]
    exact g3
  · rw [qz_sh z] at hb ⊢
    exact h.2.2.2 b hb
theorem qz_K {G : qx_G} {T : qx_T} {d : Nat} {own : String} {Y : qx_Y} {pc : Nat} {ls st : List Value} {σ : qx_S} {Φ : qx_F} {a ci : Nat} (ha : 3 ≤ a) (hT : T a = none) (hs : σ.2.2.1 a = (40 + ci, 0)) (hci : ci < 12) (hl : qz_l σ a ci) (h : qx_K G T d own Y pc ls st (qz_s σ a ci) Φ) : qx_K G T d own Y pc ls st σ Φ := by
  obtain ⟨r, σ', h1, h2, h3, h4⟩ := h
  have e0 : qx_sh T (qz_s σ a ci) 0 = qx_sh T σ 0 := qz_sh (by omega)
  have eQ : qx_Q G T (qz_s σ a ci) r σ' = qx_Q G T σ r σ' := by
    unfold qx_Q qx_sc
    rw [e0]
    rfl
  refine ⟨r, σ', h1, h2, h3, fun p e R s m args below meth c H locs cells slots lsA c1 c2 c3 c4 c5 hR c6 c7 c8 => ?_⟩
  have hR' : qx_R G T s (qz_s σ a ci) H := by
    obtain ⟨r1, r2, r3, r4, r5, r6⟩ := hR
    exact ⟨r1, r2, by rw [e0]; exact r3, r4, r5, qz_H r6 hT hs hci hl⟩
  have w := h4 p e R s m args below meth c H locs cells slots lsA c1 c2 c3 c4 c5 hR' c6 c7 c8
  rw [eQ] at w
  exact w
