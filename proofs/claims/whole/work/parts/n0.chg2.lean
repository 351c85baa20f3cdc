/-! call, book, feed, end -/
theorem k27_k : kWk (pL [(27, some 1), (28, none)]) := ⟨rfl, fun _ => rfl, fun x j h => pL_ne (by simp; omega), fun x j h => pL_ne (by simp; omega)⟩
theorem z_call {G : qx_G} {n : Nat} {σ : qx_S} (h : zZ n σ) (x : Int32) : zO G YX11_call YX12_call [.int x] n σ := by
  obtain ⟨S, nr, Rs, T, J, e, ow, k⟩ := h.k
  have g := k.g
  have h10 := g.2.1.2
  have xx := k.2.2.1
  have hC := k.I.1.2.2.1
  have c6 := hC.2.1
  by_cases hx : x = -1
  · subst hx
    have en : eN2 S (va_up S 4 (nI 0)) := fun i hi => va_up_ne _ _ (by omega)
    refine k.n2 (by decide) (by decide) (l := [(27, some 1)]) rfl ⟨rfl, fun _ => rfl, fun x j h => pL_ne (by simp; omega), fun x j h => pL_ne (by simp; omega)⟩ en ?_ ?_ (c_call_m1 k.I) (fun s hM => m_call_m1 hM.1)
    · intro p hp
      rw [en.n.n1] at hp
      rw [va_up_ne _ _ (by omega)]
      exact xx.2.2.2.2.1 p hp
    · rw [va_up_ne _ _ (by omega)]
      exact xx.2.2.2.2.2.1
  · cases hb : (q_is x (s_n S 1) && !decide (s_n S 4 = 6)) with
    | false => exact zPair0 h (by decide) (by decide) (c_call_no k.I hx hb) (m_call_no k.2.1.1 g.2.1.1 c6 hC.1 hx hb)
    | true =>
      simp only [Bool.and_eq_true, Bool.not_eq_true', decide_eq_false_iff_not] at hb
      obtain ⟨p, hp, rfl⟩ := q_is_t hb.1 (by omega)
      have hc : s_n S 4 < 6 := by have := hb.2; omega
      by_cases hq : q_cl S (nI p) (s_n S 4) = true
      · refine zPair0 h (v := -2) (by decide) (by decide) (qx_M_mono (c_call_ok k.I hc hp) (fun r s z => ?_)) (qx_M_mono (m_call_ok k.2.1.1 g.2.1.1 h10 hc hC.1 hp) (fun r s z => ?_))
        · rw [if_pos hq] at z; exact z
        · rw [if_pos hq] at z; exact z
      · have en : eN2 S (va_up (va_up S (148 + s_n S 4) (nI p)) 4 (nI (s_n S 4 + 1))) := fun i hi => (va_up_ne _ _ (by omega)).trans (va_up_ne _ _ (by omega))
        refine k.n2 (v := nI (s_n S 4 + 1)) (by decide) (by decide) (l := [(27, some 1), (28, none)]) rfl k27_k en ?_ ?_ (qx_M_mono (c_call_ok k.I hc hp) (fun r s z => ?_)) (fun s hM => qx_M_mono (m_call_ok hM.1 g.2.1.1 h10 hc hC.1 hp) (fun r s z => ?_))
        · intro p' hp'
          rw [en.n.n1] at hp'
          rw [va_up_ne _ _ (by omega), va_up_ne _ _ (by omega)]
          exact xx.2.2.2.2.1 p' hp'
        · rw [va_up_ne _ _ (by omega), va_up_ne _ _ (by omega)]
          exact xx.2.2.2.2.2.1
        · rw [if_neg hq] at z; exact z
        · rw [if_neg hq] at z; exact z
theorem z_book {G : qx_G} {n : Nat} {σ : qx_S} (h : zZ n σ) : zO G YX11_book YX12_book [] n σ := by
  obtain ⟨S, nr, Rs, T, J, e, ow, k⟩ := h.k
  have g := k.g
  have h10 := g.2.1.2
  have xx := k.2.2.1
  have hC := k.I.1.2.2.1
  have hB := k.I.1.2.2.2.1
  have c6 := hC.2.1
  have b12 := hB.2.1
  by_cases hz : s_n S 4 < 2 ∨ s_n S 5 = 12
  · exact zPair0 h (by decide) (by decide) (c_book_no k.I hz) (m_book_no k.2.1.1 b12 c6 hC.1 hB.1 hz)
  · have h2 : 2 ≤ s_n S 4 := by omega
    have hn : s_n S 5 < 12 := by omega
    have ne : ∀ i, ¬ (254 ≤ i ∧ i < 338) → ¬ i = 4 → ¬ i = 5 → va_up (va_up (q_bo S (s_n S 5) (s_n S 4)) 4 (nI 0)) 5 (nI (s_n S 5 + 1)) i = S i := fun i h1 h2 h3 => by
      rw [va_up_ne _ _ (by omega), va_up_ne _ _ (by omega)]
      unfold q_bo
      rw [if_neg (by omega), if_neg (by omega)]
    have en : eN2 S (va_up (va_up (q_bo S (s_n S 5) (s_n S 4)) 4 (nI 0)) 5 (nI (s_n S 5 + 1))) := fun i hi => ne i (by omega) (by omega) (by omega)
    refine k.n2 (by decide) (by decide) (l := [(27, some 1), (15, some 8), (131 + 2 * s_n S 5, none), (131 + 2 * s_n S 5 + 1, none)]) ?_ ⟨pL_ne (by simp; omega), fun j => pL_ne (by simp; omega), fun x j h => pL_ne (by simp; omega), fun x j h => pL_ne (by simp; omega)⟩ en ?_ ?_ (c_book_ok k.I h2 hn) (fun s hM => m_book_ok hM.1 hn c6 hC.1 hB.1 h2)
    · rcases (show s_n S 5 = 0 ∨ s_n S 5 = 1 ∨ s_n S 5 = 2 ∨ s_n S 5 = 3 ∨ s_n S 5 = 4 ∨ s_n S 5 = 5 ∨ s_n S 5 = 6 ∨ s_n S 5 = 7 ∨ s_n S 5 = 8 ∨ s_n S 5 = 9 ∨ s_n S 5 = 10 ∨ s_n S 5 = 11 by omega) with z | z | z | z | z | z | z | z | z | z | z | z <;> (rw [z]; rfl)
    · intro p' hp'
      rw [en.n.n1] at hp'
      rw [ne _ (by omega) (by omega) (by omega)]
      exact xx.2.2.2.2.1 p' hp'
    · rw [ne _ (by omega) (by omega) (by omega)]
      exact xx.2.2.2.2.2.1
/-- the tape's calls -/
theorem zK.t {G : qx_G} {n dc dr : Nat} {σ : qx_S} {Yc Yr : qx_Y} {a : List Value} {v : Int32} {S : qS} {nr : Nat} {Rs : Nat → qR} {T T' : q_T} {J : Nat → Option qS} {e : Nat} {ow : Nat → Nat} (k : zK n σ S nr Rs T J e ow) (h1 : dc < 40) (h2 : dr < 40)
    (hc : qx_M G qc_T dc Yc (.ref 3 :: a) σ (fun r s => r = some (.int v) ∧ ql kT σ s ∧ tC s T'))
    (hr : ∀ s, zM s S nr Rs T J → qx_M G qc_T dr Yr (.ref 197 :: a) s (fun r s' => r = some (.int v) ∧ ql lT s s' ∧ tR s' T')) : zO G Yc Yr a n σ := by
  refine zPair (S' := S) (nr' := nr) (Rs' := Rs) (T' := T') (J' := J) (e' := e) (by omega) k.2.2.2.2.1 k.2.2.1 k.2.2.2.1 k.2.2.2.2.2.1 k.2.2.2.2.2.2 h1 h2 (qx_M_mono hc (fun r s z => ⟨z.1, ?_⟩)) (fun s hM => qx_M_mono (hr s hM) (fun r s' z => ⟨z.1, ⟨lT, z.2.1, rfl⟩, ?_⟩))
  · obtain ⟨⟨c1, c2, c3, c4, c5, c6, c7, c8⟩, hM, -⟩ := k
    have h9 := c1.1.2.2.2.2.2.2.2.2
    have f := z.2.1
    have fk := qf.k f
    have hI : cI s S (q_rf nr Rs (S 7)) e := c1.1.fr f rfl rfl
    have r := qf.rm f
    have no : ∀ x j, 6 ≤ x → pL kT x j = false := fun x j hx => pL_ne (by simp; omega)
    exact ⟨⟨ow, c1.k fk ⟨rfl, fun _ => rfl, fun x j h => no x j (by omega), fun x j h => no x j (by omega)⟩ hI, c2.k h9 fk (fun _ _ => rfl) rfl (fun x j a _ _ => no x j (by omega)), c3.k h9 fk (fun _ _ => rfl) rfl (fun x j a _ _ => no x j (by omega)), c4.k h9 fk (fun _ _ => rfl) rfl (fun _ _ => rfl) (fun x j a _ _ _ => no x j (by omega)), c5.k h9 fk (fun _ _ => rfl) rfl, z.2.2, c7.k h9 fk (fun _ _ => rfl) (fun _ => rfl) (fun _ _ _ => rfl) (fun x j a _ _ => no x j (by omega)), c8⟩, hM.k h9 fk (fun a j h1 h2 => no a j (by omega)), by omega, by omega⟩
  · have hM2 := hM
    obtain ⟨a1, a2, a3, a4, a5, a6⟩ := hM
    have f := z.2.1
    exact ⟨(f.row _ (fun _ => rfl)).trans a1, (f.i _ _ rfl).trans a2, (f.i _ _ rfl).trans a3, fun t ht => (a4 t ht).fr f (fun _ => rfl) (fun _ => rfl) (fun _ => rfl), z.2.2, fun k hk => ⟨fun w => (f.i _ _ rfl).trans ((a6 k hk).1 w), fun I w => ⟨(f.i _ _ rfl).trans ((a6 k hk).2 I w).1, fun j hj => (f.i _ _ rfl).trans (((a6 k hk).2 I w).2 j hj)⟩⟩⟩
theorem z_feed {G : qx_G} {n : Nat} {σ : qx_S} (h : zZ n σ) (a b c d e : Int32) : zO G YX11_feed YX12_feed [.int a, .int b, .int c, .int d, .int e] n σ := by
  obtain ⟨S, nr, Rs, T, J, e', ow, k⟩ := h.k
  have hT := k.1.2.2.2.2.2.1
  have hR := k.2.1.2.2.2.2.1
  rcases Nat.lt_or_ge 400 (T.1 + 20) with z | z
  · exact zPair0 h (by decide) (by decide) (c_feed_no hT z a b c d e) (m_feed_no hR z a b c d e)
  · exact k.t (by decide) (by decide) (c_feed_ok hT z a b c d e) (fun s hM => m_feed_ok hM.2.2.2.2.1 z a b c d e)
theorem z_end {G : qx_G} {n : Nat} {σ : qx_S} (h : zZ n σ) (x : Int32) : zO G YX11_end YX12_end [.int x] n σ := by
  obtain ⟨S, nr, Rs, T, J, e', ow, k⟩ := h.k
  have hT := k.1.2.2.2.2.2.1
  have hR := k.2.1.2.2.2.2.1
  have h4 := hT.2.1
  cases hx : q_is x (T.1 + 1) with
  | false => exact zPair0 h (by decide) (by decide) (c_end_no hT hx) (m_end_no hR hx)
  | true =>
    obtain ⟨m, hm, rfl⟩ := q_is_t hx (by omega)
    exact k.t (by decide) (by decide) (c_end_ok hT (by omega)) (fun s hM => m_end_ok hM.2.2.2.2.1 (by omega))
