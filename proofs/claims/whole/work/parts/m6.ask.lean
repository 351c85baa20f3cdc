/-! THE ASKING CALLS, side by side -/
def zK (n : Nat) (σ : qx_S) (S : qS) (nr : Nat) (Rs : Nat → qR) (T : q_T) (J : Nat → Option qS) (e : Nat) (ow : Nat → Nat) : Prop := zC σ S nr Rs T J e ow ∧ zM σ S nr Rs T J ∧ gX S nr ∧ (∀ k I, k < 4 → J k = some I → gX I nr) ∧ e ≤ n + 1 ∧ po σ ≤ 64000 + 3200 * n ∧ pcl σ ≤ 260 + 140 * n
theorem zZ.k {n : Nat} {σ : qx_S} (h : zZ n σ) : ∃ S nr Rs T J e ow, zK n σ S nr Rs T J e ow := h
theorem zK.z {n : Nat} {σ : qx_S} {S : qS} {nr : Nat} {Rs : Nat → qR} {T : q_T} {J : Nat → Option qS} {e : Nat} {ow : Nat → Nat} (k : zK n σ S nr Rs T J e ow) : zZ n σ := ⟨S, nr, Rs, T, J, e, ow, k⟩
theorem zK.I {n : Nat} {σ : qx_S} {S : qS} {nr : Nat} {Rs : Nat → qR} {T : q_T} {J : Nat → Option qS} {e : Nat} {ow : Nat → Nat} (k : zK n σ S nr Rs T J e ow) : cI σ S (q_rf nr Rs (S 7)) e := k.1.1.1
theorem zK.g {n : Nat} {σ : qx_S} {S : qS} {nr : Nat} {Rs : Nat → qR} {T : q_T} {J : Nat → Option qS} {e : Nat} {ow : Nat → Nat} (k : zK n σ S nr Rs T J e ow) : gS S := k.I.1.1.2.1
theorem zK.r6 {n : Nat} {σ : qx_S} {S : qS} {nr : Nat} {Rs : Nat → qR} {T : q_T} {J : Nat → Option qS} {e : Nat} {ow : Nat → Nat} (k : zK n σ S nr Rs T J e ow) : nr ≤ 6 := k.1.2.2.2.1.1.2.1
theorem zK.a {G : qx_G} {n dc dr : Nat} {σ : qx_S} {Yc Yr : qx_Y} {a : List Value} {v : Int32} {S : qS} {nr : Nat} {Rs : Nat → qR} {T : q_T} {J : Nat → Option qS} {e : Nat} {ow : Nat → Nat} (k : zK n σ S nr Rs T J e ow) (h1 : dc < 40) (h2 : dr < 40)
    (hc : qx_M G qc_T dc Yc (.ref 3 :: a) σ (fun r s => r = some (.int v) ∧ (∃ ow', zC s S nr Rs T J e ow') ∧ zM s S nr Rs T J ∧ po s ≤ po σ + 3200 ∧ pcl s ≤ pcl σ + 140))
    (hr : ∀ s, zM s S nr Rs T J → mX s S (q_rf nr Rs (S 7)) none → qx_M G qc_T dr Yr (.ref 197 :: a) s (fun r s' => r = some (.int v) ∧ (∃ l, ql l s s' ∧ kRf l = true) ∧ zM s' S nr Rs T J)) : zO G Yc Yr a n σ :=
  zPair (by omega) k.2.2.2.2.1 k.2.2.1 k.2.2.2.1 k.2.2.2.2.2.1 k.2.2.2.2.2.2 h1 h2 hc (fun s hM => hr s hM (hM.x k.g k.r6 k.2.2.1.2.2.2.2.2.2.2))
/-- the reference asked -/
def kM2 (l : List (Nat × Option Nat)) : Bool := l.all (fun q => Nat.ble 197 q.1 && Nat.blt q.1 229 && !(Nat.beq q.1 198) && !(Nat.beq q.1 199) && !(Nat.beq q.1 201) && !(Nat.beq q.1 202) && !(Nat.beq q.1 227) && !(Nat.beq q.1 228) && (!(Nat.beq q.1 197) || (match q.2 with
  | some k => !(Nat.beq k 1) && !(Nat.beq k 2)
  | none => false)))
theorem kM2.rf {l : List (Nat × Option Nat)} (h : kM2 l = true) : kRf l = true := by
  refine List.all_eq_true.mpr (fun q hq => ?_)
  have k := List.all_eq_true.mp h q hq
  simp only [Bool.and_eq_true] at k ⊢
  exact ⟨k.1.1.1.1.1.1.1.1, k.1.1.1.1.1.1.1.2⟩
theorem kM2.no {l : List (Nat × Option Nat)} (h : kM2 l = true) {a j : Nat} (ha : a = 198 ∨ a = 199 ∨ a = 201 ∨ a = 202 ∨ a = 227 ∨ a = 228 ∨ (a = 197 ∧ (j = 1 ∨ j = 2))) : pL l a j = false := by
  cases hb : pL l a j with
  | false => rfl
  | true =>
    exfalso
    obtain ⟨⟨x, y⟩, hq, h1⟩ := List.any_eq_true.mp hb
    have h2 := List.all_eq_true.mp h _ hq
    simp only [Bool.and_eq_true, Bool.or_eq_true, Bool.not_eq_true'] at h1 h2
    obtain ⟨⟨⟨⟨⟨⟨⟨-, b1⟩, b2⟩, b3⟩, b4⟩, b5⟩, b6⟩, b7⟩ := h2
    have e : x = a := Nat.eq_of_beq_eq_true h1.1
    subst e
    rcases ha with z | z | z | z | z | z | ⟨z1, z2⟩
    · rw [z] at b1; cases b1
    · rw [z] at b2; cases b2
    · rw [z] at b3; cases b3
    · rw [z] at b4; cases b4
    · rw [z] at b5; cases b5
    · rw [z] at b6; cases b6
    · rcases b7 with w | w
      · rw [z1] at w; cases w
      · cases y with
        | none => cases w
        | some k =>
          have h3 : k = j := Nat.eq_of_beq_eq_true h1.2
          subst h3
          simp only [Bool.and_eq_true, Bool.not_eq_true'] at w
          rcases z2 with z2 | z2
          · have w1 := w.1; rw [z2] at w1; cases w1
          · have w1 := w.2; rw [z2] at w1; cases w1
theorem zM.q {l : List (Nat × Option Nat)} {σ s : qx_S} {S : qS} {nr : Nat} {Rs : Nat → qR} {T : q_T} {J : Nat → Option qS} (h : zM σ S nr Rs T J) (f : ql l σ s) (hl : kM2 l = true) (h7 : qx_mi s 207 = S) (h21 : qx_mi s 197 21 = -1) : (∃ l, ql l σ s ∧ kRf l = true) ∧ zM s S nr Rs T J := by
  refine ⟨⟨l, f, kM2.rf hl⟩, h7, (f.i _ _ (kM2.no hl (by omega))).trans h.2.1, h21, fun t ht => (h.2.2.2.1 t ht).fr f (fun j => kM2.no hl (by omega)) (fun j => kM2.no hl (by omega)) (fun j => kM2.no hl (by omega)), h.2.2.2.2.1.fr f (kM2.no hl (by omega)) (fun j => kM2.no hl (by omega)), fun k hk => ⟨fun z => (f.i _ _ (kM2.no hl (by omega))).trans ((h.2.2.2.2.2 k hk).1 z), fun I z => ⟨(f.i _ _ (kM2.no hl (by omega))).trans ((h.2.2.2.2.2 k hk).2 I z).1, fun j hj => (f.i _ _ (kM2.no hl (by omega))).trans (((h.2.2.2.2.2 k hk).2 I z).2 j hj)⟩⟩⟩
theorem zM.q1 {l : List (Nat × Option Nat)} {σ s : qx_S} {S : qS} {nr : Nat} {Rs : Nat → qR} {T : q_T} {J : Nat → Option qS} (h : zM σ S nr Rs T J) (f : ql l σ s) (hl : kM2 l = true) (h7 : ∀ j, pL l 207 j = false) (h21 : pL l 197 21 = false) : (∃ l, ql l σ s ∧ kRf l = true) ∧ zM s S nr Rs T J := h.q f hl ((f.row _ h7).trans h.1) ((f.i _ _ h21).trans h.2.2.1)
theorem zM.q2 {l : List (Nat × Option Nat)} {σ s : qx_S} {S : qS} {rf : Option qR} {nr : Nat} {Rs : Nat → qR} {T : q_T} {J : Nat → Option qS} (h : zM σ S nr Rs T J) (f : ql l σ s) (hl : kM2 l = true) (hX : mX s S rf none) : (∃ l, ql l σ s ∧ kRf l = true) ∧ zM s S nr Rs T J := h.q f hl hX.1 hX.2.2.2.2
theorem kLw_k : kWk (pL kLw) := ⟨rfl, fun _ => rfl, fun x j h => pL_ne (by simp; omega), fun x j h => pL_ne (by simp; omega)⟩
theorem kFs_k : kWk (pL kFs) := ⟨rfl, fun _ => rfl, fun x j h => pL_ne (by simp; omega), fun x j h => pL_ne (by simp; omega)⟩
theorem kJ_k : kWk (pL kJ) := ⟨rfl, fun _ => rfl, fun x j h => pL_ne (by simp; omega), fun x j h => pL_ne (by simp; omega)⟩
theorem k189_k : kWk (pL [(189, none)]) := ⟨rfl, fun _ => rfl, fun x j h => pL_ne (by simp; omega), fun x j h => pL_ne (by simp; omega)⟩
theorem zK.q {l : List (Nat × Option Nat)} {n : Nat} {σ s : qx_S} {S : qS} {nr : Nat} {Rs : Nat → qR} {T : q_T} {J : Nat → Option qS} {e : Nat} {ow : Nat → Nat} (k : zK n σ S nr Rs T J e ow) (f : ql l σ s) (hl : kQy l = true) (hk : kWk (pL l)) (hI : cI s S (q_rf nr Rs (S 7)) e) : (∃ ow', zC s S nr Rs T J e ow') ∧ zM s S nr Rs T J ∧ po s ≤ po σ + 3200 ∧ pcl s ≤ pcl σ + 140 := k.1.q1 k.2.1 f hl (k.1.1.k (qf.k f) hk hI)
theorem z_person {G : qx_G} {n : Nat} {σ : qx_S} (h : zZ n σ) (x w : Int32) : zO G YX11_person YX12_person [.int x, .int w] n σ := by
  obtain ⟨S, nr, Rs, T, J, e, ow, k⟩ := h.k
  have g := k.g
  cases hb : (q_is x (s_n S 1) && q_in64 w.toInt64 (lN 0) (lN 7)) with
  | false => exact zPair0 h (by decide) (by decide) (c_person_no k.I hb) (m_person_no k.2.1.1 g.2.1.1 hb)
  | true =>
    rw [Bool.and_eq_true] at hb
    have h10 := g.2.1.2
    obtain ⟨p, hp, rfl⟩ := q_is_t hb.1 (by omega)
    obtain ⟨m, -, hm, rfl⟩ := q_in_t (by decide) (by decide) hb.2
    rcases (show m < 5 ∨ m = 5 ∨ m = 6 ∨ m = 7 by omega) with z | rfl | rfl | rfl
    · exact zPair0 h (by decide) (by decide) (c_person_04 k.I hp z) (m_person_04 k.2.1.1 g.2.1.1 h10 hp z)
    · exact zPair0 h (by decide) (by decide) (c_person_5 k.I hp) (m_person_5 k.2.1.1 g.2.1.1 h10 hp)
    · exact zPair0 h (by decide) (by decide) (c_person_6 k.I hp) (m_person_6 k.2.1.1 g.2.1.1 h10 hp)
    · exact k.a (by decide) (by decide) (qx_M_mono (c_person_7 k.I hp) (fun r s z => ⟨z.1, k.q z.2.1 rfl kLw_k z.2.2⟩)) (fun s hM hX => qx_M_mono (m_person_7 hX g hp) (fun r s' z => ⟨z.1, hM.q1 z.2 rfl (fun _ => rfl) rfl⟩))
theorem z_wish {G : qx_G} {n : Nat} {σ : qx_S} (h : zZ n σ) (x q : Int32) : zO G YX11_wish YX12_wish [.int x, .int q] n σ := by
  obtain ⟨S, nr, Rs, T, J, e, ow, k⟩ := h.k
  have g := k.g
  cases hb : (q_is x (s_n S 1) && q_is q (s_n S 0)) with
  | false => exact zPair0 h (by decide) (by decide) (c_wish_no k.I hb) (m_wish_no k.2.1.1 g.2.1.1 g.1.1 hb)
  | true =>
    rw [Bool.and_eq_true] at hb
    have h10 := g.2.1.2
    have h8 := g.1.2
    obtain ⟨p, hp, rfl⟩ := q_is_t hb.1 (by omega)
    obtain ⟨m, hm, rfl⟩ := q_is_t hb.2 (by omega)
    exact zPair0 h (by decide) (by decide) (c_wish_ok k.I hp hm) (m_wish_ok k.2.1.1 g.2.1.1 g.1.1 h10 h8 hp hm)
theorem z_liking {G : qx_G} {n : Nat} {σ : qx_S} (h : zZ n σ) (x q : Int32) : zO G YX11_liking YX12_liking [.int x, .int q] n σ := by
  obtain ⟨S, nr, Rs, T, J, e, ow, k⟩ := h.k
  have g := k.g
  cases hb : (q_is x (s_n S 1) && q_is q (s_n S 0)) with
  | false => exact zPair0 h (by decide) (by decide) (c_liking_no k.I hb) (m_liking_no k.2.1.1 g.2.1.1 g.1.1 hb)
  | true =>
    rw [Bool.and_eq_true] at hb
    have h10 := g.2.1.2
    have h8 := g.1.2
    obtain ⟨p, hp, rfl⟩ := q_is_t hb.1 (by omega)
    obtain ⟨m, hm, rfl⟩ := q_is_t hb.2 (by omega)
    exact k.a (by decide) (by decide) (qx_M_mono (c_liking_ok k.I hp hm) (fun r s z => ⟨z.1, k.q z.2.1 rfl kLw_k z.2.2⟩)) (fun s hM hX => qx_M_mono (m_liking_ok hX g hp hm) (fun r s' z => ⟨z.1, hM.q1 z.2 rfl (fun _ => rfl) rfl⟩))
theorem z_owes {G : qx_G} {n : Nat} {σ : qx_S} (h : zZ n σ) (x y : Int32) : zO G YX11_owes YX12_owes [.int x, .int y] n σ := by
  obtain ⟨S, nr, Rs, T, J, e, ow, k⟩ := h.k
  have g := k.g
  cases hb : (q_is x (s_n S 1) && q_is y (s_n S 1) && !decide (x = y)) with
  | false => exact zPair0 h (by decide) (by decide) (c_owes_no k.I hb) (m_owes_no k.2.1.1 g.2.1.1 hb)
  | true =>
    simp only [Bool.and_eq_true, Bool.not_eq_true', decide_eq_false_iff_not] at hb
    have h10 := g.2.1.2
    obtain ⟨p, hp, rfl⟩ := q_is_t hb.1.1 (by omega)
    obtain ⟨m, hm, rfl⟩ := q_is_t hb.1.2 (by omega)
    have hne : p ≠ m := fun z => hb.2 (by rw [z])
    exact zPair0 h (by decide) (by decide) (c_owes_ok k.I hp hm hne) (m_owes_ok k.2.1.1 g.2.1.1 h10 hp hm hne)
theorem z_place {G : qx_G} {n : Nat} {σ : qx_S} (h : zZ n σ) (x w : Int32) : zO G YX11_place YX12_place [.int x, .int w] n σ := by
  obtain ⟨S, nr, Rs, T, J, e, ow, k⟩ := h.k
  have g := k.g
  have gd := k.I.1.1.1
  cases hb : (q_is x (s_n S 0) && q_in64 w.toInt64 (lN 0) (lN 3)) with
  | false => exact zPair0 h (by decide) (by decide) (c_place_no k.I hb) (m_place_no k.2.1.1 g.1.1 hb)
  | true =>
    rw [Bool.and_eq_true] at hb
    have h8 := g.1.2
    obtain ⟨q, hq, rfl⟩ := q_is_t hb.1 (by omega)
    obtain ⟨m, -, hm, rfl⟩ := q_in_t (by decide) (by decide) hb.2
    have key : ∀ f : Nat → Bool, m < 3 → (m = 0 → f = q_p0 S q) → (m = 1 → f = q_p1 S (q_rf nr Rs (S 7)) q) → (m = 2 → f = q_p2 S (q_rf nr Rs (S 7)) q) → zO G YX11_place YX12_place [.int (nI q), .int (nI m)] n σ := fun f z f0 f1 f2 =>
      k.a (by decide) (by decide) (qx_M_mono (c_place_ok k.I hq z f0 f1 f2) (fun r s z => ⟨z.1, k.q z.2.1 rfl kLw_k z.2.2⟩)) (fun s hM hX => qx_M_mono (m_place_ok hX g hq z f0 f1 f2) (fun r s' z => ⟨z.1, hM.q1 z.2 rfl (fun _ => rfl) rfl⟩))
    rcases (show m = 0 ∨ m = 1 ∨ m = 2 ∨ m = 3 by omega) with rfl | rfl | rfl | rfl
    · exact key _ (by decide) (fun _ => rfl) (fun z => by cases z) (fun z => by cases z)
    · exact key _ (by decide) (fun z => by cases z) (fun _ => rfl) (fun z => by cases z)
    · exact key _ (by decide) (fun z => by cases z) (fun z => by cases z) (fun _ => rfl)
    · exact zPair0 h (by decide) (by decide) (c_place_3 k.I hq) (m_place_3 k.2.1.1 g.1.1 h8 gd.2.2.1 gd.2.2.2 hq)
theorem z_may {G : qx_G} {n : Nat} {σ : qx_S} (h : zZ n σ) : zO G YX11_may YX12_may [] n σ := by
  obtain ⟨S, nr, Rs, T, J, e, ow, k⟩ := h.k
  have g := k.g
  have hC := k.I.1.2.2.1
  rcases Nat.lt_or_ge (s_n S 4) 2 with z | z
  · exact zPair0 h (by decide) (by decide) (c_may_no k.I z) (m_may_no k.2.1.1 hC z)
  · exact k.a (by decide) (by decide) (qx_M_mono (c_may_ok k.I z) (fun r s z => ⟨z.1, k.q z.2.1 rfl kLw_k z.2.2⟩)) (fun s hM hX => qx_M_mono (m_may_ok hX g hC z) (fun r s' z => ⟨z.1, hM.q1 z.2 rfl (fun _ => rfl) rfl⟩))
theorem z_judged {G : qx_G} {n : Nat} {σ : qx_S} (h : zZ n σ) (x : Int32) : zO G YX11_judged YX12_judged [.int x] n σ := by
  obtain ⟨S, nr, Rs, T, J, e, ow, k⟩ := h.k
  have g := k.g
  have hB := k.I.1.2.2.2.1
  exact k.a (by decide) (by decide) (qx_M_mono (c_judged k.I x) (fun r s z => ⟨z.1, k.q z.2.1 rfl kJ_k z.2.2⟩)) (fun s hM hX => qx_M_mono (m_judged hX g hB x) (fun r s' z => ⟨z.1, hM.q z.2.1 rfl z.2.2 ((z.2.1.i _ _ rfl).trans hM.2.2.1)⟩))
theorem z_then {G : qx_G} {n : Nat} {σ : qx_S} (h : zZ n σ) (x : Int32) : zO G YX11_then YX12_then [.int x] n σ := by
  obtain ⟨S, nr, Rs, T, J, e, ow, k⟩ := h.k
  have g := k.g
  have hB := k.I.1.2.2.2.1
  exact k.a (by decide) (by decide) (qx_M_mono (c_then k.I x) (fun r s z => ⟨z.1, k.q z.2.1 rfl kJ_k z.2.2⟩)) (fun s hM hX => qx_M_mono (m_then hX g hB x) (fun r s' z => ⟨z.1, hM.q z.2.1 rfl z.2.2 ((z.2.1.i _ _ rfl).trans hM.2.2.1)⟩))
theorem z_laidOut {G : qx_G} {n : Nat} {σ : qx_S} (h : zZ n σ) (x : Int32) : zO G YX11_laidOut YX12_laidOut [.int x] n σ := by
  obtain ⟨S, nr, Rs, T, J, e, ow, k⟩ := h.k
  have g := k.g
  have hB := k.I.1.2.2.2.1
  have hb12 := hB.2.1
  by_cases z : x = -1
  · subst z
    refine k.a (by decide) (by decide) (qx_M_mono (c_laidOut_m1 k.I) (fun r s z => ⟨z.1, k.q z.2.1 rfl k189_k z.2.2⟩)) (fun s hM hX => qx_M_mono (m_laidOut_ok hM.1 g hB (Or.inl rfl)) (fun r s' z => ⟨?_, hM.q1 z.2 rfl (fun _ => rfl) rfl⟩))
    rw [z.1, if_pos rfl]
  · cases hx : q_is x (s_n S 5) with
    | false => exact zPair0 h (by decide) (by decide) (c_laidOut_no k.I z hx) (m_laidOut_no k.2.1.1 hB z hx)
    | true =>
      have hx2 := hx
      obtain ⟨m, hm, rfl⟩ := q_is_t hx (by omega)
      refine k.a (by decide) (by decide) (qx_M_mono (c_laidOut_ok k.I hm) (fun r s z => ⟨z.1, k.q z.2.1 rfl k189_k z.2.2⟩)) (fun s hM hX => qx_M_mono (m_laidOut_ok hM.1 g hB (Or.inr hx2)) (fun r s' w => ⟨?_, hM.q1 w.2 rfl (fun _ => rfl) rfl⟩))
      rw [w.1, if_neg z, nI_clamp (by omega)]
theorem z_changers {G : qx_G} {n : Nat} {σ : qx_S} (h : zZ n σ) (x w : Int32) : zO G YX11_changers YX12_changers [.int x, .int w] n σ := by
  obtain ⟨S, nr, Rs, T, J, e, ow, k⟩ := h.k
  exact k.a (by decide) (by decide) (qx_M_mono (c_changers k.I x w) (fun r s z => ⟨z.1, k.1.q2 k.2.1 z.2.1 rfl (k.1.1.k z.2.1.k kLw_k z.2.2)⟩)) (fun s hM hX => qx_M_mono (m_changers hX k.g x w) (fun r s' z => ⟨z.1, hM.q1 z.2 rfl (fun _ => rfl) rfl⟩))
