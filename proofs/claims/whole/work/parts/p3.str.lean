/-! THE START: the String, and what stays known -/
theorem z_Zq {C n d : String} {A : Nat → Prop} {U : State} {H : Heap} (h : va_Zq C n d A U H) : ∃ v : Value, (v = .null ∨ ∃ z, v = .ref z) ∧ va_Z C n d v A U H := by
  rcases h with h | ⟨t, h⟩
  · exact ⟨_, Or.inl rfl, h⟩
  · exact ⟨_, Or.inr ⟨t, rfl⟩, h⟩
def z_tm : Term := .string RX9 59
def z_vl : Term := .field (.string RX9 59) "java/lang/String" "value" "[B"
/-- the String's own cells -/
def z_E1 (a1 a2 : Nat) (A : Nat → Prop) (s : State) (H : Heap) : Prop := va_OF "java/lang/String" "coder" "B" (.int 0) a1 A s H ∧ va_OF "java/lang/String" "value" "[B" (.ref a2) a1 A s H ∧ va_T .byte a2 101 (fun j => .int (nI (q_tx j))) A s H ∧ va_Z "java/lang/String" "COMPACT_STRINGS" "Z" (.int 1) A s H ∧ ∃ v : Value, (v = .null ∨ ∃ z, v = .ref z) ∧ va_Z "jdk/internal/util/Preconditions" "SIOOBE_FORMATTER" "Ljava/util/function/BiFunction;" v A s H
/-- all that stays known -/
def z_E (b a1 a2 L : Nat) (xs : Nat → Int32) (A : Nat → Prop) (s : State) (H : Heap) : Prop := z_E1 a1 a2 A s H ∧ va_X b L xs s H ∧ vk_R RX9 59 qx_tx a1 s
theorem z_Ek {b0 b a1 a2 L : Nat} {xs : Nat → Int32} {s : State} {H H1 : Heap} (hb : b < b0) (hq : ∀ q, q < b0 → H1[q]? = H[q]?) (h : z_E b a1 a2 L xs (fun q => b0 ≤ q) s H) : z_E b a1 a2 L xs (fun q => b0 ≤ q) s H1 := by
  have hk : ∀ a : Nat, a < H.size → ¬ (fun q => b0 ≤ q) a → H1[a]? = H[a]? := fun a _ h => hq a (Nat.not_le.mp h)
  obtain ⟨⟨h1, h2, h3, h4, v, h5, h6⟩, h7, h8⟩ := h
  exact ⟨⟨h1.kept hk, h2.kept hk, h3.kept hk, h4.kept hk, v, h5, h6.kept hk⟩, h7.kept (hq b hb), h8⟩
theorem z_Em {b a1 a2 L : Nat} {xs : Nat → Int32} {A : Nat → Prop} {s U : State} {H : Heap} (hW : s.WarmedH U.vm) (h : z_E b a1 a2 L xs A s H) : z_E b a1 a2 L xs A U H := by
  obtain ⟨⟨h1, h2, h3, h4, v, h5, h6⟩, h7, h8⟩ := h
  exact ⟨⟨h1.moved hW.alike, h2.moved hW.alike, h3.moved hW.alike, h4.moved hW.alike, v, h5, h6.moved hW.alike⟩, h7.moved hW.alike, h8.warm hW⟩
theorem z_el : ∀ j, j < 101 → Cond.eq (.elem z_vl (.int (Int32.ofNat j))) (.int (nI (q_tx j))) ∈ flatC (Jvm.Cond.and given_1 narrow_1) := by decide +kernel
theorem z_le : Cond.eq (.length z_vl) (.int (Int32.ofNat 101)) ∈ flatC (Jvm.Cond.and given_1 narrow_1) := by decide +kernel
theorem z_cs : Cond.eq (.static "java/lang/String" "COMPACT_STRINGS" "Z") (.int 1) ∈ flatC (Jvm.Cond.and given_1 narrow_1) := by decide +kernel
theorem z_sf : Cond.isRef (.static "jdk/internal/util/Preconditions" "SIOOBE_FORMATTER" "Ljava/util/function/BiFunction;") ∈ flatC (Jvm.Cond.and given_1 narrow_1) := by decide +kernel
theorem z_ex : Cond.exactly z_tm "java/lang/String" ∈ flatC (Jvm.Cond.and given_1 narrow_1) := by decide +kernel
theorem z_co : Cond.eq (.field z_tm "java/lang/String" "coder" "B") (.int 0) ∈ flatC (Jvm.Cond.and given_1 narrow_1) := by decide +kernel
theorem z_ao : Cond.arrayOf z_vl .byte ∈ flatC (Jvm.Cond.and given_1 narrow_1) := by decide +kernel
/-- a cell of ints alone -/
def z_ints (s : State) (a : Nat) : Prop := ∃ cell : Cell, s.heap[a]? = some cell ∧ ∀ (j : Nat) (v : Value), cell.slots[j]? = some v → ∃ z, v = .int z
theorem z_size {s : State} {args : Array Value} {t : Term} {N : Nat} (hN : N < 2147483648) (hv : (Term.length t).eval args s none [] s = some (.int (Int32.ofNat N))) : ∃ a cell, t.eval args s none [] s = some (.ref a) ∧ s.heap[a]? = some cell ∧ cell.slots.size = N := by
  obtain ⟨a, cell, ht, hat, he⟩ := Term.length_spec hv
  have hsz : cell.slots.size < 2147483648 := by
    simp only [Term.eval, ht, hat, Option.bind_eq_bind, Option.bind_some] at hv
    by_cases hlt : cell.slots.size < 2147483648
    · exact hlt
    · rw [if_neg hlt] at hv
      cases hv
  exact ⟨a, cell, ht, (State.arrayAt?_spec hat).1, nI_eqT hsz hN (Value.int.inj he).symm⟩
set_option maxRecDepth 100000 in
theorem z_str {s : State} {args : Array Value} (hts : ∀ w ∈ lw_tbl, w.before args s = true) (hgv : (Jvm.Cond.and given_1 narrow_1).before args s = true) : ∃ a1 a2 : Nat, z_E1 a1 a2 (fun q => s.heap.size ≤ q) s s.heap ∧ vk_R RX9 59 qx_tx a1 s ∧ va_O "java/lang/String" a1 (fun q => s.heap.size ≤ q) s s.heap ∧ z_ints s a2 := by
  have hs := flat_of_before _ hgv
  have hA : ∀ a : Nat, a < s.heap.size → ¬ (fun q => s.heap.size ≤ q) a := fun a h => Nat.not_le.mpr h
  obtain ⟨a1, c, cA, kA, q1, q2, q3, q4, q5, q6, -⟩ := Cond.exactly_spec (args := args) (first := s) (o := none) (s := s) (idx := []) (t := z_tm) (cls := "java/lang/String") (hs _ z_ex)
  obtain ⟨a2, ht, hT⟩ := va_Tof (f := fun j => .int (nI (q_tx j))) (A := fun q => s.heap.size ≤ q) (by decide : 101 < 2 ^ 31) (hs _ z_ao) (va_eqt (hs _ z_le)) (fun j hj => va_eqt (hs _ (z_el j hj))) hA
  refine ⟨a1, a2, ⟨vk_OFof q1 (va_eqt (hs _ z_co)) hA, vk_OFof q1 ht hA, hT, va_Zof (hts _ (List.mem_append_right _ (qx_j3 (i := 51) rfl))) (hts _ (List.mem_append_right _ (qx_j1 (i := 14) rfl))) (va_eqt (hs _ z_cs)) hA, z_Zq (va_Zqof (hts _ (List.mem_append_right _ (qx_j3 (i := 67) rfl))) (hts _ (List.mem_append_right _ (qx_j1 (i := 16) rfl))) (hs _ z_sf) hA)⟩, vk_R.of (hts _ (List.mem_append_right _ (qx_j3 (i := 41) rfl))) q1, ⟨cA, q3, q5, by rw [q6]; exact q2, hA a1 (Array.getElem?_eq_some_iff.mp q3).1⟩, ?_⟩
  obtain ⟨a, cell, h1, h2, h3⟩ := z_size (by decide) (va_eqt (hs _ z_le))
  cases ht.symm.trans h1
  obtain ⟨cell', e1, -, -, -, -, e6, -⟩ := hT
  cases h2.symm.trans e1
  refine ⟨cell, h2, fun j v hv => ?_⟩
  have hj : j < 101 := by rw [← h3]; exact (Array.getElem?_eq_some_iff.mp hv).1
  exact ⟨_, (Option.some.inj ((e6 j hj).symm.trans hv)).symm⟩
/-- the three addresses are apart -/
theorem z_12 {a1 a2 : Nat} {A : Nat → Prop} {s : State} (h : z_E1 a1 a2 A s s.heap) (h2 : z_ints s a2) : a1 ≠ a2 := by
  intro e
  obtain ⟨-, ⟨cf, k, i, f, cell, -, -, g3, -, g5, -⟩, -⟩ := h
  obtain ⟨cell', k1, k2⟩ := h2
  rw [e, k1] at g3
  cases g3
  obtain ⟨z, hz⟩ := k2 _ _ g5
  cases hz
theorem z_01 {b a1 a2 L : Nat} {xs : Nat → Int32} {A : Nat → Prop} {s : State} (h : z_E1 a1 a2 A s s.heap) (hX : va_X b L xs s s.heap) : b ≠ a1 := by
  intro e
  obtain ⟨-, ⟨cf, k, i, f, cell, -, -, g3, -, g5, -⟩, -⟩ := h
  obtain ⟨scr, k1, -, -, k4, k5⟩ := hX
  rw [← e, k1] at g3
  cases g3
  have hj : f.slot < L := by rw [← k4]; exact (Array.getElem?_eq_some_iff.mp g5).1
  have := (k5 _ hj).symm.trans g5
  cases this
theorem z_02 {b a1 a2 L : Nat} {xs : Nat → Int32} {A : Nat → Prop} {s : State} (h : z_E1 a1 a2 A s s.heap) (hX : va_X b L xs s s.heap) : b ≠ a2 := by
  intro e
  obtain ⟨-, -, ⟨cell, g1, ⟨-, k, g2, comp, g3⟩, -⟩, -⟩ := h
  obtain ⟨scr, k1, ⟨-, k', k2, comp', k3⟩, -⟩ := hX
  rw [← e, k1] at g1
  cases g1
  rw [k2] at g2
  cases g2
  rw [k3] at g3
  cases g3
/-- the address map -/
def z_ad (b a1 a2 b0 : Nat) : Nat → Nat
  | 0 => b
  | 1 => a1
  | 2 => a2
  | n + 3 => b0 + n
theorem z_adI {b a1 a2 b0 : Nat} (h01 : b ≠ a1) (h02 : b ≠ a2) (h12 : a1 ≠ a2) (hb : b < b0) (h1 : a1 < b0) (h2 : a2 < b0) : ∀ x y, z_ad b a1 a2 b0 x = z_ad b a1 a2 b0 y → x = y := by
  intro x y h
  match x, y, h with
  | 0, 0, _ => rfl
  | 0, 1, h => exact absurd (show b = a1 from h) h01
  | 0, 2, h => exact absurd (show b = a2 from h) h02
  | 0, n + 3, h => exact absurd (show b = b0 + n from h) (by omega)
  | 1, 0, h => exact absurd (show a1 = b from h).symm h01
  | 1, 1, _ => rfl
  | 1, 2, h => exact absurd (show a1 = a2 from h) h12
  | 1, n + 3, h => exact absurd (show a1 = b0 + n from h) (by omega)
  | 2, 0, h => exact absurd (show a2 = b from h).symm h02
  | 2, 1, h => exact absurd (show a2 = a1 from h).symm h12
  | 2, 2, _ => rfl
  | 2, n + 3, h => exact absurd (show a2 = b0 + n from h) (by omega)
  | n + 3, 0, h => exact absurd (show b0 + n = b from h) (by omega)
  | n + 3, 1, h => exact absurd (show b0 + n = a1 from h) (by omega)
  | n + 3, 2, h => exact absurd (show b0 + n = a2 from h) (by omega)
  | n + 3, k + 3, h =>
    have : b0 + n = b0 + k := h
    omega
def z_G (l : Launch) (b a1 a2 b0 L : Nat) (xs : Nat → Int32) (D : va_G) (cA : Nat → ClassId) : qx_G := (l, z_ad b a1 a2 b0, b0, D, cA, z_E b a1 a2 L xs (fun q => b0 ≤ q))
theorem z_ok {l : Launch} {b a1 a2 b0 L : Nat} {xs : Nat → Int32} {D : va_G} {cA : Nat → ClassId} (h01 : b ≠ a1) (h02 : b ≠ a2) (h12 : a1 ≠ a2) (hb : b < b0) (h1 : a1 < b0) (h2 : a2 < b0) : qx_ok (z_G l b a1 a2 b0 L xs D cA) := by
  refine ⟨z_adI h01 h02 h12 hb h1 h2, fun a ha => ?_, fun a ha => ?_, fun s U H hW h => z_Em hW h, fun s H H1 hq h => z_Ek hb hq h, fun s H h => h.2.2⟩
  · match a, ha with
    | n + 3, _ =>
      show b0 + n = b0 + (n + 3 - 3)
      omega
  · match a, ha with
    | 0, _ => exact hb
    | 1, _ => exact h1
    | 2, _ => exact h2
theorem z_gS {l : Launch} {b a1 a2 b0 L : Nat} {xs : Nat → Int32} {D : va_G} {cA : Nat → ClassId} : gStr (z_G l b a1 a2 b0 L xs D cA) := fun _ _ h => h.1
theorem z_gX {l : Launch} {b a1 a2 b0 L : Nat} {xs : Nat → Int32} {D : va_G} {cA : Nat → ClassId} : gScr (z_G l b a1 a2 b0 L xs D cA) L xs := fun _ _ h => h.2.1
/-- nothing old was written -/
theorem z_fin {s t : State} {o : Outcome} {Ls : List Loc} {mc ms : Nat} (h : FrameEnd s o t Ls mc ms) (hL : ∀ q ∈ Ls, s.heap.size ≤ q.base) (h1 : mc ≤ 600000) (h2 : ms ≤ 7302250) : Framed s o t [] 600000 7302250 := by
  obtain ⟨hv, hW, e1, e2, e3, e4, e5, e6⟩ := h
  refine ⟨hv, hW, e1, e2, Nat.le_trans e3 (Nat.add_le_add_left h1 _), e4, Nat.le_trans e5 h2, fun a c hc => ?_⟩
  obtain ⟨c', k1, k2, k3, k4⟩ := e6 a c hc
  refine ⟨c', k1, k2, k3, fun i _ => k4 i (fun hm => ?_)⟩
  have g1 := hL _ hm
  have g2 : a < s.heap.size := (Array.getElem?_eq_some_iff.mp hc).1
  exact absurd g1 (Nat.not_le.mpr g2)
