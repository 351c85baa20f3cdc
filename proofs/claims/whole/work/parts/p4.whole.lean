/-! THE CLAIM OUT OF ONE WALK OF THE LAW'S BODY. Your part is whole_start (and what it stands on); all else here is the same for every law, but numbers. -/
def R_law : String := "ChangePlacesLaw"
def lw_P (b : Addr) (xs : List Int32) (args : Array Value) (s : State) : Prop := args = #[.ref b] ∧ s.IntsAt b xs ∧ xs.length ≤ 3072 ∧ (Jvm.Cond.and given_1 narrow_1).before args s = true
def lw_Q (_ : Array Value) (s : State) (o : Outcome) (t : State) : Prop := o = .returned (some (.int 1)) ∧ Framed s o t [] 600000 7302250
def lw_Z (below : List Frame) (a : Array Value) (s : State) : State → Prop := fun t => ∃ o, t.status = .running ∧ Ended t below o ∧ lw_Q a s o t
/-- the law's own end, with 1 on the stack, nothing written that was there before, its room as the claim has it -/
theorem lw_ret {p : Program} {l : Launch} {e : Env} {s : State} {m : MethodId} {below : List Frame} {meth : Method} {c : Code} {b : Nat} (hx : p.tables.exec = Jvm.exec) (hb : c.code = code) (hr : meth.sig.returnType = ret) (hlocks : meth.locks = false) {pc : Nat} {H : Heap} {ls : Array Slot} (hdg : decode code pc = .ok (.ireturn, 1)) : W p l e room_1 s m #[Value.ref b] below meth c H [] 600000 7302250 (lw_Z below #[Value.ref b] s) (F0 m pc ls [.int 1]) := by
  intro T hT X
  obtain ⟨fs, hret, hrun, hended, hW, hframe⟩ := X.leave (v := some (.int 1)) (hlocks := hlocks) (fun h => by rw [hr] at h; cases h)
  have hmeth' : T.vm.method? m = some meth := X.method'
  refine ⟨T.setFrames fs, ?_, .returned (some (.int 1)), hrun, hended, rfl, ⟨_, rfl⟩, hW, hframe⟩
  jvm_step X.here [X.here.top, hx, hb, hdg, hmeth', hr, ret, narrow_b1]
  (try refine ⟨rfl, ?_⟩); (try refine ⟨rfl, ?_⟩)
  first | (intro acts; rw [hret _ acts rfl rfl rfl]) | rw [hret _ _ rfl rfl rfl]
  exact Steps.refl _
/-- what holds at the law's entry: the machine, the code, the tables' words (any of lw_tbl by 'hts w (by decide +kernel)'), the script of L ints xs at the cell b, what the Statement gives of the start (any of its parts by flat_of_before) -/
def lw_At (p : Program) (s : State) (m : MethodId) (meth : Method) (c : Code) (b L : Nat) (xs : Nat → Int32) : Prop :=
  p.tables.exec = Jvm.exec ∧ c.code = code ∧ meth.sig.returnType = ret ∧ c.maxLocals = 4 ∧ s.vm.findClass R_law = some m.cls ∧ (∀ w ∈ lw_tbl, w.before #[Value.ref b] s = true) ∧ va_X b L xs s s.heap ∧ b < s.heap.size ∧ meth.locks = false ∧ (Jvm.Cond.and given_1 narrow_1).before #[Value.ref b] s = true
/-- the memory at the entry: the script alone -/
def z_s0 (L : Nat) (xs : Nat → Int32) : qx_S := (3, 0, fun _ => (77, L), fun _ => xs, fun _ _ => 0, fun _ _ => none)
set_option maxHeartbeats 2000000 in
theorem whole_start {p : Program} {e : Env} {s : State} {m : MethodId} {below : List Frame} {meth : Method} {c : Code} (l : Launch) (hflags : l.flags = flags0) {b L : Nat} {xs : Nat → Int32} (hL : L ≤ 3072) (C0 : lw_At p s m meth c b L xs) : W p l e room_1 s m #[Value.ref b] below meth c s.heap [] 0 0 (lw_Z below #[Value.ref b] s) (entryFrame m ([Value.ref b] : List Value).toArray 4) := by
  obtain ⟨hx, hb, hr, hml, hown, hts, hX, hbl, hlocks, hgv⟩ := C0
  have hq := z_tbl hts
  obtain ⟨D, hD⟩ := z_cls hq
  obtain ⟨cA, hA⟩ := z_tys hts
  obtain ⟨a1, a2, hE, hR1, hO, hI⟩ := z_str hts hgv
  have lt1 : a1 < s.heap.size := by
    obtain ⟨cell, h1, -⟩ := hO
    exact (Array.getElem?_eq_some_iff.mp h1).1
  have lt2 : a2 < s.heap.size := by
    obtain ⟨cell, h1, -⟩ := hI
    exact (Array.getElem?_eq_some_iff.mp h1).1
  have hok := z_ok (l := l) (L := L) (xs := xs) (D := D) (cA := cA) (z_01 hE hX) (z_02 hE hX) (z_12 hE hI) hbl lt1 lt2
  have hK : ∀ (k : Nat) (q : ClassId × FieldType), (qx_tys (z_G l b a1 a2 s.heap.size L xs D cA))[k]? = some q → ArrOfT s q.1 q.2 ∧ va_RA s q.1 q.2 := by
    intro k q hk
    match k, hk with
    | 0, hk => cases hk; exact hA 0 _ rfl
    | 1, hk => cases hk; exact hA 1 _ rfl
    | 2, hk => cases hk; exact hA 2 _ rfl
    | 3, hk => cases hk; exact hA 3 _ rfl
    | 4, hk => cases hk; exact hA 4 _ rfl
    | 5, hk => cases hk; exact hA 5 _ rfl
    | 6, hk => cases hk; exact hA 6 _ rfl
    | 7, hk => cases hk; exact hA 7 _ rfl
    | k + 8, hk => cases hk
  have hR : qx_R (z_G l b a1 a2 s.heap.size L xs D cA) zT0 s (z_s0 L xs) s.heap :=
    ⟨hok, ⟨hD, hK⟩, hX, hO, ⟨⟨hE, hX, hR1⟩, z_ne hts⟩, rfl, Nat.le_refl 3, fun _ _ => rfl, fun a h => absurd (show qx_kd 77 from h) (by unfold qx_kd; omega)⟩
  obtain ⟨r, s', hΦ, n1, n2, hw⟩ := z_start (G := z_G l b a1 a2 s.heap.size L xs D cA) (kStr_of z_gS) (nm := meth.name) z_gX hL (σ := z_s0 L xs) rfl rfl
  obtain ⟨rfl, f1, f2⟩ := hΦ
  have hcx : qx_cx RL (YL_law meth.name) p s m #[Value.ref b] meth c := ⟨hx, hb, hml, hr, hown, hq, hlocks, rfl⟩
  have hl := lv_entry ([.ref b]) (n := 4) (Nat.le_of_ble_eq_true rfl)
  rw [lg_entry_eq]
  have c1 : 0 + (s'.1 - 3) ≤ 600000 := by omega
  have c2 : 0 + (s'.2.1 - 0) ≤ 7302250 := by omega
  have k := hw p e room_1 s m #[Value.ref b] below meth c s.heap [] 0 0 _ hcx (Nat.le_of_ble_eq_true rfl) (Nat.le_of_ble_eq_true rfl) c1 c2 hR (Nat.le_refl _) va_S.rf (qx_en_l (as := [.ref 0]) hl)
  intro T hT X
  obtain ⟨t, g, o, q1, q2, ⟨q3, q4, q5, q6⟩, Ls, q7, q8⟩ := k T hT X
  exact ⟨t, g, o, q1, q2, q3, z_fin q7 q8 c1 c2⟩
