/-! THE START: what is known of the machine -/
/-- a private method is chosen whatever the receiver's class -/
theorem z_sel {C : String} {y z : MethodName} {s : State} {args : Array Value} (hy : y.cls ≠ "java/lang/invoke/MethodHandle" ∧ y.cls ≠ "java/lang/invoke/VarHandle") (hz : z.cls = y.cls) (h1 : (Cond.selects C z z).before args s = true) (hpriv : (Cond.privateMethod y).before args s = true) (hinst : (Cond.instanceMethod y).before args s = true) : (Cond.selects C y y).before args s = true := by
  obtain ⟨c, r, m, hc, -, hm, -, k, hk, hni⟩ := Cond.selects_spec h1
  obtain ⟨mk, methM, hnamed, hmethM, -, -⟩ := Cond.instanceMethod_spec hinst
  have hfound : s.methodFound? y.cls y.name y.desc = some mk := State.methodFound?_of_named hnamed hy
  have hcls : mk.cls = m.cls := Option.some.inj ((findClass_of_methodNamed hnamed).symm.trans (hz ▸ findClass_of_methodNamed hm))
  have hsel : selectMethod {} s.vm c mk = .method mk := selectMethod_private hmethM (Cond.privateMethod_at hpriv mk methM hnamed hmethM)
  simp only [Cond.before, Cond.holds, Cond.value, hc, hfound, hnamed, hsel, hcls, hk]
  simp
  exact hni
set_option maxRecDepth 100000 in
theorem z_tbl {s : State} {args : Array Value} (hts : ∀ w ∈ lw_tbl, w.before args s = true) : ∀ w ∈ qx_tbl, w.before args s = true := by
  have hp : (Cond.privateMethod yX10_wouldLike).before args s = true := (hts _ (List.mem_append_right _ (qx_j5 (i := 149) rfl)))
  have hi : (Cond.instanceMethod yX10_wouldLike).before args s = true := (hts _ (List.mem_append_right _ (qx_j5 (i := 150) rfl)))
  have d0 : yX10_wouldLike.cls ≠ "java/lang/invoke/MethodHandle" ∧ yX10_wouldLike.cls ≠ "java/lang/invoke/VarHandle" := ⟨by decide +kernel, by decide +kernel⟩
  intro w hw
  rcases List.mem_append.mp (List.mem_filter.mp hw).1 with h | h
  · rcases List.mem_cons.mp h with rfl | h
    · exact z_sel (z := yX10_comesTo) d0 rfl (hts _ (List.mem_append_right _ (qx_j5 (i := 155) rfl))) hp hi
    rcases List.mem_cons.mp h with rfl | h
    · exact z_sel (z := yX10_comesTo) d0 rfl (hts _ (List.mem_append_right _ (qx_j5 (i := 156) rfl))) hp hi
    · cases h
  · exact hts w h
set_option maxRecDepth 100000 in
theorem z_ne {s : State} {args : Array Value} (hts : ∀ w ∈ lw_tbl, w.before args s = true) : qx_ne s := by
  refine ⟨fun w hw => ?_, ?_⟩
  · have hf := List.mem_filter.mp hw
    have h := hts w hf.1
    have hn := hf.2
    cases w with
    | fieldLinkNest a b c d e f => exact va_Nw.of rfl h
    | methodLinkNest a b c d => exact va_Nw.of rfl h
    | declares a => exact va_Nw.of rfl h
    | _ => cases hn
  · exact List.forall_mem_cons.mpr ⟨va_AO.of (hts _ (List.mem_append_right _ (qx_j1 (i := 185) rfl))), List.forall_mem_cons.mpr ⟨va_AO.of (hts _ (List.mem_append_right _ (qx_j1 (i := 119) rfl))), List.forall_mem_cons.mpr ⟨va_AO.of (hts _ (List.mem_append_right _ (qx_j1 (i := 165) rfl))), List.forall_mem_cons.mpr ⟨va_AO.of (hts _ (List.mem_append_right _ (qx_j1 (i := 232) rfl))), fun _ h => absurd h List.not_mem_nil⟩⟩⟩⟩
/-- array classes -/
theorem z_arr {s : State} {args : Array Value} {ty : FieldType} (h : (Cond.arrayClass ty).before args s = true) (hty : ∀ cA, s.vm.findClass ("[" ++ ty.toString) = some cA → va_RA s cA ty) : ∃ cA, ArrOfT s cA ty ∧ va_RA s cA ty := by
  obtain ⟨c, k, comp, h1, h2, h3⟩ := Cond.arrayClass_spec h
  exact ⟨c, fun n z => ⟨(fun k h => by cases h), k, h2, comp, h3⟩, hty c h1⟩
theorem z_arrO {s : State} {C : String} (h : va_AO C s) : ∃ cA, ArrOfT s cA (.object C) ∧ va_RA s cA (.object C) := by
  obtain ⟨comp, c, k, h1, -, h3, h4, h5⟩ := Cond.arrayOver_spec h
  exact ⟨c, fun n z => ⟨(fun k h => by cases h), k, h3, comp, h4⟩, k, comp, h3, h4, h1, h5⟩
set_option maxRecDepth 100000 in
/-- classes and array classes by number -/
theorem z_cls {s : State} {args : Array Value} (hq : ∀ w ∈ qx_tbl, w.before args s = true) : ∃ D : va_G, ∀ (c : Nat) (q : vw_C), qx_cls[c]? = some q → u_Kn s q.1 q.2.1 q.2.2 (D.1 c) (D.2 c) := by
  have h0 : ∀ q ∈ qx_cls, ∃ p : ClassId × (Nat → Nat), u_Kn s q.1 q.2.1 q.2.2 p.1 p.2 := by
    have kn : ∀ {C : String} {T : u_T} {N n : Nat}, (∀ w ∈ u_ws C T N, w ∈ qx_tbl) → Cond.instantiable C n ∈ qx_tbl → ∃ p : ClassId × (Nat → Nat), u_Kn s C T N p.1 p.2 := fun h1 h2 => by
      obtain ⟨cC, iS, h⟩ := u_known hq h1 (hq _ h2)
      exact ⟨(cC, iS), h⟩
    exact List.forall_mem_cons.mpr ⟨kn qc_0.2.2.1 t_363, List.forall_mem_cons.mpr ⟨kn qc_1.2.2.1 t_66, List.forall_mem_cons.mpr ⟨kn qc_2.2.2.1 t_234, List.forall_mem_cons.mpr ⟨kn qc_3.2.2.1 t_280, List.forall_mem_cons.mpr ⟨kn qc_4.2.2.1 t_167, List.forall_mem_cons.mpr ⟨kn qc_5.2.2.1 t_382, List.forall_mem_cons.mpr ⟨kn qc_6.2.2.1 t_1130, List.forall_mem_cons.mpr ⟨kn qc_7.2.2.1 t_129, List.forall_mem_cons.mpr ⟨kn qc_8.2.2.1 t_121, List.forall_mem_cons.mpr ⟨kn qc_9.2.2.1 t_31, List.forall_mem_cons.mpr ⟨kn qc_10.2.2.1 t_23, List.forall_mem_cons.mpr ⟨kn qc_11.2.2.1 t_1353, fun _ h => absurd h List.not_mem_nil⟩⟩⟩⟩⟩⟩⟩⟩⟩⟩⟩⟩
  have h1 : ∀ c : Nat, ∃ p : ClassId × (Nat → Nat), ∀ q, qx_cls[c]? = some q → u_Kn s q.1 q.2.1 q.2.2 p.1 p.2 := by
    intro c
    cases hc : qx_cls[c]? with
    | none => exact ⟨(0, fun _ => 0), fun q h => by cases h⟩
    | some q =>
      obtain ⟨p, hp⟩ := h0 q (List.mem_of_getElem? hc)
      exact ⟨p, fun q' h => by cases h; exact hp⟩
  obtain ⟨f, hf⟩ := Classical.axiomOfChoice h1
  exact ⟨(fun c => (f c).1, fun c => (f c).2), hf⟩
def z_tl : List FieldType := [.int, .byte, .boolean, .long, .object RX4, .object RX5, .object RX7, .object RX8]
set_option maxRecDepth 100000 in
theorem z_tys {s : State} {args : Array Value} (hts : ∀ w ∈ lw_tbl, w.before args s = true) : ∃ cA : Nat → ClassId, ∀ (k : Nat) (ty : FieldType), z_tl[k]? = some ty → ArrOfT s (cA k) ty ∧ va_RA s (cA k) ty := by
  have ne := (z_ne hts).2
  have h0 : ∀ ty ∈ z_tl, ∃ cA, ArrOfT s cA ty ∧ va_RA s cA ty :=
    List.forall_mem_cons.mpr ⟨z_arr (hts _ (List.mem_append_right _ (qx_j1 (i := 64) rfl))) (fun _ h => h), List.forall_mem_cons.mpr ⟨z_arr (hts _ (List.mem_append_right _ (qx_j1 (i := 63) rfl))) (fun _ h => h), List.forall_mem_cons.mpr ⟨z_arr (hts _ (List.mem_append_right _ (qx_j2 (i := 182) rfl))) (fun _ h => h), List.forall_mem_cons.mpr ⟨z_arr (hts _ (List.mem_append_right _ (qx_j2 (i := 38) rfl))) (fun _ h => h), List.forall_mem_cons.mpr ⟨z_arrO (ne _ (by simp)), List.forall_mem_cons.mpr ⟨z_arrO (ne _ (by simp)), List.forall_mem_cons.mpr ⟨z_arrO (ne _ (by simp)), List.forall_mem_cons.mpr ⟨z_arrO (ne _ (by simp)), fun _ h => absurd h List.not_mem_nil⟩⟩⟩⟩⟩⟩⟩⟩
  have h1 : ∀ k : Nat, ∃ cA : ClassId, ∀ ty, z_tl[k]? = some ty → ArrOfT s cA ty ∧ va_RA s cA ty := by
    intro k
    cases hc : z_tl[k]? with
    | none => exact ⟨0, fun q h => by cases h⟩
    | some q =>
      obtain ⟨p, hp⟩ := h0 q (List.mem_of_getElem? hc)
      exact ⟨p, fun q' h => by cases h; exact hp⟩
  obtain ⟨f, hf⟩ := Classical.axiomOfChoice h1
  exact ⟨f, hf⟩
