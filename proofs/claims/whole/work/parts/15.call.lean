/-! CALLS -/
theorem qx_good : GoodIn qx_tbl qx_tbl := fun w hw => ⟨hw, good_of_word (List.mem_filter.mp hw).2⟩
/-- every method's code stands in the table -/
def qx_yk (Y : qx_Y) (n : Nat) : Prop := Cond.code Y.1 Y.2.1 Y.2.2.1 Y.2.2.2 ∈ qx_tbl ∧ Y.2.2.1 ≤ 40 ∧ (Y.1.cls ≠ "java/lang/invoke/MethodHandle" ∧ Y.1.cls ≠ "java/lang/invoke/VarHandle" ∧ (parseMethodDescriptor Y.1.desc).map (fun d => d.parameters.length) = some n) ∧ Cond.initialized Y.1.cls ∈ qx_tbl
theorem qx_goodY {Y : qx_Y} {n : Nat} (h : qx_yk Y n) : GoodIn qx_tbl (qx_ws Y) := by
  intro w hw
  rcases List.mem_cons.mp hw with rfl | hw
  · exact qx_good _ h.1
  · exact qx_good _ hw
/-- a call by a link: what the callee's contract gives the caller -/
def qx_run (Y : qx_Y) (own : String) (st : qx_Y → List Value → List Value → List Value) (i : Instr) (pre : State → Heap → List Value → Prop) : Prop :=
  ∀ (p : Program) (l : Launch) (e : Env) (R : Room) (s : State) (m : MethodId) (args : Array Value) (below : List Frame) (meth : Method) (c : Code) (H : Heap) (locs : List Loc) (cells slots mc ms : Nat) (rm : Room) (Pc : Array Value → State → Prop) (Qc : Array Value → State → Outcome → State → Prop) (free : Addr → Prop) (as rest : List Value) (pc : Nat) (lsA : Array Slot),
    p.tables.exec = Jvm.exec → s.vm.findClass own = some m.cls → (∀ w ∈ qx_tbl, w.before args s = true) → qx_ne s → Met l Y.1 (qx_ws Y) rm Pc Qc mc ms free → rm.cells = mc → rm.slots = ms → rm.frames + 1 ≤ R.frames → 8 + (Y.2.2.1 + 11) + rm.locals ≤ R.locals →
    FrameBlind Pc → pre s H as → (∀ U : State, U.heap = H → s.WarmedH U.vm → Pc as.toArray U) → lsA.size = c.maxLocals → (rest.map fun v => v.category).sum ≤ 8 → decode c.code pc = .ok (i, 3) → (cells + mc ≤ R.cells ∧ slots + ms ≤ R.slots) →
    va_Run p l e R s m args below meth c H locs cells slots mc ms (F0 m pc lsA (st Y as rest)) rest (Qc as.toArray) free
def qx_stk (as rest : List Value) : List Value := as.reverse ++ rest
/-- by hand of the kit: a virtual call, the receiver of class C -/
def qx_vok (own : String) (idx n : Nat) (C : String) (Y : qx_Y) : Prop := qx_yk Y n ∧ qx_run Y own (fun _ as rest => qx_stk as rest) (.invokevirtual idx) (fun s H as => as.length = n + 1 ∧ ∃ b r, as = .ref b :: r ∧ ∃ cellB : Cell, H[b]? = some cellB ∧ cellB.vm.isStatics = false ∧ s.vm.findClass C = some cellB.cls)
def qx_iok (own : String) (idx n : Nat) (Y : qx_Y) : Prop := qx_yk Y n ∧ qx_run Y own (fun _ as rest => qx_stk as rest) (.invokespecial idx) (fun _ _ as => as.length = n + 1 ∧ ∃ b r, as = .ref b :: r)
def qx_sok (own : String) (idx n : Nat) (Y : qx_Y) : Prop := qx_yk Y n ∧ qx_run Y own (fun _ as rest => qx_stk as rest) (.invokestatic idx) (fun _ _ as => as.length = n)
theorem qx_vok_V {own : String} {idx n : Nat} {Y : qx_Y} {C : String} (h : qx_yk Y n) (hC : Y.1.cls = C) (h1 : Cond.methodLink own idx Y.1 ∈ qx_tbl) (h2 : Cond.instanceMethod Y.1 ∈ qx_tbl) (h3 : Cond.selects C Y.1 Y.1 ∈ qx_tbl) : qx_vok own idx n C Y := by
  refine ⟨h, fun p l e R s m args below meth c H locs cells slots mc ms rm Pc Qc free as rest pc lsA hx hown hts hne hM hrc hrs hrf hrl hbl hpre hP hsz hsm hd hroom => ?_⟩
  obtain ⟨hlen, b, r, rfl, hcell⟩ := hpre
  have hn : r.length = n := by simpa using hlen
  refine va_runV (cc := c.code) (nL := c.maxLocals) (Ts := qx_tbl) (own := own) (C := C) (As := r) ⟨hx, rfl, rfl, hown, hts⟩ hM (cwV n hts ?_ rfl hrc hrs ⟨hC, h.2.2.1⟩ ⟨hrf, hrl⟩) ⟨hbl, hcell, hP⟩ rfl hn hsz (by simp [qx_stk]) (lv_room hsm) hd hroom
  intro w hw
  unfold wsV at hw
  simp only [List.cons_append, List.nil_append, List.mem_cons] at hw
  rcases hw with rfl | rfl | rfl | rfl | hw
  · exact qx_good _ h1
  · exact qx_good _ h2
  · exact qx_good _ h3
  · exact qx_good _ (hC ▸ h.2.2.2)
  · exact qx_goodY h w hw
theorem qx_vok_N {own host : String} {idx n : Nat} {Y : qx_Y} {C : String} (h : qx_yk Y n) (h1 : Cond.methodLinkNest own idx Y.1 host ∈ qx_nst) (h2 : Cond.instanceMethod Y.1 ∈ qx_tbl) (h3 : Cond.selects C Y.1 Y.1 ∈ qx_tbl) : qx_vok own idx n C Y := by
  refine ⟨h, fun p l e R s m args below meth c H locs cells slots mc ms rm Pc Qc free as rest pc lsA hx hown hts hne hM hrc hrs hrf hrl hbl hpre hP hsz hsm hd hroom => ?_⟩
  obtain ⟨hlen, b, r, rfl, hcell⟩ := hpre
  have hn : r.length = n := by simpa using hlen
  exact va_runVN (cc := c.code) (nL := c.maxLocals) (Ts := qx_tbl) (own := own) (C := C) (As := r) ⟨hx, rfl, rfl, hown, hts⟩ hM ⟨va_cnB n hts (qx_goodY h) rfl hrc hrs (hne.1 _ h1) (hts _ h.2.2.2) h.2.2.1 ⟨hrf, hrl⟩, hts _ h2, hts _ h3⟩ ⟨hbl, hcell, hP⟩ rfl hn hsz (by simp [qx_stk]) (lv_room hsm) hd hroom
theorem qx_iok_I {own : String} {idx n : Nat} {Y : qx_Y} (h : qx_yk Y n) (hr : Y.2.2.2 = none) (hy : Y.1.name = "<init>") (h1 : Cond.methodLink own idx Y.1 ∈ qx_tbl) (h2 : Cond.instanceMethod Y.1 ∈ qx_tbl) : qx_iok own idx n Y := by
  refine ⟨h, fun p l e R s m args below meth c H locs cells slots mc ms rm Pc Qc free as rest pc lsA hx hown hts hne hM hrc hrs hrf hrl hbl hpre hP hsz hsm hd hroom => ?_⟩
  obtain ⟨hlen, b, r, rfl⟩ := hpre
  have hn : r.length = n := by simpa using hlen
  exact va_runI (cc := c.code) (nL := c.maxLocals) (Ts := qx_tbl) (own := own) (As := r) ⟨hx, rfl, rfl, hown, hts⟩ hM (cwI (ws' := qx_tbl) (maxL := Y.2.2.1) (bytes := Y.2.1) n hts (qx_goodY h) (by unfold qx_ws; rw [hr]) hrc hrs (hts _ h.2.2.2) (hts _ h1) (hts _ h2) hy h.2.2.1 ⟨hrf, hrl⟩) ⟨hbl, hP⟩ rfl hn hsz (by simp [qx_stk]) (lv_room hsm) hd hroom
theorem qx_iok_N {own host : String} {idx n : Nat} {Y : qx_Y} (h : qx_yk Y n) (hr : Y.2.2.2 = none) (hy : Y.1.name = "<init>") (h1 : Cond.methodLinkNest own idx Y.1 host ∈ qx_nst) (h2 : Cond.instanceMethod Y.1 ∈ qx_tbl) : qx_iok own idx n Y := by
  refine ⟨h, fun p l e R s m args below meth c H locs cells slots mc ms rm Pc Qc free as rest pc lsA hx hown hts hne hM hrc hrs hrf hrl hbl hpre hP hsz hsm hd hroom => ?_⟩
  obtain ⟨hlen, b, r, rfl⟩ := hpre
  have hn : r.length = n := by simpa using hlen
  exact va_runIN (cc := c.code) (nL := c.maxLocals) (Ts := qx_tbl) (own := own) (As := r) ⟨hx, rfl, rfl, hown, hts⟩ hM ⟨va_cnB (ws' := qx_tbl) (maxL := Y.2.2.1) (bytes := Y.2.1) n hts (qx_goodY h) (by unfold qx_ws; rw [hr]) hrc hrs (hne.1 _ h1) (hts _ h.2.2.2) h.2.2.1 ⟨hrf, hrl⟩, hy, hts _ h2⟩ ⟨hbl, hP⟩ rfl hn hsz (by simp [qx_stk]) (lv_room hsm) hd hroom
theorem qx_sok_S {own : String} {idx n : Nat} {Y : qx_Y} (h : qx_yk Y n) (h1 : Cond.methodLink own idx Y.1 ∈ qx_tbl) (h2 : Cond.static Y.1 ∈ qx_tbl) : qx_sok own idx n Y := by
  refine ⟨h, fun p l e R s m args below meth c H locs cells slots mc ms rm Pc Qc free as rest pc lsA hx hown hts hne hM hrc hrs hrf hrl hbl hpre hP hsz hsm hd hroom => ?_⟩
  have hn : as.length = n := hpre
  exact va_runS (cc := c.code) (nL := c.maxLocals) (Ts := qx_tbl) (own := own) (As := as) ⟨hx, rfl, rfl, hown, hts⟩ hM ⟨callB_of (bytes := Y.2.1) (maxL := Y.2.2.1) (ret := Y.2.2.2) (ws' := qx_tbl) n hts (qx_goodY h) rfl hrc hrs (hts _ h.2.2.2) (hts _ h1) h.2.2.1 ⟨hrf, hrl⟩, hts _ h2⟩ ⟨hbl, hP⟩ rfl hn hsz (by simp [qx_stk]) (lv_room hsm) hd hroom
theorem qx_sok_N {own host : String} {idx n : Nat} {Y : qx_Y} (h : qx_yk Y n) (h1 : Cond.methodLinkNest own idx Y.1 host ∈ qx_nst) (h2 : Cond.static Y.1 ∈ qx_tbl) : qx_sok own idx n Y := by
  refine ⟨h, fun p l e R s m args below meth c H locs cells slots mc ms rm Pc Qc free as rest pc lsA hx hown hts hne hM hrc hrs hrf hrl hbl hpre hP hsz hsm hd hroom => ?_⟩
  have hn : as.length = n := hpre
  exact va_runSN (cc := c.code) (nL := c.maxLocals) (Ts := qx_tbl) (own := own) (As := as) ⟨hx, rfl, rfl, hown, hts⟩ hM ⟨va_cnB (bytes := Y.2.1) (maxL := Y.2.2.1) (ret := Y.2.2.2) (ws' := qx_tbl) n hts (qx_goodY h) rfl hrc hrs (hne.1 _ h1) (hts _ h.2.2.2) h.2.2.1 ⟨hrf, hrl⟩, hts _ h2, trivial⟩ ⟨hbl, hP⟩ rfl hn hsz (by simp [qx_stk]) (lv_room hsm) hd hroom
/-- inherited, or chosen by the receiver's class -/
theorem qx_vok_U {own owner : String} {idx n : Nat} {Y : qx_Y} {C : String} {x : MethodName} (h : qx_yk Y n) (hyx : Y.1 = ⟨owner, x.name, x.desc⟩) (hd : owner ≠ "java/lang/invoke/MethodHandle" ∧ owner ≠ "java/lang/invoke/VarHandle" ∧ (parseMethodDescriptor x.desc).map (fun d => d.parameters.length) = some n) (h1 : Cond.methodLink own idx x ∈ qx_tbl) (h2 : Cond.sameMethod x.cls owner x.name x.desc ∈ qx_tbl) (h3 : Cond.selects C x Y.1 ∈ qx_tbl) (h4 : Cond.instanceMethod Y.1 ∈ qx_tbl) : qx_vok own idx n C Y := by
  refine ⟨h, fun p l e R s m args below meth c H locs cells slots mc ms rm Pc Qc free as rest pc lsA hx hown hts hne hM hrc hrs hrf hrl hbl hpre hP hsz hsm hdg hroom => ?_⟩
  obtain ⟨hlen, b, r, rfl, hcell⟩ := hpre
  have hn : r.length = n := by simpa using hlen
  refine va_runU (cc := c.code) (nL := c.maxLocals) (Ts := qx_tbl) (own := own) (C := C) (As := r) ⟨hx, rfl, rfl, hown, hts⟩ hM (va_cwU (owner := owner) (x := x) n hts ?_ rfl hrc hrs hyx hd ⟨hrf, hrl⟩) ⟨hbl, hcell, hP⟩ rfl hn hsz (by simp [qx_stk]) (lv_room hsm) hdg hroom
  intro w hw
  unfold va_wsU at hw
  simp only [List.cons_append, List.nil_append, List.mem_cons] at hw
  rcases hw with rfl | rfl | rfl | rfl | rfl | hw
  · exact qx_good _ h1
  · exact qx_good _ h2
  · exact qx_good _ h3
  · exact qx_good _ h4
  · exact qx_good _ h.2.2.2
  · exact qx_goodY h w hw
theorem qx_vok_O {own owner : String} {idx n : Nat} {Y : qx_Y} {C : String} {x : MethodName} {b0 : ByteArray} {m0 : Nat} {r0 : Option FieldType} (h : qx_yk Y n) (h0 : Cond.code ⟨owner, x.name, x.desc⟩ b0 m0 r0 ∈ qx_tbl) (hd : owner ≠ "java/lang/invoke/MethodHandle" ∧ owner ≠ "java/lang/invoke/VarHandle" ∧ (parseMethodDescriptor x.desc).map (fun d => d.parameters.length) = some n) (h1 : Cond.methodLink own idx x ∈ qx_tbl) (h2 : Cond.sameMethod x.cls owner x.name x.desc ∈ qx_tbl) (h5 : Cond.instanceMethod ⟨owner, x.name, x.desc⟩ ∈ qx_tbl) (h3 : Cond.selects C x Y.1 ∈ qx_tbl) (h4 : Cond.instanceMethod Y.1 ∈ qx_tbl) : qx_vok own idx n C Y := by
  refine ⟨h, fun p l e R s m args below meth c H locs cells slots mc ms rm Pc Qc free as rest pc lsA hx hown hts hne hM hrc hrs hrf hrl hbl hpre hP hsz hsm hdg hroom => ?_⟩
  obtain ⟨hlen, b, r, rfl, hcell⟩ := hpre
  have hn : r.length = n := by simpa using hlen
  refine va_runU (cc := c.code) (nL := c.maxLocals) (Ts := qx_tbl) (own := own) (C := C) (As := r) ⟨hx, rfl, rfl, hown, hts⟩ hM (va_cwO (owner := owner) (x := x) n hts ?_ rfl hrc hrs h0 hd ⟨hrf, hrl⟩) ⟨hbl, hcell, hP⟩ rfl hn hsz (by simp [qx_stk]) (lv_room hsm) hdg hroom
  intro w hw
  unfold va_wsO at hw
  simp only [List.cons_append, List.nil_append, List.mem_cons] at hw
  rcases hw with rfl | rfl | rfl | rfl | rfl | rfl | hw
  · exact qx_good _ h1
  · exact qx_good _ h2
  · exact qx_good _ h5
  · exact qx_good _ h3
  · exact qx_good _ h4
  · exact qx_good _ h.2.2.2
  · exact qx_goodY h w hw
theorem qx_vok_A {own owner : String} {idx n : Nat} {Y : qx_Y} {C : String} {x : MethodName} (h : qx_yk Y n) (hz : Cond.declares ⟨owner, x.name, x.desc⟩ ∈ qx_nst) (hd : owner ≠ "java/lang/invoke/MethodHandle" ∧ owner ≠ "java/lang/invoke/VarHandle" ∧ (parseMethodDescriptor x.desc).map (fun d => d.parameters.length) = some n) (h1 : Cond.methodLink own idx x ∈ qx_tbl) (h2 : Cond.sameMethod x.cls owner x.name x.desc ∈ qx_tbl) (h3 : Cond.selects C x Y.1 ∈ qx_tbl) (h4 : Cond.instanceMethod Y.1 ∈ qx_tbl) : qx_vok own idx n C Y := by
  refine ⟨h, fun p l e R s m args below meth c H locs cells slots mc ms rm Pc Qc free as rest pc lsA hx hown hts hne hM hrc hrs hrf hrl hbl hpre hP hsz hsm hdg hroom => ?_⟩
  obtain ⟨hlen, b, r, rfl, hcell⟩ := hpre
  have hn : r.length = n := by simpa using hlen
  refine va_runU (cc := c.code) (nL := c.maxLocals) (Ts := qx_tbl) (own := own) (C := C) (As := r) ⟨hx, rfl, rfl, hown, hts⟩ hM (va_cwA (owner := owner) (x := x) n hts ?_ rfl hrc hrs (hne.1 _ hz) hd ⟨hrf, hrl⟩) ⟨hbl, hcell, hP⟩ rfl hn hsz (by simp [qx_stk]) (lv_room hsm) hdg hroom
  intro w hw
  unfold va_wsU at hw
  simp only [List.cons_append, List.nil_append, List.mem_cons] at hw
  rcases hw with rfl | rfl | rfl | rfl | rfl | hw
  · exact qx_good _ h1
  · exact qx_good _ h2
  · exact qx_good _ h3
  · exact qx_good _ h4
  · exact qx_good _ h.2.2.2
  · exact qx_goodY h w hw
