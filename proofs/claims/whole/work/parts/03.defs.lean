/-! LOGICAL MEMORY: (nx, ns, dyn, ints, longs, references) -/
abbrev qx_S : Type := Nat × Nat × (Nat → Nat × Nat) × (Nat → Nat → Int32) × (Nat → Nat → Int64) × (Nat → Nat → Option Nat)
/-- static shapes -/
abbrev qx_T : Type := Nat → Option (Nat × Nat)
/-- global: launch, address map, base, class tables, array classes, what else is known of the start -/
abbrev qx_G : Type := Launch × (Nat → Nat) × Nat × va_G × (Nat → ClassId) × (State → Heap → Prop)
abbrev qx_nx (σ : qx_S) : Nat := σ.1
abbrev qx_ns (σ : qx_S) : Nat := σ.2.1
abbrev qx_dy (σ : qx_S) : Nat → Nat × Nat := σ.2.2.1
abbrev qx_mi (σ : qx_S) : Nat → Nat → Int32 := σ.2.2.2.1
abbrev qx_ml (σ : qx_S) : Nat → Nat → Int64 := σ.2.2.2.2.1
abbrev qx_mr (σ : qx_S) : Nat → Nat → Option Nat := σ.2.2.2.2.2
abbrev qx_ad (G : qx_G) : Nat → Nat := G.2.1
abbrev qx_b (G : qx_G) : Nat := G.2.2.1
abbrev qx_D (G : qx_G) : va_G := G.2.2.2.1
abbrev qx_cA (G : qx_G) : Nat → ClassId := G.2.2.2.2.1
abbrev qx_E (G : qx_G) : State → Heap → Prop := G.2.2.2.2.2
abbrev qx_A (G : qx_G) : Nat → Prop := fun q => qx_b G ≤ q
def qx_up2 {α : Type} (f : Nat → Nat → α) (a j : Nat) (v : α) : Nat → Nat → α := fun a' j' => if a' = a ∧ j' = j then v else f a' j'
def qx_wi (σ : qx_S) (a j : Nat) (v : Int32) : qx_S := (σ.1, σ.2.1, σ.2.2.1, qx_up2 σ.2.2.2.1 a j v, σ.2.2.2.2.1, σ.2.2.2.2.2)
def qx_wl (σ : qx_S) (a j : Nat) (v : Int64) : qx_S := (σ.1, σ.2.1, σ.2.2.1, σ.2.2.2.1, qx_up2 σ.2.2.2.2.1 a j v, σ.2.2.2.2.2)
def qx_wr (σ : qx_S) (a j : Nat) (v : Option Nat) : qx_S := (σ.1, σ.2.1, σ.2.2.1, σ.2.2.2.1, σ.2.2.2.2.1, qx_up2 σ.2.2.2.2.2 a j v)
/-- a new cell of shape q with n slots, all of it zero -/
def qx_al (σ : qx_S) (q : Nat × Nat) (n : Nat) : qx_S := (σ.1 + 1, σ.2.1 + n, va_up σ.2.2.1 σ.1 q, va_up σ.2.2.2.1 σ.1 (fun _ => 0), va_up σ.2.2.2.2.1 σ.1 (fun _ => 0), va_up σ.2.2.2.2.2 σ.1 (fun _ => none))
def qx_sh (T : qx_T) (σ : qx_S) (a : Nat) : Nat × Nat := match T a with
  | some q => q
  | none => σ.2.2.1 a
/-- fields of a class: 0 int, 5 boolean, 1 long, 2 a reference that changes, 3 a link to own address + off, 4 a link to off -/
def qx_ft : List (List (Nat × Nat)) := [[(4, 156), (4, 21), (3, 1), (3, 2), (3, 3), (3, 4), (3, 5)], [(3, 1), (3, 2), (3, 3), (3, 4), (0, 0), (0, 0), (0, 0), (0, 0), (0, 0)], [(4, 16), (4, 21), (3, 1), (3, 2), (3, 3), (2, 0), (2, 0), (2, 0), (0, 0), (5, 0)], [(4, 156), (4, 21), (3, 1), (3, 2), (3, 3), (3, 4), (3, 5), (3, 6), (3, 7), (3, 8), (3, 9), (3, 10), (3, 11), (3, 12), (3, 13), (0, 0), (0, 0), (0, 0), (0, 0)], [(3, 1), (0, 0)], [(3, 1), (3, 2), (3, 3), (3, 4), (3, 5), (0, 0), (0, 0), (0, 0), (5, 0)], [(4, 156), (3, 1), (3, 2), (3, 3), (3, 4), (3, 5), (3, 6), (0, 0), (0, 0), (0, 0)], [(3, 1), (3, 2), (3, 3), (3, 4), (0, 0), (0, 0)], [(3, 1), (3, 6), (3, 11), (3, 12), (3, 14), (3, 15), (0, 0), (0, 0), (0, 0), (0, 0), (0, 0)], [(3, 1), (3, 2), (3, 3), (3, 4), (0, 0), (0, 0), (0, 0), (0, 0)], [(3, 1), (3, 6), (3, 11), (3, 12), (3, 152), (3, 153), (3, 157), (3, 171), (3, 177), (3, 182), (3, 184), (3, 185), (3, 186), (3, 187), (2, 0), (0, 0), (0, 0), (2, 0), (2, 0)], [(3, 1), (0, 0), (0, 0), (3, 2), (3, 3), (3, 4), (3, 5), (3, 6), (0, 0), (0, 0), (0, 0), (0, 0), (0, 0), (0, 0), (0, 0), (3, 7), (0, 0), (3, 8), (0, 0), (3, 9), (3, 10), (0, 0), (0, 0), (3, 11), (0, 0), (3, 12), (3, 13), (0, 0), (3, 14), (3, 15), (3, 16), (3, 17), (3, 18), (3, 19), (0, 0), (0, 0), (0, 0), (3, 20), (3, 21), (3, 22), (3, 23), (3, 24), (3, 25), (3, 26), (3, 27), (0, 0), (0, 0), (0, 0), (3, 28), (3, 29), (1, 0), (3, 30), (3, 31)]]
def qx_fk (ci k : Nat) : Nat × Nat := (qx_ft.getD ci []).getD k (9, 0)
def qx_nf (ci : Nat) : Nat := (qx_ft.getD ci []).length
def qx_fv (G : qx_G) (bt : Bool) (σ : qx_S) (ci a k : Nat) : Value := match (qx_fk ci k).1 with
  | 1 => .long (σ.2.2.2.2.1 a k)
  | 2 => va_rf ((σ.2.2.2.2.2 a k).map (qx_ad G))
  | 3 => if bt = true then .ref (qx_ad G (a + (qx_fk ci k).2)) else va_rf ((σ.2.2.2.2.2 a k).map (qx_ad G))
  | 4 => if bt = true then .ref (qx_ad G (qx_fk ci k).2) else va_rf ((σ.2.2.2.2.2 a k).map (qx_ad G))
  | _ => .int (σ.2.2.2.1 a k)
def qx_pv (G : qx_G) : Value → Value
  | .ref a => .ref (qx_ad G a)
  | v => v
/-- the cell of logical address a, of shape q -/
def qx_at (G : qx_G) (q : Nat × Nat) (σ : qx_S) (a : Nat) (H : Heap) : Prop :=
  if q.1 < 3 then H[qx_ad G a]? = some (vp_cell (qx_cA G q.1) (q.2, .inl (σ.2.2.2.1 a)))
  else if q.1 = 3 then H[qx_ad G a]? = some (vp_cell (qx_cA G 3) (q.2, .inr (.inl (σ.2.2.2.2.1 a))))
  else if q.1 < 8 then H[qx_ad G a]? = some (vp_cell (qx_cA G q.1) (q.2, .inr (.inr (.inr (.inr (fun j => (σ.2.2.2.2.2 a j).map (qx_ad G)))))))
  else if q.1 < 20 then t_OB (qx_ad G a) ((qx_D G).1 (q.1 - 8)) (qx_nf (q.1 - 8)) ((qx_D G).2 (q.1 - 8)) H (fun k => qx_fv G true σ (q.1 - 8) a k)
  else if 40 ≤ q.1 then t_OB (qx_ad G a) ((qx_D G).1 (q.1 - 40)) (qx_nf (q.1 - 40)) ((qx_D G).2 (q.1 - 40)) H (fun k => qx_fv G false σ (q.1 - 40) a k)
  else True
def qx_tys (G : qx_G) : List (ClassId × FieldType) := [(qx_cA G 0, .int), (qx_cA G 1, .byte), (qx_cA G 2, .boolean), (qx_cA G 3, .long), (qx_cA G 4, .object RX4), (qx_cA G 5, .object RX5), (qx_cA G 6, .object RX7), (qx_cA G 7, .object RX8)]
abbrev qx_cls : List vw_C := [(RX0, TX0, 7), (RX1, TX1, 9), (RX2, TX2, 10), (RX3, TX3, 19), (RX4, TX4, 2), (RX5, TX5, 9), (RX6, TX6, 10), (RX7, TX7, 6), (RX8, TX8, 11), (RX9, TX9, 8), (RX11, TX11, 19), (RX12, TX12, 53)]
def qx_tx : String := "person weight home at to wish with other ring owes day moved places bench call bar want if or and not"
/-- the address map, and what else is known stays known -/
def qx_ok (G : qx_G) : Prop := (∀ a b, qx_ad G a = qx_ad G b → a = b) ∧ (∀ a, 3 ≤ a → qx_ad G a = qx_b G + (a - 3)) ∧ (∀ a, a < 3 → qx_ad G a < qx_b G) ∧
  (∀ (s U : State) (H : Heap), s.WarmedH U.vm → qx_E G s H → qx_E G U H) ∧ (∀ (s : State) (H H1 : Heap), (∀ q, q < qx_b G → H1[q]? = H[q]?) → qx_E G s H → qx_E G s H1) ∧ (∀ (s : State) (H : Heap), qx_E G s H → vk_R RX9 59 qx_tx (qx_ad G 1) s)
def qx_kd (k : Nat) : Prop := k < 20 ∨ (40 ≤ k ∧ k < 60)
def qx_H (G : qx_G) (T : qx_T) (σ : qx_S) (H : Heap) : Prop := H.size + 3 = qx_b G + σ.1 ∧ 3 ≤ σ.1 ∧ (∀ a, σ.1 ≤ a → T a = none) ∧ ∀ a, qx_kd (qx_sh T σ a).1 → 3 ≤ a ∧ a < σ.1 ∧ qx_at G (qx_sh T σ a) σ a H
/-- words on nest mates, and that there are arrays over some classes -/
def qx_isN : Cond → Bool
  | .fieldLinkNest .. => true
  | .methodLinkNest .. => true
  | .declares _ => true
  | _ => false
def qx_nst : List Cond := lw_tbl.filter qx_isN
def qx_ne (s : State) : Prop := (∀ w ∈ qx_nst, va_Nw w s) ∧ ∀ C ∈ [RX4, RX5, RX7, RX8], va_AO C s
def qx_R (G : qx_G) (T : qx_T) (s : State) (σ : qx_S) (H : Heap) : Prop := qx_ok G ∧ va_K (qx_D G) qx_cls (qx_tys G) s ∧ va_X (qx_ad G 0) (qx_sh T σ 0).2 (σ.2.2.2.1 0) s H ∧ va_O "java/lang/String" (qx_ad G 1) (qx_A G) s H ∧ (qx_E G s H ∧ qx_ne s) ∧ qx_H G T σ H
/-- the words that every method has -/
def qx_xs : List Cond := [.selects RX0 yX10_wouldLike yX10_wouldLike, .selects RX3 yX10_wouldLike yX10_wouldLike]
def qx_tbl : List Cond := (qx_xs ++ lw_tbl).filter goodWord
/-- a method: name, bytes, locals, answer -/
abbrev qx_Y : Type := MethodName × ByteArray × Nat × Option FieldType
def qx_ws (Y : qx_Y) : List Cond := Cond.code Y.1 Y.2.1 Y.2.2.1 Y.2.2.2 :: qx_tbl
def qx_rm (d : Nat) (σ σ' : qx_S) : Room := { frames := d + 1, cells := σ'.1 - σ.1, slots := σ'.2.1 - σ.2.1, locals := 64 * (d + 1) }
/-- the script stays -/
def qx_sc (T : qx_T) (σ σ' : qx_S) : Prop := qx_sh T σ' 0 = qx_sh T σ 0 ∧ σ'.2.2.2.1 0 = σ.2.2.2.1 0
def qx_Q (G : qx_G) (T : qx_T) (σ : qx_S) (r : Option Value) (σ' : qx_S) : Array Value → State → Outcome → State → Prop := fun _ st oc t => oc = .returned (r.map (qx_pv G)) ∧ qx_H G T σ' t.heap ∧ va_F (qx_A G) st t ∧ qx_sc T σ σ'
def qx_P (G : qx_G) (T : qx_T) (as : List Value) (σ : qx_S) : Array Value → State → Prop := va_Pc (as.map (qx_pv G)) (fun U => qx_R G T U σ U.heap)
/-- BIG STEP: method Y from sg with the arguments to sg' with the answer r, in d frames -/
def qx_B (G : qx_G) (T : qx_T) (d : Nat) (Y : qx_Y) (as : List Value) (σ : qx_S) (r : Option Value) (σ' : qx_S) : Prop :=
  σ.1 ≤ σ'.1 ∧ σ.2.1 ≤ σ'.2.1 ∧ Met G.1 Y.1 (qx_ws Y) (qx_rm d σ σ') (qx_P G T as σ) (qx_Q G T σ r σ') (σ'.1 - σ.1) (σ'.2.1 - σ.2.1) (qx_A G)
abbrev qx_F : Type := Option Value → qx_S → Prop
/-- a method's contract -/
def qx_M (G : qx_G) (T : qx_T) (d : Nat) (Y : qx_Y) (as : List Value) (σ : qx_S) (Φ : qx_F) : Prop := ∃ r σ', Φ r σ' ∧ qx_B G T d Y as σ r σ'
/-- the machine in a method's body -/
def qx_cx (own : String) (Y : qx_Y) (p : Program) (s : State) (m : MethodId) (args : Array Value) (meth : Method) (c : Code) : Prop :=
  p.tables.exec = Jvm.exec ∧ c.code = Y.2.1 ∧ c.maxLocals = Y.2.2.1 ∧ meth.sig.returnType = Y.2.2.2 ∧ s.vm.findClass own = some m.cls ∧ (∀ w ∈ qx_tbl, w.before args s = true) ∧ meth.locks = false ∧ meth.name = Y.1.name
/-- locals: a value at each place; retAddr 0 where nothing is known -/
def qx_l (G : qx_G) (lsA : Array Slot) (n : Nat) (ls : List Value) : Prop := lsA.size = n ∧ lv_wf lsA ∧ ls.length = n ∧ ∀ (i : Nat) (v : Value), ls[i]? = some v → v = .retAddr 0 ∨ lsA[i]? = some (.val (qx_pv G v))
/-- BLOCK: from a program counter in the method's body to its end -/
def qx_K (G : qx_G) (T : qx_T) (d : Nat) (own : String) (Y : qx_Y) (pc : Nat) (ls st : List Value) (σ : qx_S) (Φ : qx_F) : Prop :=
  ∃ r σ', Φ r σ' ∧ σ.1 ≤ σ'.1 ∧ σ.2.1 ≤ σ'.2.1 ∧ ∀ (p : Program) (e : Env) (R : Room) (s : State) (m : MethodId) (args : Array Value) (below : List Frame) (meth : Method) (c : Code) (H : Heap) (locs : List Loc) (cells slots : Nat) (lsA : Array Slot),
    qx_cx own Y p s m args meth c → d + 1 ≤ R.frames → 64 * (d + 1) ≤ R.locals → cells + (σ'.1 - σ.1) ≤ R.cells → slots + (σ'.2.1 - σ.2.1) ≤ R.slots → qx_R G T s σ H → qx_b G ≤ s.heap.size → va_S (qx_A G) s.heap H locs → qx_l G lsA Y.2.2.1 ls →
    W p G.1 e R s m args below meth c H locs cells slots (MQ below (qx_Q G T σ r σ') args s (cells + (σ'.1 - σ.1)) (slots + (σ'.2.1 - σ.2.1)) (qx_A G)) (F0 m pc lsA (st.map (qx_pv G)))
/-! THE CONDITIONS OF A STRETCH -/
/-- links of a class file's pool: (tag, k, classes, number, methods by the receiver's class) -/
abbrev qx_L : Type := Nat × Nat × List Nat × Int × List (Nat × qx_Y)
def qx_lk (l : List (Nat × qx_L)) (i : Nat) : qx_L := match l with
  | [] => (99, 0, [], 0, [])
  | q :: r => cond (Nat.beq q.1 i) q.2 (qx_lk r i)
def qx_cd (l : List (Nat × Instr × Nat)) (pc : Nat) : Option (Instr × Nat) := match l with
  | [] => none
  | q :: r => cond (Nat.beq q.1 pc) (some q.2) (qx_cd r pc)
def qx_in (l : List Nat) (i : Nat) : Bool := match l with
  | [] => false
  | q :: r => cond (Nat.beq q i) true (qx_in r i)
def qx_c (n : Int) : Int32 := match n with
  | .ofNat k => nI k
  | .negSucc k => Int32.ofInt (.negSucc k)
def qx_ld (ls : List Value) (k : Nat) : Value := match ls, k with
  | [], _ => .retAddr 0
  | v :: _, 0 => v
  | _ :: r, k + 1 => qx_ld r k
def qx_w (v : Value) : Value := match v with
  | .long _ => .retAddr 0
  | .double _ => .retAddr 0
  | u => u
def qx_s0 (ls : List Value) (v : Value) : List Value := match ls with
  | [] => []
  | _ :: r => v :: r
def qx_s1 (ls : List Value) (k : Nat) (v : Value) : List Value := match ls, k with
  | [], _ => []
  | _ :: r, 0 => v :: r
  | u :: r, 1 => qx_w u :: qx_s0 r v
  | u :: r, k + 2 => u :: qx_s1 r (k + 1) v
def qx_t0 (ls : List Value) (v : Value) : List Value := match ls with
  | [] => []
  | [_] => [v]
  | _ :: _ :: r => v :: .retAddr 0 :: r
def qx_s2 (ls : List Value) (k : Nat) (v : Value) : List Value := match ls, k with
  | [], _ => []
  | ls, 0 => qx_t0 ls v
  | u :: r, 1 => qx_w u :: qx_t0 r v
  | u :: r, k + 2 => u :: qx_s2 r (k + 1) v
def qx_tgt (pc : Nat) (off : Int) : Nat := ((pc : Int) + off).toNat
abbrev qx_k : Type := Nat → List Value → List Value → qx_S → Prop
/-- a branch -/
def qx_if (c : ClassFile.Cond) (x y : Int32) (A B : Prop) : Prop := match c with
  | .eq => (x = y → A) ∧ (¬ x = y → B)
  | .ne => (¬ x = y → A) ∧ (x = y → B)
  | .lt => (x < y → A) ∧ (¬ x < y → B)
  | .ge => (y ≤ x → A) ∧ (¬ y ≤ x → B)
  | .gt => (y < x → A) ∧ (¬ y < x → B)
  | .le => (x ≤ y → A) ∧ (¬ x ≤ y → B)
/-- the receiver's kind: an object of one of the classes, made or in the making -/
def qx_ob (cs : List Nat) (k : Nat) : Bool := match cs with
  | [] => false
  | ci :: r => cond (Nat.beq k (8 + ci)) true (cond (Nat.beq k (40 + ci)) true (qx_ob r k))
def qx_obB (cs : List Nat) (k : Nat) : Bool := match cs with
  | [] => false
  | ci :: r => cond (Nat.beq k (8 + ci)) true (qx_obB r k)
def qx_obU (cs : List Nat) (k : Nat) : Bool := match cs with
  | [] => false
  | ci :: r => cond (Nat.beq k (40 + ci)) true (qx_obU r k)
def qx_cs (l : List Value) : Nat := match l with
  | [] => 0
  | v :: r => v.category + qx_cs r
/-- a reference that changes: null, or a cell -/
def qx_rr (r : Option Nat) (K : Value → Prop) : Prop := (r = none → K .null) ∧ ∀ x, r = some x → K (.ref x)
def qx_get (T : qx_T) (e : qx_L) (κ : Value → Prop) (a : Nat) (σ : qx_S) : Prop := match e.1 with
  | 0 => match (qx_fk (e.2.2.1.headD 0) e.2.1).1 with
    | 0 => cond (qx_ob e.2.2.1 (qx_sh T σ a).1) (κ (.int (σ.2.2.2.1 a e.2.1))) False
    | 5 => cond (qx_ob e.2.2.1 (qx_sh T σ a).1) (κ (.int (σ.2.2.2.1 a e.2.1))) False
    | 1 => cond (qx_ob e.2.2.1 (qx_sh T σ a).1) (κ (.long (σ.2.2.2.2.1 a e.2.1))) False
    | 2 => cond (qx_ob e.2.2.1 (qx_sh T σ a).1) (qx_rr (σ.2.2.2.2.2 a e.2.1) κ) False
    | 3 => cond (qx_obB e.2.2.1 (qx_sh T σ a).1) (κ (.ref (a + (qx_fk (e.2.2.1.headD 0) e.2.1).2))) False
    | 4 => cond (qx_obB e.2.2.1 (qx_sh T σ a).1) (κ (.ref (qx_fk (e.2.2.1.headD 0) e.2.1).2)) False
    | _ => False
  | 10 => cond (qx_obU e.2.2.1 (qx_sh T σ a).1) (qx_rr (σ.2.2.2.2.2 a e.2.1) κ) False
  | _ => False
def qx_put (T : qx_T) (e : qx_L) (κ : qx_S → Prop) (a : Nat) (v : Value) (σ : qx_S) : Prop := match e.1 with
  | 0 => match (qx_fk (e.2.2.1.headD 0) e.2.1).1, v with
    | 0, .int x => cond (qx_ob e.2.2.1 (qx_sh T σ a).1) (κ (qx_wi σ a e.2.1 x)) False
    | 5, .int x => cond (qx_ob e.2.2.1 (qx_sh T σ a).1) ((x = 0 ∨ x = 1) ∧ κ (qx_wi σ a e.2.1 x)) False
    | 1, .long x => cond (qx_ob e.2.2.1 (qx_sh T σ a).1) (κ (qx_wl σ a e.2.1 x)) False
    | 2, .null => cond (qx_ob e.2.2.1 (qx_sh T σ a).1) (κ (qx_wr σ a e.2.1 none)) False
    | 2, .ref x => cond (qx_ob e.2.2.1 (qx_sh T σ a).1) (κ (qx_wr σ a e.2.1 (some x))) False
    | _, _ => False
  | 10 => match v with
    | .ref x => cond (qx_obU e.2.2.1 (qx_sh T σ a).1) (κ (qx_wr σ a e.2.1 (some x))) False
    | _ => False
  | _ => False
/-- n arguments off the stack, the first first -/
def qx_pop (n : Nat) (st as : List Value) : Option (List Value × List Value) := match n, st with
  | 0, st => some (as, st)
  | _ + 1, [] => none
  | n + 1, v :: r => qx_pop n r (v :: as)
abbrev qx_ca : Type := qx_Y → List Value → qx_S → qx_F → Prop
def qx_virt (T : qx_T) (call : qx_ca) (ys : List (Nat × qx_Y)) (a : Nat) (as : List Value) (σ : qx_S) (κ : Option Value → qx_S → Prop) : Prop := match ys with
  | [] => False
  | [y] => cond (Nat.beq (qx_sh T σ a).1 (8 + y.1)) (call y.2 (.ref a :: as) σ κ) False
  | y :: r => (Nat.beq (qx_sh T σ a).1 (8 + y.1) = true ∧ call y.2 (.ref a :: as) σ κ) ∨ qx_virt T call r a as σ κ
def qx_iv1 (T : qx_T) (call : qx_ca) (e : qx_L) (st : List Value) (σ : qx_S) (κ : List Value → qx_S → Prop) : Prop := match qx_pop e.2.1 st [] with
  | some (as, .ref a :: rest) => cond (Nat.ble (qx_cs rest) 8) (qx_virt T call e.2.2.2.2 a as σ (fun r σ1 => κ (r.toList ++ rest) σ1)) False
  | _ => False
def qx_iv2 (T : qx_T) (call : qx_ca) (e : qx_L) (st : List Value) (σ : qx_S) (κ : List Value → qx_S → Prop) : Prop := match qx_pop e.2.1 st [], e.2.2.2.2 with
  | some (as, .ref a :: rest), [y] => cond (Nat.ble (qx_cs rest) 8) (call y.2 (.ref a :: as) σ (fun r σ1 => κ (r.toList ++ rest) σ1)) False
  | _, _ => False
def qx_iv3 (T : qx_T) (call : qx_ca) (e : qx_L) (st : List Value) (σ : qx_S) (κ : List Value → qx_S → Prop) : Prop := match qx_pop e.2.1 st [], e.2.2.2.2 with
  | some (as, rest), [y] => cond (Nat.ble (qx_cs rest) 8) (call y.2 as σ (fun r σ1 => κ (r.toList ++ rest) σ1)) False
  | _, _ => False
def qx_iv4 (T : qx_T) (call : qx_ca) (e : qx_L) (st : List Value) (σ : qx_S) (κ : List Value → qx_S → Prop) : Prop := match st with
  | .ref a :: rest => cond (Nat.ble (qx_cs rest) 8) (κ rest σ) False
  | _ => False
def qx_iv11 (T : qx_T) (call : qx_ca) (e : qx_L) (st : List Value) (σ : qx_S) (κ : List Value → qx_S → Prop) : Prop := match st with
  | .int n :: .int dp :: .ref d :: .int sp :: .ref s :: rest => cond (Nat.beq (qx_sh T σ s).1 0) (cond (Nat.beq (qx_sh T σ d).1 0) (cond (Nat.ble (qx_cs rest) 8) (¬ s = d ∧ ¬ n < 0 ∧ ¬ sp < 0 ∧ ¬ dp < 0 ∧ sp.toNatClampNeg + n.toNatClampNeg ≤ (qx_sh T σ s).2 ∧ dp.toNatClampNeg + n.toNatClampNeg ≤ (qx_sh T σ d).2 ∧
        κ rest (σ.1, σ.2.1, σ.2.2.1, va_up σ.2.2.2.1 d (va_cpy (σ.2.2.2.1 s) (σ.2.2.2.1 d) sp.toNatClampNeg dp.toNatClampNeg n.toNatClampNeg), σ.2.2.2.2.1, σ.2.2.2.2.2)) False) False) False
  | _ => False
def qx_iv12 (T : qx_T) (call : qx_ca) (e : qx_L) (st : List Value) (σ : qx_S) (κ : List Value → qx_S → Prop) : Prop := match st with
  | .int y :: .int x :: rest => cond (Nat.ble (qx_cs rest) 8) (κ (.int (if x < y then y else x) :: rest) σ) False
  | _ => False
def qx_iv13 (T : qx_T) (call : qx_ca) (e : qx_L) (st : List Value) (σ : qx_S) (κ : List Value → qx_S → Prop) : Prop := match st with
  | .int y :: .int x :: rest => cond (Nat.ble (qx_cs rest) 8) (κ (.int (if y < x then y else x) :: rest) σ) False
  | _ => False
def qx_iv14 (T : qx_T) (call : qx_ca) (e : qx_L) (st : List Value) (σ : qx_S) (κ : List Value → qx_S → Prop) : Prop := match st with
  | .long y :: .long x :: rest => cond (Nat.ble (qx_cs rest) 8) (κ (.long (if y < x then x else y) :: rest) σ) False
  | _ => False
def qx_iv15 (T : qx_T) (call : qx_ca) (e : qx_L) (st : List Value) (σ : qx_S) (κ : List Value → qx_S → Prop) : Prop := match st with
  | .long y :: .long x :: rest => cond (Nat.ble (qx_cs rest) 8) (κ (.long (if y < x then y else x) :: rest) σ) False
  | _ => False
def qx_inv (T : qx_T) (call : qx_ca) (e : qx_L) (st : List Value) (σ : qx_S) (κ : List Value → qx_S → Prop) : Prop := match e.1 with
  | 1 => qx_iv1 T call e st σ κ
  | 2 => qx_iv2 T call e st σ κ
  | 3 => qx_iv3 T call e st σ κ
  | 4 => qx_iv4 T call e st σ κ
  | 11 => qx_iv11 T call e st σ κ
  | 12 => qx_iv12 T call e st σ κ
  | 13 => qx_iv13 T call e st σ κ
  | 14 => qx_iv14 T call e st σ κ
  | 15 => qx_iv15 T call e st σ κ
  | _ => False
def qx_ret (ty : Option FieldType) (Φ : qx_F) (x : Int32) (σ : qx_S) : Prop := match ty with
  | some .int => Φ (some (.int x)) σ
  | some .boolean => (x = 0 ∨ x = 1) ∧ Φ (some (.int x)) σ
  | _ => False
def qx_lda (v : Value) (K : Value → Prop) : Prop := match v with
  | .ref a => K (.ref a)
  | .null => K .null
  | _ => False
def qx_ldi (v : Value) (K : Value → Prop) : Prop := match v with
  | .int a => K (.int a)
  | _ => False
def qx_ldl (v : Value) (K : Value → Prop) : Prop := match v with
  | .long a => K (.long a)
  | _ => False
def qx_sta (st : List Value) (K : Value → List Value → Prop) : Prop := match st with
  | .ref a :: r => K (.ref a) r
  | .null :: r => K .null r
  | _ => False
def qx_sti (st : List Value) (K : Value → List Value → Prop) : Prop := match st with
  | .int a :: r => K (.int a) r
  | _ => False
def qx_stl (st : List Value) (K : Value → List Value → Prop) : Prop := match st with
  | .long a :: r => K (.long a) r
  | _ => False
def qx_i2 (st : List Value) (K : Int32 → Int32 → List Value → Prop) : Prop := match st with
  | .int y :: .int x :: r => K x y r
  | _ => False
def qx_l2 (st : List Value) (K : Int64 → Int64 → List Value → Prop) : Prop := match st with
  | .long y :: .long x :: r => K x y r
  | _ => False
def qx_lsw (ps : List (Int × Int)) (d : Int) (x : Int32) (K : Int → Prop) : Prop := match ps with
  | [] => K d
  | (k, o) :: r => (x = qx_c k → K o) ∧ (¬ x = qx_c k → qx_lsw r d x K)
def qx_tsw (offs : List Int) (lo d : Int) (x : Int32) (K : Int → Prop) : Prop := match offs with
  | [] => K d
  | o :: r => (x = qx_c lo → K o) ∧ (¬ x = qx_c lo → qx_tsw r (lo + 1) d x K)
def qx_akd (t : ArrayType) : Nat := match t with
  | .int => 0
  | .byte => 1
  | .boolean => 2
  | .long => 3
  | _ => 77
/-- one instruction; sc: arrays that are read are the script -/
def qx_step (T : qx_T) (sc : Bool) (call : qx_ca) (ty : Option FieldType) (lk : List (Nat × qx_L)) (Φ : qx_F) (κ : qx_k) (i : Instr) (pc len : Nat) (ls st : List Value) (σ : qx_S) : Prop := match i with
  | .aload k => qx_lda (qx_ld ls k) (fun v => κ (pc + len) ls (v :: st) σ)
  | .aload_n k => qx_lda (qx_ld ls k.val) (fun v => κ (pc + len) ls (v :: st) σ)
  | .iload k => qx_ldi (qx_ld ls k) (fun v => κ (pc + len) ls (v :: st) σ)
  | .iload_n k => qx_ldi (qx_ld ls k.val) (fun v => κ (pc + len) ls (v :: st) σ)
  | .lload k => qx_ldl (qx_ld ls k) (fun v => κ (pc + len) ls (v :: st) σ)
  | .lload_n k => qx_ldl (qx_ld ls k.val) (fun v => κ (pc + len) ls (v :: st) σ)
  | .astore k => qx_sta st (fun v r => κ (pc + len) (qx_s1 ls k v) r σ)
  | .astore_n k => qx_sta st (fun v r => κ (pc + len) (qx_s1 ls k.val v) r σ)
  | .istore k => qx_sti st (fun v r => κ (pc + len) (qx_s1 ls k v) r σ)
  | .istore_n k => qx_sti st (fun v r => κ (pc + len) (qx_s1 ls k.val v) r σ)
  | .lstore k => qx_stl st (fun v r => κ (pc + len) (qx_s2 ls k v) r σ)
  | .lstore_n k => qx_stl st (fun v r => κ (pc + len) (qx_s2 ls k.val v) r σ)
  | .iinc k n => match qx_ld ls k with
    | .int x => κ (pc + len) (qx_s1 ls k (.int (x + qx_c n))) st σ
    | _ => False
  | .iconst n => κ (pc + len) ls (.int (qx_c n) :: st) σ
  | .bipush n => κ (pc + len) ls (.int (qx_c n) :: st) σ
  | .sipush n => κ (pc + len) ls (.int (qx_c n) :: st) σ
  | .lconst n => κ (pc + len) ls (.long (lN n.val) :: st) σ
  | .aconst_null => κ (pc + len) ls (.null :: st) σ
  | .ldc k => match (qx_lk lk k).1 with
    | 6 => κ (pc + len) ls (.int (qx_c (qx_lk lk k).2.2.2.1) :: st) σ
    | 18 => κ (pc + len) ls (.ref 1 :: st) σ
    | _ => False
  | .ldc_w k => cond (Nat.beq (qx_lk lk k).1 6) (κ (pc + len) ls (.int (qx_c (qx_lk lk k).2.2.2.1) :: st) σ) False
  | .ldc2_w k => cond (Nat.beq (qx_lk lk k).1 7) (κ (pc + len) ls (.long (Int64.ofInt (qx_lk lk k).2.2.2.1) :: st) σ) False
  | .iadd => qx_i2 st (fun x y r => κ (pc + len) ls (.int (x + y) :: r) σ)
  | .isub => qx_i2 st (fun x y r => κ (pc + len) ls (.int (x - y) :: r) σ)
  | .imul => qx_i2 st (fun x y r => κ (pc + len) ls (.int (x * y) :: r) σ)
  | .idiv => qx_i2 st (fun x y r => ¬ y = 0 ∧ κ (pc + len) ls (.int (x / y) :: r) σ)
  | .irem => qx_i2 st (fun x y r => ¬ y = 0 ∧ κ (pc + len) ls (.int (x - x / y * y) :: r) σ)
  | .iand => qx_i2 st (fun x y r => κ (pc + len) ls (.int (x &&& y) :: r) σ)
  | .ior => qx_i2 st (fun x y r => κ (pc + len) ls (.int (x ||| y) :: r) σ)
  | .ixor => qx_i2 st (fun x y r => κ (pc + len) ls (.int (x ^^^ y) :: r) σ)
  | .ishl => qx_i2 st (fun x y r => κ (pc + len) ls (.int (x <<< (y &&& 31)) :: r) σ)
  | .ishr => qx_i2 st (fun x y r => κ (pc + len) ls (.int (x >>> (y &&& 31)) :: r) σ)
  | .iushr => qx_i2 st (fun x y r => κ (pc + len) ls (.int (x.toUInt32 >>> (y.toUInt32 &&& Int32.toUInt32 31)).toInt32 :: r) σ)
  | .ineg => qx_sti st (fun v r => match v with
    | .int x => κ (pc + len) ls (.int (-x) :: r) σ
    | _ => False)
  | .i2l => match st with
    | .int x :: r => κ (pc + len) ls (.long x.toInt64 :: r) σ
    | _ => False
  | .l2i => match st with
    | .long x :: r => κ (pc + len) ls (.int x.toInt32 :: r) σ
    | _ => False
  | .i2b => match st with
    | .int x :: r => κ (pc + len) ls (.int x.toInt8.toInt32 :: r) σ
    | _ => False
  | .ladd => qx_l2 st (fun x y r => κ (pc + len) ls (.long (x + y) :: r) σ)
  | .lsub => qx_l2 st (fun x y r => κ (pc + len) ls (.long (x - y) :: r) σ)
  | .lmul => qx_l2 st (fun x y r => κ (pc + len) ls (.long (x * y) :: r) σ)
  | .ldiv => qx_l2 st (fun x y r => ¬ y = 0 ∧ κ (pc + len) ls (.long (x / y) :: r) σ)
  | .lrem => qx_l2 st (fun x y r => ¬ y = 0 ∧ κ (pc + len) ls (.long (x - x / y * y) :: r) σ)
  | .land => qx_l2 st (fun x y r => κ (pc + len) ls (.long (x &&& y) :: r) σ)
  | .lor => qx_l2 st (fun x y r => κ (pc + len) ls (.long (x ||| y) :: r) σ)
  | .lshl => match st with
    | .int y :: .long x :: r => κ (pc + len) ls (.long (x <<< (y.toInt64 &&& 63)) :: r) σ
    | _ => False
  | .lcmp => qx_l2 st (fun x y r => κ (pc + len) ls (.int (lg_cmp x y) :: r) σ)
  | .dup => match st with
    | v :: r => cond (Nat.beq v.category 1) (κ (pc + len) ls (v :: v :: r) σ) False
    | _ => False
  | .dup2 => match st with
    | v :: u :: r => cond (Nat.beq v.category 1) (cond (Nat.beq u.category 1) (κ (pc + len) ls (v :: u :: v :: u :: r) σ) False) False
    | _ => False
  | .pop => match st with
    | v :: r => cond (Nat.beq v.category 1) (κ (pc + len) ls r σ) False
    | _ => False
  | .goto o => κ (qx_tgt pc o) ls st σ
  | .ifCond c o => match st with
    | .int x :: r => qx_if c x 0 (κ (qx_tgt pc o) ls r σ) (κ (pc + len) ls r σ)
    | _ => False
  | .if_icmp c o => match st with
    | .int y :: .int x :: r => qx_if c x y (κ (qx_tgt pc o) ls r σ) (κ (pc + len) ls r σ)
    | _ => False
  | .ifnull o => match st with
    | .null :: r => κ (qx_tgt pc o) ls r σ
    | .ref _ :: r => κ (pc + len) ls r σ
    | _ => False
  | .ifnonnull o => match st with
    | .null :: r => κ (pc + len) ls r σ
    | .ref _ :: r => κ (qx_tgt pc o) ls r σ
    | _ => False
  | .lookupswitch d ps => match st with
    | .int x :: r => qx_lsw ps.toList d x (fun o => κ (qx_tgt pc o) ls r σ)
    | _ => False
  | .tableswitch d lo _ offs => match st with
    | .int x :: r => qx_tsw offs.toList lo d x (fun o => κ (qx_tgt pc o) ls r σ)
    | _ => False
  | .arraylength => match st with
    | .ref a :: r => cond sc (κ (pc + len) ls (.int (nI (qx_sh T σ 0).2) :: r) σ ∧ a = 0) (cond (Nat.ble (qx_sh T σ a).1 7) (κ (pc + len) ls (.int (nI (qx_sh T σ a).2) :: r) σ) False)
    | _ => False
  | .iaload => match st with
    | .int j :: .ref a :: r => cond sc (a = 0 ∧ vp_in j (qx_sh T σ 0).2 ∧ κ (pc + len) ls (.int (σ.2.2.2.1 0 j.toNatClampNeg) :: r) σ) (cond (Nat.beq (qx_sh T σ a).1 0) (vp_in j (qx_sh T σ a).2 ∧ κ (pc + len) ls (.int (σ.2.2.2.1 a j.toNatClampNeg) :: r) σ) False)
    | _ => False
  | .baload => match st with
    | .int j :: .ref a :: r => cond (Nat.beq (qx_sh T σ a).1 1) (vp_in j (qx_sh T σ a).2 ∧ κ (pc + len) ls (.int (σ.2.2.2.1 a j.toNatClampNeg) :: r) σ) (cond (Nat.beq (qx_sh T σ a).1 2) (vp_in j (qx_sh T σ a).2 ∧ κ (pc + len) ls (.int (σ.2.2.2.1 a j.toNatClampNeg) :: r) σ) False)
    | _ => False
  | .laload => match st with
    | .int j :: .ref a :: r => cond (Nat.beq (qx_sh T σ a).1 3) (vp_in j (qx_sh T σ a).2 ∧ κ (pc + len) ls (.long (σ.2.2.2.2.1 a j.toNatClampNeg) :: r) σ) False
    | _ => False
  | .aaload => match st with
    | .int j :: .ref a :: r => cond (Nat.ble 4 (qx_sh T σ a).1) (cond (Nat.ble (qx_sh T σ a).1 7) (vp_in j (qx_sh T σ a).2 ∧ qx_rr (σ.2.2.2.2.2 a j.toNatClampNeg) (fun v => κ (pc + len) ls (v :: r) σ)) False) False
    | _ => False
  | .iastore => match st with
    | .int x :: .int j :: .ref a :: r => cond (Nat.beq (qx_sh T σ a).1 0) (vp_in j (qx_sh T σ a).2 ∧ κ (pc + len) ls r (qx_wi σ a j.toNatClampNeg x)) False
    | _ => False
  | .bastore => match st with
    | .int x :: .int j :: .ref a :: r => cond (Nat.beq (qx_sh T σ a).1 1) (vp_in j (qx_sh T σ a).2 ∧ κ (pc + len) ls r (qx_wi σ a j.toNatClampNeg x.toInt8.toInt32)) (cond (Nat.beq (qx_sh T σ a).1 2) (vp_in j (qx_sh T σ a).2 ∧ (x = 0 ∨ x = 1) ∧ κ (pc + len) ls r (qx_wi σ a j.toNatClampNeg x)) False)
    | _ => False
  | .lastore => match st with
    | .long x :: .int j :: .ref a :: r => cond (Nat.beq (qx_sh T σ a).1 3) (vp_in j (qx_sh T σ a).2 ∧ κ (pc + len) ls r (qx_wl σ a j.toNatClampNeg x)) False
    | _ => False
  | .aastore => match st with
    | .ref x :: .int j :: .ref a :: r => cond (Nat.beq (qx_sh T σ x).1 (8 + [4, 5, 7, 8].getD ((qx_sh T σ a).1 - 4) 50)) (cond (Nat.ble 4 (qx_sh T σ a).1) (cond (Nat.ble (qx_sh T σ a).1 7) (vp_in j (qx_sh T σ a).2 ∧ κ (pc + len) ls r (qx_wr σ a j.toNatClampNeg (some x))) False) False) False
    | _ => False
  | .getfield k => match st with
    | .ref a :: r => qx_get T (qx_lk lk k) (fun v => κ (pc + len) ls (v :: r) σ) a σ
    | _ => False
  | .putfield k => match st with
    | v :: .ref a :: r => qx_put T (qx_lk lk k) (fun σ1 => κ (pc + len) ls r σ1) a v σ
    | _ => False
  | .new k => match qx_lk lk k with
    | (5, n, [ci], _, _) => κ (pc + len) ls (.ref σ.1 :: st) (qx_al σ (40 + ci, 0) n)
    | _ => False
  | .newarray t => match st with
    | .int n :: r => ¬ n < 0 ∧ n.toNatClampNeg ≤ 100000 ∧ κ (pc + len) ls (.ref σ.1 :: r) (qx_al σ (qx_akd t, n.toNatClampNeg) n.toNatClampNeg)
    | _ => False
  | .anewarray k => match st, (qx_lk lk (k + 100000)).1 with
    | .int n :: r, 8 => ¬ n < 0 ∧ n.toNatClampNeg ≤ 100000 ∧ κ (pc + len) ls (.ref σ.1 :: r) (qx_al σ ((qx_lk lk (k + 100000)).2.1, n.toNatClampNeg) n.toNatClampNeg)
    | _, _ => False
  | .invokevirtual k => cond (Nat.beq (qx_lk lk k).1 1) (qx_inv T call (qx_lk lk k) st σ (fun r σ1 => κ (pc + len) ls r σ1)) False
  | .invokespecial k => cond (Nat.beq (qx_lk lk k).1 2) (qx_inv T call (qx_lk lk k) st σ (fun r σ1 => κ (pc + len) ls r σ1)) (cond (Nat.beq (qx_lk lk k).1 4) (qx_inv T call (qx_lk lk k) st σ (fun r σ1 => κ (pc + len) ls r σ1)) False)
  | .invokestatic k => cond (Nat.ble 11 (qx_lk lk k).1) (qx_inv T call (qx_lk lk k) st σ (fun r σ1 => κ (pc + len) ls r σ1)) (cond (Nat.beq (qx_lk lk k).1 3) (qx_inv T call (qx_lk lk k) st σ (fun r σ1 => κ (pc + len) ls r σ1)) False)
  | .ireturn => match st with
    | [.int x] => qx_ret ty Φ x σ
    | _ => False
  | .lreturn => match st with
    | [.long x] => Φ (some (.long x)) σ
    | _ => False
  | .areturn => match st with
    | [.ref x] => Φ (some (.ref x)) σ
    | _ => False
  | .return_ => match st with
    | [] => Φ none σ
    | _ => False
  | _ => False
/-- a method's text: the class, the method, its instructions, its links, whether it is the law -/
abbrev qx_C : Type := String × qx_Y × List (Nat × Instr × Nat) × List (Nat × qx_L) × Bool
abbrev qx_Kc (G : qx_G) (T : qx_T) (d : Nat) (c : qx_C) (Φ : qx_F) (pc : Nat) (ls st : List Value) (σ : qx_S) : Prop := qx_K G T d c.1 c.2.1 pc ls st σ Φ
def qx_call (G : qx_G) (T : qx_T) (d : Nat) : qx_ca := fun Y as σ Φ => ∃ d', d' < d ∧ qx_M G T d' Y as σ Φ
/-- THE CONDITION OF A STRETCH, up to the cuts -/
def qx_wp (G : qx_G) (T : qx_T) (d : Nat) (c : qx_C) (cuts : List Nat) (Φ : qx_F) : Nat → Nat → List Value → List Value → qx_S → Prop
  | 0, pc, ls, st, σ => qx_Kc G T d c Φ pc ls st σ
  | n + 1, pc, ls, st, σ => match qx_cd c.2.2.1 pc with
    | none => False
    | some q => qx_step T c.2.2.2.2 (qx_call G T d) c.2.1.2.2.2 c.2.2.2.1 Φ (fun pc' ls' st' σ' => cond (qx_in cuts pc') (qx_Kc G T d c Φ pc' ls' st' σ') (qx_wp G T d c cuts Φ n pc' ls' st' σ')) q.1 pc q.2 ls st σ
