theorem qx_sc.tr {T : qx_T} {a b c : qx_S} (h : qx_sc T a b) (k : qx_sc T b c) : qx_sc T a c := ⟨k.1.trans h.1, k.2.trans h.2⟩
theorem qx_sc.rf {T : qx_T} {a : qx_S} : qx_sc T a a := ⟨rfl, rfl⟩
theorem qx_W_mono {p : Program} {l : Launch} {e : Env} {R : Room} {s : State} {m : MethodId} {args : Array Value} {below : List Frame} {meth : Method} {c : Code} {H : Heap} {locs : List Loc} {cells slots : Nat} {Q Q' : State → Prop} {g : JFrame} (h : W p l e R s m args below meth c H locs cells slots Q g) (hq : ∀ t, Q t → Q' t) : W p l e R s m args below meth c H locs cells slots Q' g := by
  intro T hT X
  obtain ⟨t, a, b⟩ := h T hT X
  exact ⟨t, a, hq t b⟩
/-- one step of the machine: from sg at pc to sg1 at pc' -/
theorem qx_go {G : qx_G} {T : qx_T} {d : Nat} {own : String} {Y : qx_Y} {pc pc' : Nat} {ls ls' st st' : List Value} {σ σ1 : qx_S} {Φ : qx_F} (hk : qx_K G T d own Y pc' ls' st' σ1 Φ) (n1 : σ.1 ≤ σ1.1) (n2 : σ.2.1 ≤ σ1.2.1) (h0 : ∀ s H, qx_R G T s σ H → qx_sc T σ σ1)
    (h : ∀ (p : Program) (e : Env) (R : Room) (s : State) (m : MethodId) (args : Array Value) (below : List Frame) (meth : Method) (c : Code) (H : Heap) (locs : List Loc) (cells slots : Nat) (lsA : Array Slot) (Q : State → Prop),
      qx_cx own Y p s m args meth c → d + 1 ≤ R.frames → 64 * (d + 1) ≤ R.locals → cells + (σ1.1 - σ.1) ≤ R.cells → slots + (σ1.2.1 - σ.2.1) ≤ R.slots → qx_R G T s σ H → qx_b G ≤ s.heap.size → va_S (qx_A G) s.heap H locs → qx_l G lsA Y.2.2.1 ls →
      (∀ (H' : Heap) (locs' : List Loc) (lsA' : Array Slot), qx_R G T s σ1 H' → va_S (qx_A G) s.heap H' locs' → qx_l G lsA' Y.2.2.1 ls' → W p G.1 e R s m args below meth c H' locs' (cells + (σ1.1 - σ.1)) (slots + (σ1.2.1 - σ.2.1)) Q (F0 m pc' lsA' (st'.map (qx_pv G)))) →
      W p G.1 e R s m args below meth c H locs cells slots Q (F0 m pc lsA (st.map (qx_pv G)))) : qx_K G T d own Y pc ls st σ Φ := by
  obtain ⟨r, σ', hΦ, m1, m2, hw⟩ := hk
  refine ⟨r, σ', hΦ, Nat.le_trans n1 m1, Nat.le_trans n2 m2, fun p e R s m args below meth c H locs cells slots lsA hcx hf hlo hc hs hR hb hS hl => ?_⟩
  have e1 : cells + (σ1.1 - σ.1) + (σ'.1 - σ1.1) = cells + (σ'.1 - σ.1) := by omega
  have e2 : slots + (σ1.2.1 - σ.2.1) + (σ'.2.1 - σ1.2.1) = slots + (σ'.2.1 - σ.2.1) := by omega
  refine h p e R s m args below meth c H locs cells slots lsA _ hcx hf hlo (by omega) (by omega) hR hb hS hl fun H' locs' lsA' hR' hS' hl' => ?_
  have k := hw p e R s m args below meth c H' locs' (cells + (σ1.1 - σ.1)) (slots + (σ1.2.1 - σ.2.1)) lsA' hcx hf hlo (by omega) (by omega) hR' hb hS' hl'
  rw [e1, e2] at k
  refine qx_W_mono k fun t ⟨o, q1, q2, ⟨q3, q4, q5, q6⟩, q7⟩ => ⟨o, q1, q2, ⟨q3, q4, q5, (h0 s H hR).tr q6⟩, q7⟩
/-- a step that leaves the memory -/
theorem qx_go0 {G : qx_G} {T : qx_T} {d : Nat} {own : String} {Y : qx_Y} {pc pc' : Nat} {ls ls' st st' : List Value} {σ : qx_S} {Φ : qx_F} (hk : qx_K G T d own Y pc' ls' st' σ Φ)
    (h : ∀ (p : Program) (e : Env) (R : Room) (s : State) (m : MethodId) (args : Array Value) (below : List Frame) (meth : Method) (c : Code) (H : Heap) (locs : List Loc) (cells slots : Nat) (lsA : Array Slot) (Q : State → Prop),
      qx_cx own Y p s m args meth c → d + 1 ≤ R.frames → 64 * (d + 1) ≤ R.locals → qx_R G T s σ H → qx_b G ≤ s.heap.size → va_S (qx_A G) s.heap H locs → qx_l G lsA Y.2.2.1 ls →
      (∀ (lsA' : Array Slot), qx_l G lsA' Y.2.2.1 ls' → W p G.1 e R s m args below meth c H locs cells slots Q (F0 m pc' lsA' (st'.map (qx_pv G)))) →
      W p G.1 e R s m args below meth c H locs cells slots Q (F0 m pc lsA (st.map (qx_pv G)))) : qx_K G T d own Y pc ls st σ Φ := by
  refine qx_go hk (Nat.le_refl _) (Nat.le_refl _) (fun _ _ _ => qx_sc.rf) fun p e R s m args below meth c H locs cells slots lsA Q hcx hf hlo hc hs hR hb hS hl k => ?_
  refine h p e R s m args below meth c H locs cells slots lsA Q hcx hf hlo hR hb hS hl fun lsA' hl' => ?_
  have z := k H locs lsA' hR hS hl'
  rw [Nat.sub_self, Nat.sub_self] at z
  exact z
/-- a step that leaves locals too -/
theorem qx_go1 {G : qx_G} {T : qx_T} {d : Nat} {own : String} {Y : qx_Y} {pc pc' : Nat} {ls st st' : List Value} {σ : qx_S} {Φ : qx_F} (hk : qx_K G T d own Y pc' ls st' σ Φ)
    (h : ∀ (p : Program) (e : Env) (R : Room) (s : State) (m : MethodId) (args : Array Value) (below : List Frame) (meth : Method) (c : Code) (H : Heap) (locs : List Loc) (cells slots : Nat) (lsA : Array Slot) (Q : State → Prop),
      qx_cx own Y p s m args meth c → qx_R G T s σ H → qx_b G ≤ s.heap.size → va_S (qx_A G) s.heap H locs → qx_l G lsA Y.2.2.1 ls →
      W p G.1 e R s m args below meth c H locs cells slots Q (F0 m pc' lsA (st'.map (qx_pv G))) →
      W p G.1 e R s m args below meth c H locs cells slots Q (F0 m pc lsA (st.map (qx_pv G)))) : qx_K G T d own Y pc ls st σ Φ :=
  qx_go0 hk fun p e R s m args below meth c H locs cells slots lsA Q hcx _ _ hR hb hS hl k => h p e R s m args below meth c H locs cells slots lsA Q hcx hR hb hS hl (k lsA hl)
/-- what an instruction's text must be -/
def qx_vi (n : Nat) (i : Instr) (pc len : Nat) : Bool := match i with
  | .aload _ => Nat.beq len 2
  | .iload _ => Nat.beq len 2
  | .lload _ => Nat.beq len 2
  | .astore k => Nat.beq len 2 && Nat.blt k n
  | .istore k => Nat.beq len 2 && Nat.blt k n
  | .lstore k => Nat.beq len 2 && Nat.blt (k + 1) n
  | .astore_n k => Nat.beq len 1 && Nat.blt k.val n
  | .istore_n k => Nat.beq len 1 && Nat.blt k.val n
  | .lstore_n k => Nat.beq len 1 && Nat.blt (k.val + 1) n
  | .iinc k m => Nat.beq len 3 && Nat.blt k n && decide (Int32.ofInt m = qx_c m)
  | .iconst m => Nat.beq len 1 && decide (Int32.ofInt m = qx_c m)
  | .bipush m => Nat.beq len 2 && decide ((Int8.ofInt m).toInt32 = qx_c m)
  | .sipush m => Nat.beq len 3 && decide ((Int16.ofInt m).toInt32 = qx_c m)
  | .ldc _ => Nat.beq len 2
  | .ldc2_w _ => Nat.beq len 3
  | .ldc_w _ => Nat.beq len 3
  | .goto o => Nat.beq len 3 && decide (0 ≤ (pc : Int) + o)
  | .ifCond _ o => Nat.beq len 3 && decide (0 ≤ (pc : Int) + o)
  | .if_icmp _ o => Nat.beq len 3 && decide (0 ≤ (pc : Int) + o)
  | .ifnull o => Nat.beq len 3 && decide (0 ≤ (pc : Int) + o)
  | .ifnonnull o => Nat.beq len 3 && decide (0 ≤ (pc : Int) + o)
  | .lookupswitch d ps => (ps.toList.zip (ps.toList.drop 1)).all (fun (a, next) => a.1 < next.1) && decide (0 ≤ (pc : Int) + d) && ps.toList.all (fun q => decide (0 ≤ (pc : Int) + q.2) && decide ((qx_c q.1).toInt = q.1))
  | .tableswitch d lo hi offs => decide (0 ≤ (pc : Int) + d) && offs.toList.all (fun o => decide (0 ≤ (pc : Int) + o)) && decide (lo + offs.size = hi + 1) && decide (-1000000 ≤ lo) && decide (hi ≤ 1000000)
  | .getfield _ => Nat.beq len 3
  | .putfield _ => Nat.beq len 3
  | .new _ => Nat.beq len 3
  | .newarray t => Nat.beq len 2 && Nat.blt (qx_akd t) 4
  | .anewarray _ => Nat.beq len 3
  | .invokevirtual _ => Nat.beq len 3
  | .invokespecial _ => Nat.beq len 3
  | .invokestatic _ => Nat.beq len 3
  | _ => Nat.beq len 1
theorem qx_beq {a b : Nat} (h : Nat.beq a b = true) : a = b := Nat.eq_of_beq_eq_true h
theorem qx_tgt_ok {pc : Nat} {o : Int} (h : 0 ≤ (pc : Int) + o) : (pc : Int) + o = (qx_tgt pc o : Int) := (Int.toNat_of_nonneg h).symm
