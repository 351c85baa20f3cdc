def qx_vr (ty : Option FieldType) (i : Instr) : Bool := match i with
  | .lreturn => match ty with
    | some .long => true
    | _ => false
  | .areturn => match ty with
    | some (.object _) => true
    | some (.array _) => true
    | _ => false
  | .return_ => ty.isNone
  | _ => true
/-- a method's text is right -/
def qx_gd (c : qx_C) : Bool := c.2.2.1.all (fun q => decide (decode c.2.1.2.1 q.1 = .ok q.2) && (qx_vi c.2.1.2.2.1 q.2.1 q.1 q.2.2 && qx_vr c.2.1.2.2.2 q.2.1))
/-- a link is right -/
def qx_l1 (own : String) (Y : qx_Y) (idx : Nat) (e : qx_L) : Prop :=
  (e.1 = 0 → qx_lf own idx e.2.1 e.2.2.1) ∧ (e.1 = 10 → qx_lU own Y idx e.2.1 e.2.2.1) ∧ (e.1 = 8 → qx_rk own (idx - 100000) e.2.1) ∧ (e.1 = 5 → ∀ ci ∈ e.2.2.1, qx_nk own idx e.2.1 ci) ∧
  (e.1 = 6 → Cond.constant own idx (qx_c e.2.2.2.1) ∈ qx_tbl) ∧ (e.1 = 18 → own = RX9 ∧ idx = 59) ∧ (e.1 = 7 → Cond.constantLong own idx (Int64.ofInt e.2.2.2.1) ∈ qx_tbl) ∧
  (e.1 = 1 → ∀ y ∈ e.2.2.2.2, (∃ C, qx_cn y.1 C ∧ qx_vok own idx e.2.1 C y.2)) ∧ (e.1 = 2 → ∀ y ∈ e.2.2.2.2, qx_iok own idx e.2.1 y.2) ∧
  (e.1 = 4 → Cond.methodLink own idx objectInit ∈ qx_tbl ∧ Cond.instanceMethod objectInit ∈ qx_tbl ∧ Cond.code objectInit ⟨#[0xb1]⟩ 1 none ∈ qx_tbl) ∧ qx_ls own idx e
def qx_Lk (own : String) (Y : qx_Y) (lk : List (Nat × qx_L)) : Prop := ∀ q ∈ lk, qx_l1 own Y q.1 q.2
theorem qx_lk_mem : ∀ (lk : List (Nat × qx_L)) (idx : Nat), (qx_lk lk idx).1 = 99 ∨ (idx, qx_lk lk idx) ∈ lk
  | [], idx => Or.inl rfl
  | q :: r, idx => by
    unfold qx_lk
    cases h : Nat.beq q.1 idx with
    | true =>
      right
      have := qx_beq h
      subst this
      exact List.mem_cons_self
    | false =>
      rcases qx_lk_mem r idx with z | z
      · exact Or.inl z
      · exact Or.inr (List.mem_cons_of_mem _ z)
theorem qx_Lk.at {own : String} {Y : qx_Y} {lk : List (Nat × qx_L)} (h : qx_Lk own Y lk) (idx : Nat) : qx_l1 own Y idx (qx_lk lk idx) := by
  rcases qx_lk_mem lk idx with z | z
  · generalize qx_lk lk idx = E at z
    unfold qx_l1 qx_ls
    rw [z]
    refine ⟨?_, ?_, ?_, ?_, ?_, ?_, ?_, ?_, ?_, ?_, ?_, ?_, ?_, ?_, ?_, ?_⟩ <;> intro q <;> cases q
  · exact h _ z
theorem qx_cd_mem : ∀ (l : List (Nat × Instr × Nat)) (pc : Nat) (q : Instr × Nat), qx_cd l pc = some q → (pc, q) ∈ l
  | [], pc, q, h => by cases h
  | x :: r, pc, q, h => by
    unfold qx_cd at h
    cases hb : Nat.beq x.1 pc with
    | true =>
      rw [hb] at h
      cases h
      have := qx_beq hb
      subst this
      exact List.mem_cons_self
    | false =>
      rw [hb] at h
      exact List.mem_cons_of_mem _ (qx_cd_mem r pc q h)
/-- ONE STEP IS SOUND -/
theorem qx_step_ok {G : qx_G} {T : qx_T} {sc : Bool} {d : Nat} {own : String} {Y : qx_Y} {lk : List (Nat × qx_L)} {Φ : qx_F} {κ : qx_k} (hκ : ∀ pc' ls' st' σ', κ pc' ls' st' σ' → qx_K G T d own Y pc' ls' st' σ' Φ) (hL : qx_Lk own Y lk) (i : Instr) {pc len : Nat} {ls st : List Value} {σ : qx_S}
    (hd : decode Y.2.1 pc = .ok (i, len)) (hv : qx_vi Y.2.2.1 i pc len = true) (hr : qx_vr Y.2.2.2 i = true) (h : qx_step T sc (qx_call G T d) Y.2.2.2 lk Φ κ i pc len ls st σ) : qx_K G T d own Y pc ls st σ Φ := by
  cases i with
  | iadd => exact qs_iadd hκ hd hv h
  | isub => exact qs_isub hκ hd hv h
  | imul => exact qs_imul hκ hd hv h
  | iand => exact qs_iand hκ hd hv h
  | ior => exact qs_ior hκ hd hv h
  | ixor => exact qs_ixor hκ hd hv h
  | ishl => exact qs_ishl hκ hd hv h
  | ishr => exact qs_ishr hκ hd hv h
  | idiv => exact qs_idiv hκ hd hv h
  | irem => exact qs_irem hκ hd hv h
  | iushr => exact qs_iushr hκ hd hv h
  | ineg => exact qs_ineg hκ hd hv h
  | ladd => exact qs_ladd hκ hd hv h
  | lsub => exact qs_lsub hκ hd hv h
  | lmul => exact qs_lmul hκ hd hv h
  | land => exact qs_land hκ hd hv h
  | lor => exact qs_lor hκ hd hv h
  | ldiv => exact qs_ldiv hκ hd hv h
  | lrem => exact qs_lrem hκ hd hv h
  | lcmp => exact qs_lcmp hκ hd hv h
  | i2l => exact qs_i2l hκ hd hv h
  | l2i => exact qs_l2i hκ hd hv h
  | i2b => exact qs_i2b hκ hd hv h
  | lshl => exact qs_lshl hκ hd hv h
  | dup => exact qs_dup hκ hd hv h
  | pop => exact qs_pop hκ hd hv h
  | dup2 => exact qs_dup2 hκ hd hv h
  | arraylength => exact qs_arraylength hκ hd hv h
  | iaload => exact qs_iaload hκ hd hv h
  | baload => exact qs_baload hκ hd hv h
  | laload => exact qs_laload hκ hd hv h
  | aaload => exact qs_aaload hκ hd hv h
  | iastore => exact qs_iastore hκ hd hv h
  | bastore => exact qs_bastore hκ hd hv h
  | lastore => exact qs_lastore hκ hd hv h
  | aastore => exact qs_aastore hκ hd hv h
  | iload n => exact qs_iload hκ hd hv h
  | iload_n n => exact qs_iload_n hκ hd hv h
  | lload n => exact qs_lload hκ hd hv h
  | lload_n n => exact qs_lload_n hκ hd hv h
  | aload n => exact qs_aload hκ hd hv h
  | aload_n n => exact qs_aload_n hκ hd hv h
  | istore k => exact qs_istore hκ hd hv h
  | istore_n k => exact qs_istore_n hκ hd hv h
  | lstore k => exact qs_lstore hκ hd hv h
  | lstore_n k => exact qs_lstore_n hκ hd hv h
  | astore k => exact qs_astore hκ hd hv h
  | astore_n k => exact qs_astore_n hκ hd hv h
  | iinc j n => exact qs_iinc hκ hd hv h
  | iconst n => exact qs_iconst hκ hd hv h
  | bipush n => exact qs_bipush hκ hd hv h
  | sipush n => exact qs_sipush hκ hd hv h
  | lconst n => exact qs_lconst hκ hd hv h
  | aconst_null => exact qs_null hκ hd hv h
  | goto o => exact qs_goto hκ hd hv h
  | ifCond c o => exact qs_ifCond hκ hd hv h
  | if_icmp c o => exact qs_if_icmp hκ hd hv h
  | ifnull o => exact qs_ifnull hκ hd hv h
  | ifnonnull o => exact qs_ifnonnull hκ hd hv h
  | lookupswitch df ps => exact qs_lookup hκ hd hv h
  | tableswitch df lo hi offs => exact qs_table hκ hd hv h
  | getfield k => exact qs_getfield hκ hd hv ⟨(hL.at k).1, (hL.at k).2.1⟩ h
  | putfield k => exact qs_putfield hκ hd hv ⟨(hL.at k).1, (hL.at k).2.1⟩ h
  | new k => exact qs_new hκ hd hv (hL.at k).2.2.2.1 h
  | newarray t => exact qs_newarray hκ hd hv h
  | anewarray k => exact qs_anewarray hκ hd hv (by have z := (hL.at (k + 100000)).2.2.1; rw [Nat.add_sub_cancel] at z; exact z) h
  | ldc k => exact qs_ldc hκ hd hv ⟨(hL.at k).2.2.2.2.1, (hL.at k).2.2.2.2.2.1⟩ h
  | ldc_w k => exact qs_ldcw hκ hd hv (hL.at k).2.2.2.2.1 h
  | ldc2_w k => exact qs_ldc2 hκ hd hv (hL.at k).2.2.2.2.2.2.1 h
  | invokevirtual k => exact qs_invokevirtual hκ hd hv (hL.at k).2.2.2.2.2.2.2.1 h
  | invokespecial k => exact qs_invokespecial hκ hd hv ⟨(hL.at k).2.2.2.2.2.2.2.2.1, (hL.at k).2.2.2.2.2.2.2.2.2.1⟩ h
  | invokestatic k => exact qs_invokestatic hκ hd hv (hL.at k).2.2.2.2.2.2.2.2.2.2 h
  | ireturn => exact qs_ireturn hd hv h
  | lreturn =>
    refine qs_lreturn ?_ hd hv h
    cases hY : Y.2.2.2 with
    | none => rw [hY] at hr; cases hr
    | some t => cases t <;> first | rfl | (rw [hY] at hr; cases hr)
  | areturn =>
    refine qs_areturn ?_ hd hv h
    cases hY : Y.2.2.2 with
    | none => rw [hY] at hr; cases hr
    | some t => cases t <;> first | exact Or.inl ⟨_, rfl⟩ | exact Or.inr ⟨_, rfl⟩ | (rw [hY] at hr; cases hr)
  | return_ =>
    refine qs_return ?_ hd hv h
    cases hY : Y.2.2.2 with
    | none => rfl
    | some t => rw [hY] at hr; cases hr
  | _ => exact h.elim
/-- A STRETCH IS SOUND -/
theorem qx_wp_ok {G : qx_G} {T : qx_T} {d : Nat} {c : qx_C} {cuts : List Nat} {Φ : qx_F} (hg : qx_gd c = true) (hL : qx_Lk c.1 c.2.1 c.2.2.2.1) : ∀ (n pc : Nat) (ls st : List Value) (σ : qx_S), qx_wp G T d c cuts Φ n pc ls st σ → qx_Kc G T d c Φ pc ls st σ := by
  intro n
  induction n with
  | zero => intro pc ls st σ h; exact h
  | succ n ih =>
    intro pc ls st σ h
    unfold qx_wp at h
    split at h
    · exact h.elim
    · next q hq =>
      have hm := List.all_eq_true.mp hg _ (qx_cd_mem _ _ _ hq)
      simp only [Bool.and_eq_true, decide_eq_true_eq] at hm
      refine qx_step_ok (fun pc' ls' st' σ' h' => ?_) hL q.1 hm.1 hm.2.1 hm.2.2 h
      cases hc : qx_in cuts pc' with
      | true => rw [hc] at h'; exact h'
      | false => rw [hc] at h'; exact ih _ _ _ _ h'
/-- A METHOD from its entry -/
theorem qx_M_in {G : qx_G} {T : qx_T} {d : Nat} {Y : qx_Y} {as : List Value} {σ : qx_S} {Φ : qx_F} (hp : plainName Y.1.cls = true) (hlen : (lg_sl (as.map (qx_pv G))).length ≤ Y.2.2.1) (h : qx_K G T d Y.1.cls Y 0 (qx_en Y.2.2.1 as) [] σ Φ) : qx_M G T d Y as σ Φ := by
  obtain ⟨r, σ', hΦ, n1, n2, hw⟩ := h
  refine ⟨r, σ', hΦ, n1, n2, ?_⟩
  refine Met.ofW (cc := Y.2.1) (maxL := Y.2.2.1) (ret := Y.2.2.2) (ws' := qx_tbl) hp rfl ?_
  intro p e s m args below meth c s₁ B hml hv
  obtain ⟨rfl, hR⟩ := hv
  have hR : qx_R G T s σ s.heap := hR
  have hts := atoms_spec (ws := qx_ws Y) B.pre
  have hcx : qx_cx Y.1.cls Y p s m (as.map (qx_pv G)).toArray meth c := ⟨B.exec, B.bytes, hml, B.returns, findClass_of_methodNamed B.named, fun w hw => hts w (List.mem_cons_of_mem _ hw), B.notSynchronized, (name_of_methodNamed B.named B.method).1⟩
  have hl := lv_entry (as.map (qx_pv G)) (n := Y.2.2.1) hlen
  rw [lg_entry_eq]
  have hb : qx_b G ≤ s.heap.size := by have := hR.2.2.2.2.2.1; have := hR.2.2.2.2.2.2.1; omega
  have k := hw p e (qx_rm d σ σ') s m (as.map (qx_pv G)).toArray below meth c s.heap [] 0 0 _ hcx (Nat.le_refl _) (Nat.le_refl _) (by show 0 + _ ≤ _; rw [Nat.zero_add]; exact Nat.le_refl _) (by show 0 + _ ≤ _; rw [Nat.zero_add]; exact Nat.le_refl _) hR hb va_S.rf (qx_en_l hl)
  rw [Nat.zero_add, Nat.zero_add] at k
  exact k
theorem qx_M_mono {G : qx_G} {T : qx_T} {d : Nat} {Y : qx_Y} {as : List Value} {σ : qx_S} {Φ Ψ : qx_F} (h : qx_M G T d Y as σ Φ) (hi : ∀ r σ1, Φ r σ1 → Ψ r σ1) : qx_M G T d Y as σ Ψ := by
  obtain ⟨r, σ1, h1, h2⟩ := h
  exact ⟨r, σ1, hi _ _ h1, h2⟩
theorem qx_K_mono {G : qx_G} {T : qx_T} {d : Nat} {own : String} {Y : qx_Y} {pc : Nat} {ls st : List Value} {σ : qx_S} {Φ Ψ : qx_F} (h : qx_K G T d own Y pc ls st σ Φ) (hi : ∀ r σ1, Φ r σ1 → Ψ r σ1) : qx_K G T d own Y pc ls st σ Ψ := by
  obtain ⟨r, σ1, h1, h2⟩ := h
  exact ⟨r, σ1, hi _ _ h1, h2⟩
