/-! THE STRING: the JDK's methods -/
set_option maxRecDepth 100000 in
theorem u_15 : (Jvm.Cond.initialized "java/lang/StringLatin1") ∈ qx_tbl := qx_t1 15 rfl rfl
set_option maxRecDepth 100000 in
theorem u_16 : (Jvm.Cond.initialized "jdk/internal/util/Preconditions") ∈ qx_tbl := qx_t1 16 rfl rfl
set_option maxRecDepth 100000 in
theorem u_526 : (Jvm.Cond.methodLink "java/lang/String" (335 : Nat) ({ cls := "java/lang/String", name := "coder", desc := "()B" } : Jvm.MethodName)) ∈ qx_tbl := qx_t3 46 rfl rfl
set_option maxRecDepth 100000 in
theorem u_527 : (Jvm.Cond.instanceMethod ({ cls := "java/lang/String", name := "coder", desc := "()B" } : Jvm.MethodName)) ∈ qx_tbl := qx_t3 47 rfl rfl
set_option maxRecDepth 100000 in
theorem u_528 : (Jvm.Cond.selects "java/lang/String" ({ cls := "java/lang/String", name := "coder", desc := "()B" } : Jvm.MethodName) ({ cls := "java/lang/String", name := "coder", desc := "()B" } : Jvm.MethodName)) ∈ qx_tbl := qx_t3 48 rfl rfl
set_option maxRecDepth 100000 in
theorem u_529 : (Jvm.Cond.code ({ cls := "java/lang/String", name := "coder", desc := "()B" } : Jvm.MethodName) prog_17_method_152_code (1 : Nat) (Option.some Jvm.ClassFile.FieldType.byte)) ∈ qx_tbl := qx_t3 49 rfl rfl
set_option maxRecDepth 100000 in
theorem u_530 : (Jvm.Cond.fieldLink "java/lang/String" (38 : Nat) "java/lang/String" "COMPACT_STRINGS" "Z") ∈ qx_tbl := qx_t3 50 rfl rfl
set_option maxRecDepth 100000 in
theorem u_536 : (Jvm.Cond.methodLink "java/lang/String" (492 : Nat) ({ cls := "java/lang/String", name := "isLatin1", desc := "()Z" } : Jvm.MethodName)) ∈ qx_tbl := qx_t3 56 rfl rfl
set_option maxRecDepth 100000 in
theorem u_537 : (Jvm.Cond.instanceMethod ({ cls := "java/lang/String", name := "isLatin1", desc := "()Z" } : Jvm.MethodName)) ∈ qx_tbl := qx_t3 57 rfl rfl
set_option maxRecDepth 100000 in
theorem u_538 : (Jvm.Cond.selects "java/lang/String" ({ cls := "java/lang/String", name := "isLatin1", desc := "()Z" } : Jvm.MethodName) ({ cls := "java/lang/String", name := "isLatin1", desc := "()Z" } : Jvm.MethodName)) ∈ qx_tbl := qx_t3 58 rfl rfl
set_option maxRecDepth 100000 in
theorem u_539 : (Jvm.Cond.code ({ cls := "java/lang/String", name := "isLatin1", desc := "()Z" } : Jvm.MethodName) prog_17_method_154_code (1 : Nat) (Option.some Jvm.ClassFile.FieldType.boolean)) ∈ qx_tbl := qx_t3 59 rfl rfl
set_option maxRecDepth 100000 in
theorem u_540 : (Jvm.Cond.methodLink "java/lang/String" (495 : Nat) ({ cls := "java/lang/StringLatin1", name := "charAt", desc := "([BI)C" } : Jvm.MethodName)) ∈ qx_tbl := qx_t3 60 rfl rfl
set_option maxRecDepth 100000 in
theorem u_541 : (Jvm.Cond.static ({ cls := "java/lang/StringLatin1", name := "charAt", desc := "([BI)C" } : Jvm.MethodName)) ∈ qx_tbl := qx_t3 61 rfl rfl
set_option maxRecDepth 100000 in
theorem u_542 : (Jvm.Cond.code ({ cls := "java/lang/StringLatin1", name := "charAt", desc := "([BI)C" } : Jvm.MethodName) prog_18_method_2_code (2 : Nat) (Option.some Jvm.ClassFile.FieldType.char)) ∈ qx_tbl := qx_t3 62 rfl rfl
set_option maxRecDepth 100000 in
theorem u_543 : (Jvm.Cond.methodLink "java/lang/StringLatin1" (9 : Nat) ({ cls := "java/lang/String", name := "checkIndex", desc := "(II)V" } : Jvm.MethodName)) ∈ qx_tbl := qx_t3 63 rfl rfl
set_option maxRecDepth 100000 in
theorem u_544 : (Jvm.Cond.static ({ cls := "java/lang/String", name := "checkIndex", desc := "(II)V" } : Jvm.MethodName)) ∈ qx_tbl := qx_t3 64 rfl rfl
set_option maxRecDepth 100000 in
theorem u_545 : (Jvm.Cond.code ({ cls := "java/lang/String", name := "checkIndex", desc := "(II)V" } : Jvm.MethodName) prog_17_method_155_code (2 : Nat) (Option.none : Option Jvm.ClassFile.FieldType)) ∈ qx_tbl := qx_t3 65 rfl rfl
set_option maxRecDepth 100000 in
theorem u_546 : (Jvm.Cond.fieldLink "java/lang/String" (1053 : Nat) "jdk/internal/util/Preconditions" "SIOOBE_FORMATTER" "Ljava/util/function/BiFunction;") ∈ qx_tbl := qx_t3 66 rfl rfl
set_option maxRecDepth 100000 in
theorem u_548 : (Jvm.Cond.methodLink "java/lang/String" (1059 : Nat) ({ cls := "jdk/internal/util/Preconditions", name := "checkIndex", desc := "(IILjava/util/function/BiFunction;)I" } : Jvm.MethodName)) ∈ qx_tbl := qx_t3 68 rfl rfl
set_option maxRecDepth 100000 in
theorem u_549 : (Jvm.Cond.static ({ cls := "jdk/internal/util/Preconditions", name := "checkIndex", desc := "(IILjava/util/function/BiFunction;)I" } : Jvm.MethodName)) ∈ qx_tbl := qx_t3 69 rfl rfl
set_option maxRecDepth 100000 in
theorem u_550 : (Jvm.Cond.code ({ cls := "jdk/internal/util/Preconditions", name := "checkIndex", desc := "(IILjava/util/function/BiFunction;)I" } : Jvm.MethodName) prog_22_method_11_code (3 : Nat) (Option.some Jvm.ClassFile.FieldType.int)) ∈ qx_tbl := qx_t3 70 rfl rfl
set_option maxRecDepth 100000 in
theorem u_2118 : (Jvm.Cond.fieldLink "java/lang/String" (9 : Nat) "java/lang/String" "value" "[B") ∈ qx_tbl := qx_t9 198 rfl rfl
set_option maxRecDepth 100000 in
theorem u_2119 : (Jvm.Cond.fieldLink "java/lang/String" (15 : Nat) "java/lang/String" "coder" "B") ∈ qx_tbl := qx_t9 199 rfl rfl
set_option maxRecDepth 100000 in
theorem u_522 : (Jvm.Cond.methodLink "ChangePlaces$Tape" (61 : Nat) ({ cls := "java/lang/String", name := "length", desc := "()I" } : Jvm.MethodName)) ∈ qx_tbl := qx_t3 42 rfl rfl
set_option maxRecDepth 100000 in
theorem u_523 : (Jvm.Cond.instanceMethod ({ cls := "java/lang/String", name := "length", desc := "()I" } : Jvm.MethodName)) ∈ qx_tbl := qx_t3 43 rfl rfl
set_option maxRecDepth 100000 in
theorem u_524 : (Jvm.Cond.selects "java/lang/String" ({ cls := "java/lang/String", name := "length", desc := "()I" } : Jvm.MethodName) ({ cls := "java/lang/String", name := "length", desc := "()I" } : Jvm.MethodName)) ∈ qx_tbl := qx_t3 44 rfl rfl
set_option maxRecDepth 100000 in
theorem u_532 : (Jvm.Cond.methodLink "ChangePlaces$Tape" (66 : Nat) ({ cls := "java/lang/String", name := "charAt", desc := "(I)C" } : Jvm.MethodName)) ∈ qx_tbl := qx_t3 52 rfl rfl
set_option maxRecDepth 100000 in
theorem u_533 : (Jvm.Cond.instanceMethod ({ cls := "java/lang/String", name := "charAt", desc := "(I)C" } : Jvm.MethodName)) ∈ qx_tbl := qx_t3 53 rfl rfl
set_option maxRecDepth 100000 in
theorem u_534 : (Jvm.Cond.selects "java/lang/String" ({ cls := "java/lang/String", name := "charAt", desc := "(I)C" } : Jvm.MethodName) ({ cls := "java/lang/String", name := "charAt", desc := "(I)C" } : Jvm.MethodName)) ∈ qx_tbl := qx_t3 54 rfl rfl
def YJ0_coder : qx_Y := (yJ0_coder_7d493, cJ0_coder_7d493, 1, (some .byte))
def kJ0_coder : List (Nat × Instr × Nat) := [(3, .ifCond .eq 10, 3), (6, .aload_n 0, 1), (10, .goto 4, 3), (13, .iconst 1, 1)]
def CJ0_coder : qx_C := (RJ0, YJ0_coder, kJ0_coder, [], false)
def YJ0_isLatin1 : qx_Y := (yJ0_isLatin1_aae02, cJ0_isLatin1_aae02, 1, (some .boolean))
def kJ0_isLatin1 : List (Nat × Instr × Nat) := [(3, .ifCond .eq 14, 3), (6, .aload_n 0, 1), (10, .ifCond .ne 7, 3), (13, .iconst 1, 1), (14, .goto 4, 3), (17, .iconst 0, 1), (18, .ireturn, 1)]
def CJ0_isLatin1 : qx_C := (RJ0, YJ0_isLatin1, kJ0_isLatin1, [], false)
def kJ0_length : List (Nat × Instr × Nat) := [(0, .aload_n 0, 1), (5, .aload_n 0, 1), (9, .ishr, 1), (10, .ireturn, 1)]
def CJ0_length : qx_C := (RJ0, YJ0_length_8abf5, kJ0_length, [], false)
def YJ3_checkIndex : qx_Y := (yJ3_checkIndex_8e157, cJ3_checkIndex_8e157, 3, (some .int))
def kJ3_checkIndex : List (Nat × Instr × Nat) := [(0, .iload_n 0, 1), (1, .ifCond .lt 8, 3), (4, .iload_n 0, 1), (5, .iload_n 1, 1), (6, .if_icmp .lt 10, 3), (16, .iload_n 0, 1), (17, .ireturn, 1)]
def CJ3_checkIndex : qx_C := (RJ3, YJ3_checkIndex, kJ3_checkIndex, [], false)
def YJ0_checkIndex : qx_Y := (yJ0_checkIndex_df160, cJ0_checkIndex_df160, 2, none)
def kJ0_checkIndex : List (Nat × Instr × Nat) := [(0, .iload_n 0, 1), (1, .iload_n 1, 1), (8, .pop, 1), (9, .return_, 1)]
def CJ0_checkIndex : qx_C := (RJ0, YJ0_checkIndex, kJ0_checkIndex, [], false)
def YJ1_charAt : qx_Y := (yJ1_charAt_3b067, cJ1_charAt_3b067, 2, (some .char))
def kJ1_charAt : List (Nat × Instr × Nat) := [(0, .iload_n 1, 1), (1, .aload_n 0, 1), (6, .aload_n 0, 1), (7, .iload_n 1, 1), (9, .sipush 255, 3), (12, .iand, 1)]
def CJ1_charAt : qx_C := (RJ1, YJ1_charAt, kJ1_charAt, [], false)
def kJ0_charAt : List (Nat × Instr × Nat) := [(0, .aload_n 0, 1), (4, .ifCond .eq 12, 3), (7, .aload_n 0, 1), (11, .iload_n 1, 1)]
def CJ0_charAt : qx_C := (RJ0, YJ0_charAt_5068e, kJ0_charAt, [], false)
theorem vJ0_coder : qx_gd CJ0_coder = true := by decide +kernel
theorem wJ0_coder : qx_Lk CJ0_coder.1 CJ0_coder.2.1 CJ0_coder.2.2.2.1 := fun _ h => absurd h List.not_mem_nil
theorem vJ0_isLatin1 : qx_gd CJ0_isLatin1 = true := by decide +kernel
theorem wJ0_isLatin1 : qx_Lk CJ0_isLatin1.1 CJ0_isLatin1.2.1 CJ0_isLatin1.2.2.2.1 := fun _ h => absurd h List.not_mem_nil
theorem vJ0_length : qx_gd CJ0_length = true := by decide +kernel
theorem wJ0_length : qx_Lk CJ0_length.1 CJ0_length.2.1 CJ0_length.2.2.2.1 := fun _ h => absurd h List.not_mem_nil
theorem vJ3_checkIndex : qx_gd CJ3_checkIndex = true := by decide +kernel
theorem wJ3_checkIndex : qx_Lk CJ3_checkIndex.1 CJ3_checkIndex.2.1 CJ3_checkIndex.2.2.2.1 := fun _ h => absurd h List.not_mem_nil
theorem vJ0_checkIndex : qx_gd CJ0_checkIndex = true := by decide +kernel
theorem wJ0_checkIndex : qx_Lk CJ0_checkIndex.1 CJ0_checkIndex.2.1 CJ0_checkIndex.2.2.2.1 := fun _ h => absurd h List.not_mem_nil
theorem vJ1_charAt : qx_gd CJ1_charAt = true := by decide +kernel
theorem wJ1_charAt : qx_Lk CJ1_charAt.1 CJ1_charAt.2.1 CJ1_charAt.2.2.2.1 := fun _ h => absurd h List.not_mem_nil
theorem vJ0_charAt : qx_gd CJ0_charAt = true := by decide +kernel
theorem wJ0_charAt : qx_Lk CJ0_charAt.1 CJ0_charAt.2.1 CJ0_charAt.2.2.2.1 := fun _ h => absurd h List.not_mem_nil
theorem qJ0_coder : qx_yk YJ0_coder 0 := ⟨u_529, by decide, ⟨by decide +kernel, by decide +kernel, by decide +kernel⟩, t_14⟩
theorem qJ0_isLatin1 : qx_yk YJ0_isLatin1 0 := ⟨u_539, by decide, ⟨by decide +kernel, by decide +kernel, by decide +kernel⟩, t_14⟩
theorem qJ3_checkIndex : qx_yk YJ3_checkIndex 3 := ⟨u_550, by decide, ⟨by decide +kernel, by decide +kernel, by decide +kernel⟩, u_16⟩
theorem qJ0_checkIndex : qx_yk YJ0_checkIndex 2 := ⟨u_545, by decide, ⟨by decide +kernel, by decide +kernel, by decide +kernel⟩, t_14⟩
theorem qJ1_charAt : qx_yk YJ1_charAt 2 := ⟨u_542, by decide, ⟨by decide +kernel, by decide +kernel, by decide +kernel⟩, u_15⟩
/-- what is known of the String -/
def gE (G : qx_G) (s : State) (H : Heap) : Prop := va_OF "java/lang/String" "coder" "B" (.int 0) (qx_ad G 1) (qx_A G) s H ∧ va_OF "java/lang/String" "value" "[B" (.ref (qx_ad G 2)) (qx_ad G 1) (qx_A G) s H ∧ va_T .byte (qx_ad G 2) 101 (fun j => .int (nI (q_tx j))) (qx_A G) s H ∧ va_Z "java/lang/String" "COMPACT_STRINGS" "Z" (.int 1) (qx_A G) s H ∧ ∃ v, (v = .null ∨ ∃ z, v = .ref z) ∧ va_Z "jdk/internal/util/Preconditions" "SIOOBE_FORMATTER" "Ljava/util/function/BiFunction;" v (qx_A G) s H
def gStr (G : qx_G) : Prop := ∀ s H, qx_E G s H → gE G s H
section KS
variable {G : qx_G} {T : qx_T} {d : Nat} {own : String} {Y : qx_Y} {Φ : qx_F}
theorem ks_getf {pc idx : Nat} {ls r : List Value} {σ : qx_S} {n d' : String} {v : Value} (hw : Cond.fieldLink own idx "java/lang/String" n d' ∈ qx_tbl) (hE : ∀ s H, qx_R G T s σ H → va_OF "java/lang/String" n d' (qx_pv G v) (qx_ad G 1) (qx_A G) s H) (hd : decode Y.2.1 pc = .ok (.getfield idx, 3)) (hk : qx_K G T d own Y (pc + 3) ls (v :: r) σ Φ) : qx_K G T d own Y pc ls (.ref 1 :: r) σ Φ :=
  qx_go1 hk (fun p e R s m args below meth c H locs cells slots lsA Q hcx hR hb hS hl k => by
    obtain ⟨cf, kk, fi, f, cell, h1, h2, h3, h4, h5, h6⟩ := hE s H hR
    exact W.getf hcx.1 hcx.2.1 hcx.2.2.2.2.1 (hcx.2.2.2.2.2.1 _ hw) h1 h2 h3 h4 h5 rfl rfl hd k)
theorem ks_gets {pc idx : Nat} {ls r : List Value} {σ : qx_S} {C n d' : String} {x : Int32} (hw : Cond.fieldLink own idx C n d' ∈ qx_tbl) (hE : ∀ s H, qx_R G T s σ H → va_Z C n d' (.int x) (qx_A G) s H) (hd : decode Y.2.1 pc = .ok (.getstatic idx, 3)) (hk : qx_K G T d own Y (pc + 3) ls (.int x :: r) σ Φ) : qx_K G T d own Y pc ls r σ Φ :=
  qx_go1 hk (fun p e R s m args below meth c H locs cells slots lsA Q hcx hR hb hS hl k => by
    obtain ⟨cf, kf, fi, f, a, cell, h1, h2, h3, h4, h5, h6, h7, h8⟩ := hE s H hR
    exact W.gets hcx.1 hcx.2.1 hcx.2.2.2.2.1 (hcx.2.2.2.2.2.1 _ hw) h1 h2 h3 h4 h5 (fun e => by rw [e] at h6; cases h6) h7 rfl hd k)
theorem ks_alen {pc : Nat} {ls r : List Value} {σ : qx_S} (hE : ∀ s H, qx_R G T s σ H → va_T .byte (qx_ad G 2) 101 (fun j => .int (nI (q_tx j))) (qx_A G) s H) (hd : decode Y.2.1 pc = .ok (.arraylength, 1)) (hk : qx_K G T d own Y (pc + 1) ls (.int (nI 101) :: r) σ Φ) : qx_K G T d own Y pc ls (.ref 2 :: r) σ Φ :=
  qx_go1 hk (fun p e R s m args below meth c H locs cells slots lsA Q hcx hR hb hS hl k => by
    obtain ⟨cell, h1, h2, h3, h4, h5, h6, h7⟩ := hE s H hR
    exact W.alen (n := nI 101) hcx.1 hcx.2.1 h1 h2 h5 rfl rfl hd k)
theorem ks_bald {pc i : Nat} {ls r : List Value} {σ : qx_S} (hi : i < 101) (hE : ∀ s H, qx_R G T s σ H → va_T .byte (qx_ad G 2) 101 (fun j => .int (nI (q_tx j))) (qx_A G) s H) (hd : decode Y.2.1 pc = .ok (.baload, 1)) (hk : qx_K G T d own Y (pc + 1) ls (.int (nI (q_tx i)) :: r) σ Φ) : qx_K G T d own Y pc ls (.int (nI i) :: .ref 2 :: r) σ Φ :=
  qx_go1 hk (fun p e R s m args below meth c H locs cells slots lsA Q hcx hR hb hS hl k => by
    obtain ⟨cell, h1, h2, h3, h4, h5, h6, h7⟩ := hE s H hR
    have ec : (nI i).toNatClampNeg = i := nI_clamp (by omega)
    have hin : ¬ (nI i < 0 ∨ cell.slots.size ≤ (nI i).toNatClampNeg) := by
      rw [ec]
      rintro (q | q)
      · exact absurd ((nI_ltI (b := 0) (by omega) (by decide)).mp q) (by omega)
      · omega
    exact W.bald (v := .int (nI (q_tx i))) hcx.1 hcx.2.1 h1 h2 h3 hin (by rw [ec, h6 i hi]) rfl rfl hd k)
theorem ks_i2c {pc : Nat} {ls r : List Value} {σ : qx_S} {x v : Int32} (hv : (x.toUInt32 % 65536).toInt32 = v) (hd : decode Y.2.1 pc = .ok (.i2c, 1)) (hk : qx_K G T d own Y (pc + 1) ls (.int v :: r) σ Φ) : qx_K G T d own Y pc ls (.int x :: r) σ Φ :=
  qx_go1 hk (fun p e R s m args below meth c H locs cells slots lsA Q hcx hR hb hS hl k => lv_i2c hcx.1 hcx.2.1 hd hv k)
theorem ks_nret {pc : Nat} {ls : List Value} {σ : qx_S} {v : Int32} {ty : FieldType} (et : Y.2.2.2 = some ty) (hn : narrow ty (.int v) = .int v) (hd : decode Y.2.1 pc = .ok (.ireturn, 1)) (h : Φ (some (.int v)) σ) : qx_K G T d own Y pc ls [.int v] σ Φ := by
  refine ⟨_, σ, h, Nat.le_refl _, Nat.le_refl _, fun p e R s m args below meth c H locs cells slots lsA hcx hf hlo hc hs hR hb hS hl => ?_⟩
  simp only [Nat.sub_self, Nat.add_zero]
  exact W.zret hcx.1 hcx.2.1 (hcx.2.2.2.1.trans et) hn (fun t ht hW => ⟨rfl, by rw [ht]; exact hR.2.2.2.2.2, hS.F ht, qx_sc.rf⟩) hS.2.2 hd hcx.2.2.2.2.2.2.1
theorem ks_callV {Z : qx_Y} {n idx d' : Nat} {as rest : List Value} {pc : Nat} {ls : List Value} {σ : qx_S} {Ψ : qx_F} (hV : qx_vok own idx n "java/lang/String" Z) (hd : decode Y.2.1 pc = .ok (.invokevirtual idx, 3)) (hlen : as.length = n) (hsm : qx_cs rest ≤ 8) (hlt : d' < d) (hM : qx_M G T d' Z (.ref 1 :: as) σ Ψ) (hk : ∀ r σ1, Ψ r σ1 → qx_K G T d own Y (pc + 3) ls (r.toList ++ rest) σ1 Φ) : qx_K G T d own Y pc ls (qx_stk (.ref 1 :: as) rest) σ Φ :=
  qx_callS hV.1 hV.2 hd (fun s H hR => ⟨by simp [hlen], _, _, rfl, by
    obtain ⟨cell, a, b, c, _⟩ := hR.2.2.2.1
    exact ⟨cell, a, b, c⟩⟩) hsm ⟨d', hlt, qx_M_mono hM hk⟩
theorem ks_callS {Z : qx_Y} {n idx d' : Nat} {as rest : List Value} {pc : Nat} {ls : List Value} {σ : qx_S} {Ψ : qx_F} (hV : qx_sok own idx n Z) (hd : decode Y.2.1 pc = .ok (.invokestatic idx, 3)) (hlen : as.length = n) (hsm : qx_cs rest ≤ 8) (hlt : d' < d) (hM : qx_M G T d' Z as σ Ψ) (hk : ∀ r σ1, Ψ r σ1 → qx_K G T d own Y (pc + 3) ls (r.toList ++ rest) σ1 Φ) : qx_K G T d own Y pc ls (qx_stk as rest) σ Φ :=
  qx_callS hV.1 hV.2 hd (fun s H hR => by simp [hlen]) hsm ⟨d', hlt, qx_M_mono hM hk⟩
end KS
section KJ
variable {G : qx_G} {T : qx_T} {σ : qx_S}
theorem gStr.c (h : gStr G) (s : State) (H : Heap) (hR : qx_R G T s σ H) : gE G s H := h s H hR.2.2.2.2.1.1
theorem c_coder (hG : gStr G) : qx_M G T 0 YJ0_coder [.ref 1] σ (qr (nI 0) σ) := by
  have k14 : qx_K G T 0 RJ0 YJ0_coder 14 [.retAddr 0] [.int (nI 0)] σ (qr (nI 0) σ) := ks_nret (ty := .byte) rfl rfl (by decide +kernel) ⟨rfl, rfl⟩
  have k10 : qx_K G T 0 RJ0 YJ0_coder 10 [.retAddr 0] [.int (nI 0)] σ (qr (nI 0) σ) := by
    refine qy_wp_ok (c := CJ0_coder) (cuts := [14]) vJ0_coder wJ0_coder 2000 10 _ _ _ ?_
    exact k14
  have k7 : qx_K G T 0 RJ0 YJ0_coder 7 [.retAddr 0] [.ref 1] σ (qr (nI 0) σ) := ks_getf (v := .int (nI 0)) u_2119 (fun s H hR => (hG.c s H hR).1) (by decide +kernel) k10
  have k3 : qx_K G T 0 RJ0 YJ0_coder 3 [.ref 1] [.int (nI 1)] σ (qr (nI 0) σ) := by
    refine qy_wp_ok (c := CJ0_coder) (cuts := [7, 14]) vJ0_coder wJ0_coder 2000 3 _ _ _ ?_
    refine And.intro (fun h3 => ?_) (fun h3 => ?_)
    · skip
      exact absurd h3 (by decide)
    · skip
      refine qx_K_le (ls := [.retAddr 0]) ⟨Or.inl rfl, trivial⟩ ?_
      exact k7
  refine qx_M_in rfl (Nat.le_of_ble_eq_true rfl) ?_
  exact ks_gets (x := nI 1) u_530 (fun s H hR => (hG.c s H hR).2.2.2.1) (by decide +kernel) k3
theorem c_isLatin1 (hG : gStr G) : qx_M G T 0 YJ0_isLatin1 [.ref 1] σ (qr (nI 1) σ) := by
  have k10 : qx_K G T 0 RJ0 YJ0_isLatin1 10 [.retAddr 0] [.int (nI 0)] σ (qr (nI 1) σ) := by
    refine qy_wp_ok (c := CJ0_isLatin1) (cuts := []) vJ0_isLatin1 wJ0_isLatin1 2000 10 _ _ _ ?_
    refine And.intro (fun h10 => ?_) (fun h10 => ?_)
    · skip
      exact absurd (by decide) h10
    · skip
      refine Exists.intro (nI 1) (And.intro rfl ?_)
      refine And.intro (Or.inr rfl) ?_
      exact ⟨rfl, rfl⟩
  have k7 : qx_K G T 0 RJ0 YJ0_isLatin1 7 [.retAddr 0] [.ref 1] σ (qr (nI 1) σ) := ks_getf (v := .int (nI 0)) u_2119 (fun s H hR => (hG.c s H hR).1) (by decide +kernel) k10
  have k3 : qx_K G T 0 RJ0 YJ0_isLatin1 3 [.ref 1] [.int (nI 1)] σ (qr (nI 1) σ) := by
    refine qy_wp_ok (c := CJ0_isLatin1) (cuts := [7]) vJ0_isLatin1 wJ0_isLatin1 2000 3 _ _ _ ?_
    refine And.intro (fun h3 => ?_) (fun h3 => ?_)
    · skip
      exact absurd h3 (by decide)
    · skip
      refine qx_K_le (ls := [.retAddr 0]) ⟨Or.inl rfl, trivial⟩ ?_
      exact k7
  refine qx_M_in rfl (Nat.le_of_ble_eq_true rfl) ?_
  exact ks_gets (x := nI 1) u_530 (fun s H hR => (hG.c s H hR).2.2.2.1) (by decide +kernel) k3
theorem c_length (hG : gStr G) : qx_M G T 1 YJ0_length_8abf5 [.ref 1] σ (qr (nI 101) σ) := by
  have k9 : qx_K G T 1 RJ0 YJ0_length_8abf5 9 [.retAddr 0] [.int (nI 0), .int (nI 101)] σ (qr (nI 101) σ) := by
    refine qy_wp_ok (c := CJ0_length) (cuts := []) vJ0_length wJ0_length 2000 9 _ _ _ ?_
    refine Exists.intro (nI 101) (And.intro (by decide) ?_)
    exact ⟨rfl, rfl⟩
  have k6 : qx_K G T 1 RJ0 YJ0_length_8abf5 6 [.retAddr 0] [.ref 1, .int (nI 101)] σ (qr (nI 101) σ) := ks_callV (as := []) (rest := [.int (nI 101)]) (qx_vok_V qJ0_coder rfl u_526 u_527 u_528) (by decide +kernel) rfl (by decide) (by decide) (c_coder hG) (by rintro _ _ ⟨rfl, rfl⟩; exact k9)
  have k5 : qx_K G T 1 RJ0 YJ0_length_8abf5 5 [.ref 1] [.int (nI 101)] σ (qr (nI 101) σ) := by
    refine qy_wp_ok (c := CJ0_length) (cuts := [6]) vJ0_length wJ0_length 2000 5 _ _ _ ?_
    refine qx_K_le (ls := [.retAddr 0]) ⟨Or.inl rfl, trivial⟩ ?_
    exact k6
  have k4 : qx_K G T 1 RJ0 YJ0_length_8abf5 4 [.ref 1] [.ref 2] σ (qr (nI 101) σ) := ks_alen (fun s H hR => (hG.c s H hR).2.2.1) (by decide +kernel) k5
  have k1 : qx_K G T 1 RJ0 YJ0_length_8abf5 1 [.ref 1] [.ref 1] σ (qr (nI 101) σ) := ks_getf (v := .ref 2) u_2118 (fun s H hR => (hG.c s H hR).2.1) (by decide +kernel) k4
  refine qx_M_in rfl (Nat.le_of_ble_eq_true rfl) ?_
  refine qy_wp_ok (c := CJ0_length) (cuts := [1]) vJ0_length wJ0_length 2000 0 _ _ _ ?_
  exact k1
/-- Preconditions.checkIndex, its third argument unknown -/
theorem k_precR {i n : Nat} (hi : i < n) (hn : n < 2147483648) (z : Nat) : Met G.1 YJ3_checkIndex.1 (qx_ws YJ3_checkIndex) (qx_rm 0 σ σ) (va_Pc [.int (nI i), .int (nI n), .ref z] (fun U => qx_R G T U σ U.heap)) (qx_Q G T σ (some (.int (nI i))) σ) (σ.1 - σ.1) (σ.2.1 - σ.2.1) (qx_A G) := by
  have k0 : qx_K G T 0 RJ3 YJ3_checkIndex 0 [.int (nI i), .int (nI n), .retAddr 0] [] σ (qr (nI i) σ) := by
    refine qy_wp_ok (c := CJ3_checkIndex) (cuts := []) vJ3_checkIndex wJ3_checkIndex 2000 0 _ _ _ ?_
    refine And.intro (fun h1 => ?_) (fun h1 => ?_)
    · skip
      have h1 := nI_ltT (a := i) (b := 0) (by omega) (by decide) h1
      exact absurd h1 (by omega)
    · skip
      have h1 := nI_ltF (a := i) (b := 0) (by omega) (by decide) h1
      refine And.intro (fun h6 => ?_) (fun h6 => ?_)
      · skip
        have h6 := nI_ltT (a := i) (b := n) (by omega) (by omega) h6
        exact ⟨rfl, rfl⟩
      · skip
        have h6 := nI_ltF (a := i) (b := n) (by omega) (by omega) h6
        exact absurd h6 (by omega)
  obtain ⟨r, σ', ⟨rfl, rfl⟩, n1, n2, hw⟩ := k0
  refine Met.ofW (cc := YJ3_checkIndex.2.1) (maxL := YJ3_checkIndex.2.2.1) (ret := YJ3_checkIndex.2.2.2) (ws' := qx_tbl) rfl rfl ?_
  intro p e s m args below meth c s₁ B hml hv
  obtain ⟨rfl, hR⟩ := hv
  have hR : qx_R G T s σ s.heap := hR
  have hts := atoms_spec (ws := qx_ws YJ3_checkIndex) B.pre
  have hcx : qx_cx YJ3_checkIndex.1.cls YJ3_checkIndex p s m [.int (nI i), .int (nI n), .ref z].toArray meth c := ⟨B.exec, B.bytes, hml, B.returns, findClass_of_methodNamed B.named, fun w hw => hts w (List.mem_cons_of_mem _ hw), B.notSynchronized, (name_of_methodNamed B.named B.method).1⟩
  have hl := lv_entry [Value.int (nI i), Value.int (nI n), Value.ref z] (n := 3) (Nat.le_of_ble_eq_true rfl)
  rw [lg_entry_eq]
  have hb : qx_b G ≤ s.heap.size := by have := hR.2.2.2.2.2.1; have := hR.2.2.2.2.2.2.1; omega
  have k := hw p e (qx_rm 0 σ σ) s m [Value.int (nI i), Value.int (nI n), Value.ref z].toArray below meth c s.heap [] 0 0 _ hcx (Nat.le_refl _) (Nat.le_refl _) (by show 0 + _ ≤ _; rw [Nat.zero_add]; exact Nat.le_refl _) (by show 0 + _ ≤ _; rw [Nat.zero_add]; exact Nat.le_refl _) hR hb va_S.rf ⟨hl.1, hl.2.1, rfl, fun j v hv => by
    match j, hv with
    | 0, hv => cases hv; exact Or.inr (hl.2.2 (0, .int (nI i)) (by simp [lv_args]))
    | 1, hv => cases hv; exact Or.inr (hl.2.2 (1, .int (nI n)) (by simp [lv_args, Value.category]))
    | 2, hv => cases hv; exact Or.inl rfl
    | (j + 3), hv => cases hv⟩
  rw [Nat.zero_add, Nat.zero_add] at k
  exact k
theorem k_precN {i n : Nat} (hi : i < n) (hn : n < 2147483648) : Met G.1 YJ3_checkIndex.1 (qx_ws YJ3_checkIndex) (qx_rm 0 σ σ) (va_Pc [.int (nI i), .int (nI n), .null] (fun U => qx_R G T U σ U.heap)) (qx_Q G T σ (some (.int (nI i))) σ) (σ.1 - σ.1) (σ.2.1 - σ.2.1) (qx_A G) := by
  have k0 : qx_K G T 0 RJ3 YJ3_checkIndex 0 [.int (nI i), .int (nI n), .retAddr 0] [] σ (qr (nI i) σ) := by
    refine qy_wp_ok (c := CJ3_checkIndex) (cuts := []) vJ3_checkIndex wJ3_checkIndex 2000 0 _ _ _ ?_
    refine And.intro (fun h1 => ?_) (fun h1 => ?_)
    · skip
      have h1 := nI_ltT (a := i) (b := 0) (by omega) (by decide) h1
      exact absurd h1 (by omega)
    · skip
      have h1 := nI_ltF (a := i) (b := 0) (by omega) (by decide) h1
      refine And.intro (fun h6 => ?_) (fun h6 => ?_)
      · skip
        have h6 := nI_ltT (a := i) (b := n) (by omega) (by omega) h6
        exact ⟨rfl, rfl⟩
      · skip
        have h6 := nI_ltF (a := i) (b := n) (by omega) (by omega) h6
        exact absurd h6 (by omega)
  obtain ⟨r, σ', ⟨rfl, rfl⟩, n1, n2, hw⟩ := k0
  refine Met.ofW (cc := YJ3_checkIndex.2.1) (maxL := YJ3_checkIndex.2.2.1) (ret := YJ3_checkIndex.2.2.2) (ws' := qx_tbl) rfl rfl ?_
  intro p e s m args below meth c s₁ B hml hv
  obtain ⟨rfl, hR⟩ := hv
  have hR : qx_R G T s σ s.heap := hR
  have hts := atoms_spec (ws := qx_ws YJ3_checkIndex) B.pre
  have hcx : qx_cx YJ3_checkIndex.1.cls YJ3_checkIndex p s m [.int (nI i), .int (nI n), .null].toArray meth c := ⟨B.exec, B.bytes, hml, B.returns, findClass_of_methodNamed B.named, fun w hw => hts w (List.mem_cons_of_mem _ hw), B.notSynchronized, (name_of_methodNamed B.named B.method).1⟩
  have hl := lv_entry [Value.int (nI i), Value.int (nI n), Value.null] (n := 3) (Nat.le_of_ble_eq_true rfl)
  rw [lg_entry_eq]
  have hb : qx_b G ≤ s.heap.size := by have := hR.2.2.2.2.2.1; have := hR.2.2.2.2.2.2.1; omega
  have k := hw p e (qx_rm 0 σ σ) s m [Value.int (nI i), Value.int (nI n), Value.null].toArray below meth c s.heap [] 0 0 _ hcx (Nat.le_refl _) (Nat.le_refl _) (by show 0 + _ ≤ _; rw [Nat.zero_add]; exact Nat.le_refl _) (by show 0 + _ ≤ _; rw [Nat.zero_add]; exact Nat.le_refl _) hR hb va_S.rf ⟨hl.1, hl.2.1, rfl, fun j v hv => by
    match j, hv with
    | 0, hv => cases hv; exact Or.inr (hl.2.2 (0, .int (nI i)) (by simp [lv_args]))
    | 1, hv => cases hv; exact Or.inr (hl.2.2 (1, .int (nI n)) (by simp [lv_args, Value.category]))
    | 2, hv => cases hv; exact Or.inl rfl
    | (j + 3), hv => cases hv⟩
  rw [Nat.zero_add, Nat.zero_add] at k
  exact k
theorem k_prec {i n : Nat} (hi : i < n) (hn : n < 2147483648) (v : Value) (hv : v = .null ∨ ∃ z, v = .ref z) : Met G.1 YJ3_checkIndex.1 (qx_ws YJ3_checkIndex) (qx_rm 0 σ σ) (va_Pc [.int (nI i), .int (nI n), v] (fun U => qx_R G T U σ U.heap)) (qx_Q G T σ (some (.int (nI i))) σ) (σ.1 - σ.1) (σ.2.1 - σ.2.1) (qx_A G) := by
  rcases hv with rfl | ⟨z, rfl⟩
  · exact k_precN hi hn
  · exact k_precR hi hn z
theorem ks_chk (hG : gStr G) {d i n : Nat} {ls : List Value} {Φ : qx_F} (hi : i < n) (hn : n < 2147483648) (hd : 0 < d) (hk : qx_K G T d RJ0 YJ0_checkIndex 8 ls [.int (nI i)] σ Φ) : qx_K G T d RJ0 YJ0_checkIndex 2 ls [.int (nI n), .int (nI i)] σ Φ := by
  obtain ⟨r, σ', hΦ, n1, n2, hw⟩ := hk
  refine ⟨r, σ', hΦ, n1, n2, fun p e R s m args below meth c H locs cells slots lsA hcx hf hlo hc hs hR hb hS hl => ?_⟩
  obtain ⟨v0, hv0, cf, kf, fi, f, a, cell, h1, h2, h3, h4, h5, h6, h7, h8⟩ := (hG.c s H hR).2.2.2.2
  refine W.gets hcx.1 hcx.2.1 hcx.2.2.2.2.1 (hcx.2.2.2.2.2.1 _ u_546) h1 h2 h3 h4 h5 (fun e => by rw [e] at h6; cases h6) h7 rfl (show decode cJ0_checkIndex_df160 2 = .ok (.getstatic 1053, 3) by decide +kernel) ?_
  have run := (qx_sok_S (own := RJ0) qJ3_checkIndex u_548 u_549).2 p G.1 e R s m args below meth c H locs cells slots (σ.1 - σ.1) (σ.2.1 - σ.2.1) (qx_rm 0 σ σ) (va_Pc [.int (nI i), .int (nI n), v0] (fun U => qx_R G T U σ U.heap)) (qx_Q G T σ (some (.int (nI i))) σ) (qx_A G) [.int (nI i), .int (nI n), v0] [] 5 lsA hcx.1 hcx.2.2.2.2.1 hcx.2.2.2.2.2.1 hR.2.2.2.2.1.2 (k_prec hi hn v0 hv0) rfl rfl (by show 0 + 1 + 1 ≤ R.frames; omega) (by show 8 + (3 + 11) + 64 * (0 + 1) ≤ R.locals; omega) (fun a U g mk h => ⟨h.1, qx_R.moved (U := U.calling g mk a) (State.WarmedH.refl U) h.2⟩) rfl
    (fun U hU hW => ⟨rfl, by show qx_R G T U σ U.heap; rw [hU]; exact hR.moved hW⟩) (by rw [hl.1, hcx.2.2.1]) (Nat.zero_le _) (by rw [hcx.2.1]; exact (show decode cJ0_checkIndex_df160 5 = .ok (.invokestatic 1059, 3) by decide +kernel)) ⟨by omega, by omega⟩
  intro T0 hT X
  obtain ⟨v, st₀, t, T', L, h0, X', hL, e1, e2, ⟨hv, hH, hF, hsc⟩, st⟩ := run T0 hT X
  cases hv
  have hlow : ∀ q, q < H.size → ¬ qx_A G q → T'.heap[q]? = H[q]? := fun q g1 g2 => by rw [e1, ← h0]; exact hF.2 q (by rw [h0]; exact g1) g2
  have hR1 : qx_R G T s σ T'.heap := hR.call hlow (by rw [e1]; exact hH) hsc.1 hsc.2
  have hsz : H.size ≤ T'.heap.size := by rw [e1, ← h0]; exact hF.1
  have hS1 : va_S (qx_A G) s.heap T'.heap (locs ++ L) := ⟨Nat.le_trans hS.1 hsz, fun q g1 g2 => (hlow q (Nat.lt_of_lt_of_le g1 hS.1) g2).trans (hS.2.1 q g1 g2), fun q hq => by
    rcases List.mem_append.mp hq with h | h
    · exact hS.2.2 q h
    · exact hL q h⟩
  have k := hw p e R s m args below meth c T'.heap (locs ++ L) (cells + (σ.1 - σ.1)) (slots + (σ.2.1 - σ.2.1)) lsA hcx hf hlo (by omega) (by omega) hR1 hb hS1 hl
  have e3 : cells + (σ.1 - σ.1) + (σ'.1 - σ.1) = cells + (σ'.1 - σ.1) := by omega
  have e4 : slots + (σ.2.1 - σ.2.1) + (σ'.2.1 - σ.2.1) = slots + (σ'.2.1 - σ.2.1) := by omega
  rw [e3, e4] at k
  obtain ⟨t2, a1, o, q1, q2, ⟨q3, q4, q5, q6⟩, q7⟩ := k T' rfl X'
  exact ⟨t2, st t2 a1, o, q1, q2, ⟨q3, q4, q5, q6⟩, q7⟩
theorem c_checkIndexS (hG : gStr G) {i n : Nat} (hi : i < n) (hn : n < 2147483648) : qx_M G T 1 YJ0_checkIndex [.int (nI i), .int (nI n)] σ (fun r s => r = none ∧ σ = s) := by
  have k8 : qx_K G T 1 RJ0 YJ0_checkIndex 8 [.retAddr 0, .retAddr 0] [.int (nI i)] σ (fun r s => r = none ∧ σ = s) := by
    refine qy_wp_ok (c := CJ0_checkIndex) (cuts := []) vJ0_checkIndex wJ0_checkIndex 2000 8 _ _ _ ?_
    exact ⟨rfl, rfl⟩
  have k2 := ks_chk hG hi hn (by decide) k8
  refine qx_M_in rfl (Nat.le_of_ble_eq_true rfl) ?_
  refine qy_wp_ok (c := CJ0_checkIndex) (cuts := [2]) vJ0_checkIndex wJ0_checkIndex 2000 0 _ _ _ ?_
  refine qx_K_le (ls := [.retAddr 0, .retAddr 0]) ⟨Or.inl rfl, Or.inl rfl, trivial⟩ ?_
  exact k2
theorem q_tx_s : ∀ i, i < 101 → ((nI (q_tx i) &&& nI 255 = nI (q_tx i)) ∧ ((nI (q_tx i)).toUInt32 % 65536).toInt32 = nI (q_tx i)) ∧ (nI (q_tx i)).toUInt32.toUInt16.toUInt32.toInt32 = nI (q_tx i) := by decide +kernel
theorem c_charAtL (hG : gStr G) {i : Nat} (hi : i < 101) : qx_M G T 2 YJ1_charAt [.ref 2, .int (nI i)] σ (qr (nI (q_tx i)) σ) := by
  obtain ⟨⟨x1, x2⟩, x3⟩ := q_tx_s i hi
  obtain ⟨x, ex⟩ : ∃ x, x = q_tx i := ⟨_, rfl⟩
  rw [← ex] at x1 x2 x3 ⊢
  have gT : ∀ s H, qx_R G T s σ H → va_T .byte (qx_ad G 2) 101 (fun j => .int (nI (q_tx j))) (qx_A G) s H := fun s H hR => (hG.c s H hR).2.2.1
  have k14 : qx_K G T 2 RJ1 YJ1_charAt 14 [.retAddr 0, .retAddr 0] [.int (nI x)] σ (qr (nI x) σ) := ks_nret (ty := .char) rfl (congrArg Value.int x3) (by decide +kernel) ⟨rfl, rfl⟩
  have k13 : qx_K G T 2 RJ1 YJ1_charAt 13 [.retAddr 0, .retAddr 0] [.int (nI x)] σ (qr (nI x) σ) := ks_i2c x2 (by decide +kernel) k14
  have k9 : qx_K G T 2 RJ1 YJ1_charAt 9 [.retAddr 0, .retAddr 0] [.int (nI x)] σ (qr (nI x) σ) := by
    refine qy_wp_ok (c := CJ1_charAt) (cuts := [13]) vJ1_charAt wJ1_charAt 2000 9 _ _ _ ?_
    refine Exists.intro (nI 255) (And.intro rfl ?_)
    refine Exists.intro (nI x) (And.intro x1 ?_)
    exact k13
  have k8 : qx_K G T 2 RJ1 YJ1_charAt 8 [.retAddr 0, .retAddr 0] [.int (nI i), .ref 2] σ (qr (nI x) σ) := ks_bald hi gT (by decide +kernel) (by rw [← ex]; exact k9)
  have k6 : qx_K G T 2 RJ1 YJ1_charAt 6 [.ref 2, .int (nI i)] [] σ (qr (nI x) σ) := by
    refine qy_wp_ok (c := CJ1_charAt) (cuts := [8]) vJ1_charAt wJ1_charAt 2000 6 _ _ _ ?_
    refine qx_K_le (ls := [.retAddr 0, .retAddr 0]) ⟨Or.inl rfl, Or.inl rfl, trivial⟩ ?_
    exact k8
  have k3 : qx_K G T 2 RJ1 YJ1_charAt 3 [.ref 2, .int (nI i)] [.int (nI 101), .int (nI i)] σ (qr (nI x) σ) := ks_callS (as := [.int (nI i), .int (nI 101)]) (rest := []) (qx_sok_S qJ0_checkIndex u_543 u_544) (by decide +kernel) rfl (by decide) (by decide) (c_checkIndexS hG hi (by decide)) (by rintro _ _ ⟨rfl, rfl⟩; exact k6)
  have k2 : qx_K G T 2 RJ1 YJ1_charAt 2 [.ref 2, .int (nI i)] [.ref 2, .int (nI i)] σ (qr (nI x) σ) := ks_alen gT (by decide +kernel) k3
  refine qx_M_in rfl (Nat.le_of_ble_eq_true rfl) ?_
  refine qy_wp_ok (c := CJ1_charAt) (cuts := [2]) vJ1_charAt wJ1_charAt 2000 0 _ _ _ ?_
  exact k2
theorem c_charAt (hG : gStr G) {i : Nat} (hi : i < 101) : qx_M G T 3 YJ0_charAt_5068e [.ref 1, .int (nI i)] σ (qr (nI (q_tx i)) σ) := by
  obtain ⟨-, x3⟩ := q_tx_s i hi
  have k15 : qx_K G T 3 RJ0 YJ0_charAt_5068e 15 [.retAddr 0, .retAddr 0] [.int (nI (q_tx i))] σ (qr (nI (q_tx i)) σ) := ks_nret (ty := .char) rfl (congrArg Value.int x3) (by decide +kernel) ⟨rfl, rfl⟩
  have k12 : qx_K G T 3 RJ0 YJ0_charAt_5068e 12 [.retAddr 0, .retAddr 0] [.int (nI i), .ref 2] σ (qr (nI (q_tx i)) σ) := ks_callS (as := [.ref 2, .int (nI i)]) (rest := []) (qx_sok_S qJ1_charAt u_540 u_541) (by decide +kernel) rfl (by decide) (by decide) (c_charAtL hG hi) (by rintro _ _ ⟨rfl, rfl⟩; exact k15)
  have k11 : qx_K G T 3 RJ0 YJ0_charAt_5068e 11 [.retAddr 0, .int (nI i)] [.ref 2] σ (qr (nI (q_tx i)) σ) := by
    refine qy_wp_ok (c := CJ0_charAt) (cuts := [12]) vJ0_charAt wJ0_charAt 2000 11 _ _ _ ?_
    refine qx_K_le (ls := [.retAddr 0, .retAddr 0]) ⟨Or.inr rfl, Or.inl rfl, trivial⟩ ?_
    exact k12
  have k8 : qx_K G T 3 RJ0 YJ0_charAt_5068e 8 [.retAddr 0, .int (nI i)] [.ref 1] σ (qr (nI (q_tx i)) σ) := ks_getf (v := .ref 2) u_2118 (fun s H hR => (hG.c s H hR).2.1) (by decide +kernel) k11
  have k4 : qx_K G T 3 RJ0 YJ0_charAt_5068e 4 [.ref 1, .int (nI i)] [.int (nI 1)] σ (qr (nI (q_tx i)) σ) := by
    refine qy_wp_ok (c := CJ0_charAt) (cuts := [8]) vJ0_charAt wJ0_charAt 2000 4 _ _ _ ?_
    refine And.intro (fun h4 => ?_) (fun h4 => ?_)
    · skip
      exact absurd h4 (by decide)
    · skip
      refine qx_K_le (ls := [.retAddr 0, .int (nI i)]) ⟨Or.inl rfl, Or.inr rfl, trivial⟩ ?_
      exact k8
  have k1 : qx_K G T 3 RJ0 YJ0_charAt_5068e 1 [.ref 1, .int (nI i)] [.ref 1] σ (qr (nI (q_tx i)) σ) := ks_callV (as := []) (rest := []) (qx_vok_V qJ0_isLatin1 rfl u_536 u_537 u_538) (by decide +kernel) rfl (by decide) (by decide) (c_isLatin1 hG) (by rintro _ _ ⟨rfl, rfl⟩; exact k4)
  refine qx_M_in rfl (Nat.le_of_ble_eq_true rfl) ?_
  refine qy_wp_ok (c := CJ0_charAt) (cuts := [1]) vJ0_charAt wJ0_charAt 2000 0 _ _ _ ?_
  exact k1
end KJ
theorem kStr_of {G : qx_G} (hG : gStr G) : kStr G := by
  refine ⟨fun pc ls x σ Φ hpc hk => ?_, fun i ls σ Φ hi hk => ?_, fun i ls x σ Φ hi hk => ?_⟩
  · refine ks_callV (as := []) (rest := [.int x]) (qx_vok_V qJ0_length_8abf5 rfl u_522 u_523 u_524) ?_ rfl (Nat.le_of_ble_eq_true rfl) (show 1 < 9 by decide) (c_length hG) (by rintro _ _ ⟨rfl, rfl⟩; exact hk)
    rcases hpc with rfl | rfl <;> decide +kernel
  · exact ks_callV (as := [.int (nI i)]) (rest := []) (qx_vok_V qJ0_charAt_5068e rfl u_532 u_533 u_534) (by decide +kernel) rfl (by decide) (show 3 < 9 by decide) (c_charAt hG hi) (by rintro _ _ ⟨rfl, rfl⟩; exact hk)
  · exact ks_callV (as := [.int (nI i)]) (rest := [.int x]) (qx_vok_V (own := RX9) (idx := 38 + 28) qJ0_charAt_5068e rfl u_532 u_533 u_534) (by decide +kernel) rfl (Nat.le_of_ble_eq_true rfl) (show 3 < 8 by decide) (c_charAt hG hi) (by rintro _ _ ⟨rfl, rfl⟩; exact hk)


