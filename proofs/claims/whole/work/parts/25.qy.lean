/-! THE CONDITIONS ONCE MORE, WITH VALUES GIVEN: who proves names each value that is computed -/
def qy_in (T : qx_T) (σ : qx_S) (a kd k : Nat) : Prop := ∃ n, qx_sh T σ a = (kd, n) ∧ k < n ∧ n < 2147483648
def qy_ro (v : Option Nat) (κ : Value → Prop) : Prop := match v with
  | none => κ .null
  | some x => κ (.ref x)
def qy_get (T : qx_T) (e : qx_L) (κ : Value → Prop) (a : Nat) (σ : qx_S) : Prop := match e.1 with
  | 0 => match (qx_fk (e.2.2.1.headD 0) e.2.1).1 with
    | 0 => qx_ob e.2.2.1 (qx_sh T σ a).1 = true ∧ ∃ f v, e.2.1 = f ∧ σ.2.2.2.1 a f = v ∧ κ (.int v)
    | 5 => qx_ob e.2.2.1 (qx_sh T σ a).1 = true ∧ ∃ f v, e.2.1 = f ∧ σ.2.2.2.1 a f = v ∧ κ (.int v)
    | 1 => qx_ob e.2.2.1 (qx_sh T σ a).1 = true ∧ ∃ f v, e.2.1 = f ∧ σ.2.2.2.2.1 a f = v ∧ κ (.long v)
    | 2 => qx_ob e.2.2.1 (qx_sh T σ a).1 = true ∧ ∃ f v, e.2.1 = f ∧ σ.2.2.2.2.2 a f = v ∧ qy_ro v κ
    | 3 => qx_obB e.2.2.1 (qx_sh T σ a).1 = true ∧ ∃ b, a + (qx_fk (e.2.2.1.headD 0) e.2.1).2 = b ∧ κ (.ref b)
    | 4 => qx_obB e.2.2.1 (qx_sh T σ a).1 = true ∧ ∃ b, (qx_fk (e.2.2.1.headD 0) e.2.1).2 = b ∧ κ (.ref b)
    | _ => False
  | 10 => qx_obU e.2.2.1 (qx_sh T σ a).1 = true ∧ ∃ f v, e.2.1 = f ∧ σ.2.2.2.2.2 a f = v ∧ qy_ro v κ
  | _ => False
def qy_put (T : qx_T) (e : qx_L) (κ : qx_S → Prop) (a : Nat) (v : Value) (σ : qx_S) : Prop := match e.1 with
  | 0 => match (qx_fk (e.2.2.1.headD 0) e.2.1).1, v with
    | 0, .int x => qx_ob e.2.2.1 (qx_sh T σ a).1 = true ∧ ∃ f s, e.2.1 = f ∧ qx_wi σ a f x = s ∧ κ s
    | 5, .int x => qx_ob e.2.2.1 (qx_sh T σ a).1 = true ∧ (x = 0 ∨ x = 1) ∧ ∃ f s, e.2.1 = f ∧ qx_wi σ a f x = s ∧ κ s
    | 1, .long x => qx_ob e.2.2.1 (qx_sh T σ a).1 = true ∧ ∃ f s, e.2.1 = f ∧ qx_wl σ a f x = s ∧ κ s
    | 2, .null => qx_ob e.2.2.1 (qx_sh T σ a).1 = true ∧ ∃ f s, e.2.1 = f ∧ qx_wr σ a f none = s ∧ κ s
    | 2, .ref x => qx_ob e.2.2.1 (qx_sh T σ a).1 = true ∧ ∃ f s, e.2.1 = f ∧ qx_wr σ a f (some x) = s ∧ κ s
    | _, _ => False
  | 10 => match v with
    | .ref x => qx_obU e.2.2.1 (qx_sh T σ a).1 = true ∧ ∃ f s, e.2.1 = f ∧ qx_wr σ a f (some x) = s ∧ κ s
    | _ => False
  | _ => False
def qy_virt (T : qx_T) (call : qx_ca) (ys : List (Nat × qx_Y)) (a : Nat) (as : List Value) (σ : qx_S) (κ : Option Value → qx_S → Prop) : Prop := match ys with
  | [] => False
  | [y] => (qx_sh T σ a).1 = 8 + y.1 ∧ call y.2 (.ref a :: as) σ κ
  | y :: r => ((qx_sh T σ a).1 = 8 + y.1 ∧ call y.2 (.ref a :: as) σ κ) ∨ qy_virt T call r a as σ κ
def qy_iv1 (T : qx_T) (call : qx_ca) (e : qx_L) (st : List Value) (σ : qx_S) (κ : List Value → qx_S → Prop) : Prop := match qx_pop e.2.1 st [] with
  | some (as, .ref a :: rest) => cond (Nat.ble (qx_cs rest) 8) (qy_virt T call e.2.2.2.2 a as σ (fun r σ1 => κ (r.toList ++ rest) σ1)) False
  | _ => False
def qy_cp (σ : qx_S) (s d sp dp n : Nat) : qx_S := (σ.1, σ.2.1, σ.2.2.1, va_up σ.2.2.2.1 d (va_cpy (σ.2.2.2.1 s) (σ.2.2.2.1 d) sp dp n), σ.2.2.2.2.1, σ.2.2.2.2.2)
def qy_iv11 (T : qx_T) (st : List Value) (σ : qx_S) (κ : List Value → qx_S → Prop) : Prop := match st with
  | .int n :: .int dp :: .ref d :: .int sp :: .ref s :: rest => cond (Nat.ble (qx_cs rest) 8) (∃ n' dp' sp' σ1, n = nI n' ∧ dp = nI dp' ∧ sp = nI sp' ∧ ¬ s = d ∧ (∃ N, qx_sh T σ s = (0, N) ∧ sp' + n' ≤ N ∧ N < 2147483648) ∧ (∃ N, qx_sh T σ d = (0, N) ∧ dp' + n' ≤ N ∧ N < 2147483648) ∧ qy_cp σ s d sp' dp' n' = σ1 ∧ κ rest σ1) False
  | _ => False
def qy_iv12 (st : List Value) (σ : qx_S) (κ : List Value → qx_S → Prop) : Prop := match st with
  | .int y :: .int x :: rest => cond (Nat.ble (qx_cs rest) 8) (∃ z, (if x < y then y else x) = z ∧ κ (.int z :: rest) σ) False
  | _ => False
def qy_iv13 (st : List Value) (σ : qx_S) (κ : List Value → qx_S → Prop) : Prop := match st with
  | .int y :: .int x :: rest => cond (Nat.ble (qx_cs rest) 8) (∃ z, (if y < x then y else x) = z ∧ κ (.int z :: rest) σ) False
  | _ => False
def qy_inv (T : qx_T) (call : qx_ca) (e : qx_L) (st : List Value) (σ : qx_S) (κ : List Value → qx_S → Prop) : Prop := match e.1 with
  | 1 => qy_iv1 T call e st σ κ
  | 2 => qx_iv2 T call e st σ κ
  | 3 => qx_iv3 T call e st σ κ
  | 4 => qx_iv4 T call e st σ κ
  | 11 => qy_iv11 T st σ κ
  | 12 => qy_iv12 st σ κ
  | 13 => qy_iv13 st σ κ
  | 14 => qx_iv14 T call e st σ κ
  | 15 => qx_iv15 T call e st σ κ
  | _ => False
def qy_i2 (st : List Value) (f : Int32 → Int32 → Int32) (K : Value → List Value → Prop) : Prop := match st with
  | .int y :: .int x :: r => ∃ z, f x y = z ∧ K (.int z) r
  | _ => False
def qy_l2 (st : List Value) (f : Int64 → Int64 → Int64) (K : Value → List Value → Prop) : Prop := match st with
  | .long y :: .long x :: r => ∃ z, f x y = z ∧ K (.long z) r
  | _ => False
def qy_step (T : qx_T) (sc : Bool) (call : qx_ca) (ty : Option FieldType) (lk : List (Nat × qx_L)) (Φ : qx_F) (κ : qx_k) (i : Instr) (pc len : Nat) (ls st : List Value) (σ : qx_S) : Prop := match i with
  | .iinc k n => match qx_ld ls k with
    | .int x => ∃ z, x + qx_c n = z ∧ κ (pc + len) (qx_s1 ls k (.int z)) st σ
    | _ => False
  | .iconst n => ∃ z, qx_c n = z ∧ κ (pc + len) ls (.int z :: st) σ
  | .bipush n => ∃ z, qx_c n = z ∧ κ (pc + len) ls (.int z :: st) σ
  | .sipush n => ∃ z, qx_c n = z ∧ κ (pc + len) ls (.int z :: st) σ
  | .lconst n => ∃ z, lN n.val = z ∧ κ (pc + len) ls (.long z :: st) σ
  | .ldc k => match (qx_lk lk k).1 with
    | 6 => ∃ z, qx_c (qx_lk lk k).2.2.2.1 = z ∧ κ (pc + len) ls (.int z :: st) σ
    | 18 => κ (pc + len) ls (.ref 1 :: st) σ
    | _ => False
  | .ldc_w k => cond (Nat.beq (qx_lk lk k).1 6) (∃ z, qx_c (qx_lk lk k).2.2.2.1 = z ∧ κ (pc + len) ls (.int z :: st) σ) False
  | .ldc2_w k => cond (Nat.beq (qx_lk lk k).1 7) (∃ z, Int64.ofInt (qx_lk lk k).2.2.2.1 = z ∧ κ (pc + len) ls (.long z :: st) σ) False
  | .iadd => qy_i2 st (fun x y => x + y) (fun v r => κ (pc + len) ls (v :: r) σ)
  | .isub => qy_i2 st (fun x y => x - y) (fun v r => κ (pc + len) ls (v :: r) σ)
  | .imul => qy_i2 st (fun x y => x * y) (fun v r => κ (pc + len) ls (v :: r) σ)
  | .iand => qy_i2 st (fun x y => x &&& y) (fun v r => κ (pc + len) ls (v :: r) σ)
  | .ior => qy_i2 st (fun x y => x ||| y) (fun v r => κ (pc + len) ls (v :: r) σ)
  | .ixor => qy_i2 st (fun x y => x ^^^ y) (fun v r => κ (pc + len) ls (v :: r) σ)
  | .ishl => qy_i2 st (fun x y => x <<< (y &&& 31)) (fun v r => κ (pc + len) ls (v :: r) σ)
  | .ishr => qy_i2 st (fun x y => x >>> (y &&& 31)) (fun v r => κ (pc + len) ls (v :: r) σ)
  | .iushr => qy_i2 st (fun x y => (x.toUInt32 >>> (y.toUInt32 &&& Int32.toUInt32 31)).toInt32) (fun v r => κ (pc + len) ls (v :: r) σ)
  | .idiv => match st with
    | .int y :: .int x :: r => ¬ y = 0 ∧ ∃ z, x / y = z ∧ κ (pc + len) ls (.int z :: r) σ
    | _ => False
  | .irem => match st with
    | .int y :: .int x :: r => ¬ y = 0 ∧ ∃ z, x - x / y * y = z ∧ κ (pc + len) ls (.int z :: r) σ
    | _ => False
  | .ineg => match st with
    | .int x :: r => ∃ z, -x = z ∧ κ (pc + len) ls (.int z :: r) σ
    | _ => False
  | .i2l => match st with
    | .int x :: r => ∃ z, x.toInt64 = z ∧ κ (pc + len) ls (.long z :: r) σ
    | _ => False
  | .l2i => match st with
    | .long x :: r => ∃ z, x.toInt32 = z ∧ κ (pc + len) ls (.int z :: r) σ
    | _ => False
  | .i2b => match st with
    | .int x :: r => ∃ z, x.toInt8.toInt32 = z ∧ κ (pc + len) ls (.int z :: r) σ
    | _ => False
  | .ladd => qy_l2 st (fun x y => x + y) (fun v r => κ (pc + len) ls (v :: r) σ)
  | .lsub => qy_l2 st (fun x y => x - y) (fun v r => κ (pc + len) ls (v :: r) σ)
  | .lmul => qy_l2 st (fun x y => x * y) (fun v r => κ (pc + len) ls (v :: r) σ)
  | .land => qy_l2 st (fun x y => x &&& y) (fun v r => κ (pc + len) ls (v :: r) σ)
  | .lor => qy_l2 st (fun x y => x ||| y) (fun v r => κ (pc + len) ls (v :: r) σ)
  | .ldiv => match st with
    | .long y :: .long x :: r => ¬ y = 0 ∧ ∃ z, x / y = z ∧ κ (pc + len) ls (.long z :: r) σ
    | _ => False
  | .lrem => match st with
    | .long y :: .long x :: r => ¬ y = 0 ∧ ∃ z, x - x / y * y = z ∧ κ (pc + len) ls (.long z :: r) σ
    | _ => False
  | .lshl => match st with
    | .int y :: .long x :: r => ∃ z, x <<< (y.toInt64 &&& 63) = z ∧ κ (pc + len) ls (.long z :: r) σ
    | _ => False
  | .lcmp => match st with
    | .long y :: .long x :: r => ∃ z, lg_cmp x y = z ∧ κ (pc + len) ls (.int z :: r) σ
    | _ => False
  | .arraylength => match st with
    | .ref a :: r => cond sc (κ (pc + len) ls (.int (nI (qx_sh T σ 0).2) :: r) σ ∧ a = 0) (∃ n z, qx_sh T σ a = n ∧ n.1 ≤ 7 ∧ nI n.2 = z ∧ κ (pc + len) ls (.int z :: r) σ)
    | _ => False
  | .iaload => match st with
    | .int j :: .ref a :: r => cond sc (a = 0 ∧ vp_in j (qx_sh T σ 0).2 ∧ κ (pc + len) ls (.int (σ.2.2.2.1 0 j.toNatClampNeg) :: r) σ) (∃ k v, j = nI k ∧ qy_in T σ a 0 k ∧ σ.2.2.2.1 a k = v ∧ κ (pc + len) ls (.int v :: r) σ)
    | _ => False
  | .baload => match st with
    | .int j :: .ref a :: r => ∃ k v, j = nI k ∧ (qy_in T σ a 1 k ∨ qy_in T σ a 2 k) ∧ σ.2.2.2.1 a k = v ∧ κ (pc + len) ls (.int v :: r) σ
    | _ => False
  | .laload => match st with
    | .int j :: .ref a :: r => ∃ k v, j = nI k ∧ qy_in T σ a 3 k ∧ σ.2.2.2.2.1 a k = v ∧ κ (pc + len) ls (.long v :: r) σ
    | _ => False
  | .aaload => match st with
    | .int j :: .ref a :: r => ∃ k v kd, j = nI k ∧ (qy_in T σ a kd k ∧ 4 ≤ kd ∧ kd ≤ 7) ∧ σ.2.2.2.2.2 a k = v ∧ qy_ro v (fun v => κ (pc + len) ls (v :: r) σ)
    | _ => False
  | .iastore => match st with
    | .int x :: .int j :: .ref a :: r => ∃ k s, j = nI k ∧ qy_in T σ a 0 k ∧ qx_wi σ a k x = s ∧ κ (pc + len) ls r s
    | _ => False
  | .bastore => match st with
    | .int x :: .int j :: .ref a :: r => (∃ k s, j = nI k ∧ qy_in T σ a 1 k ∧ qx_wi σ a k x.toInt8.toInt32 = s ∧ κ (pc + len) ls r s) ∨ (∃ k s, j = nI k ∧ qy_in T σ a 2 k ∧ (x = 0 ∨ x = 1) ∧ qx_wi σ a k x = s ∧ κ (pc + len) ls r s)
    | _ => False
  | .lastore => match st with
    | .long x :: .int j :: .ref a :: r => ∃ k s, j = nI k ∧ qy_in T σ a 3 k ∧ qx_wl σ a k x = s ∧ κ (pc + len) ls r s
    | _ => False
  | .aastore => match st with
    | .ref x :: .int j :: .ref a :: r => ∃ k s kd, j = nI k ∧ (qy_in T σ a kd k ∧ 4 ≤ kd ∧ kd ≤ 7) ∧ (qx_sh T σ x).1 = 8 + [4, 5, 7, 8].getD (kd - 4) 50 ∧ qx_wr σ a k (some x) = s ∧ κ (pc + len) ls r s
    | _ => False
  | .getfield k => match st with
    | .ref a :: r => qy_get T (qx_lk lk k) (fun v => κ (pc + len) ls (v :: r) σ) a σ
    | _ => False
  | .putfield k => match st with
    | v :: .ref a :: r => qy_put T (qx_lk lk k) (fun σ1 => κ (pc + len) ls r σ1) a v σ
    | _ => False
  | .new k => match qx_lk lk k with
    | (5, n, [ci], _, _) => ∃ a s, σ.1 = a ∧ qx_al σ (40 + ci, 0) n = s ∧ κ (pc + len) ls (.ref a :: st) s
    | _ => False
  | .newarray t => match st with
    | .int n :: r => ∃ k a s, n = nI k ∧ k ≤ 100000 ∧ σ.1 = a ∧ qx_al σ (qx_akd t, k) k = s ∧ κ (pc + len) ls (.ref a :: r) s
    | _ => False
  | .anewarray k => match st, (qx_lk lk (k + 100000)).1 with
    | .int n :: r, 8 => ∃ k' a s, n = nI k' ∧ k' ≤ 100000 ∧ σ.1 = a ∧ qx_al σ ((qx_lk lk (k + 100000)).2.1, k') k' = s ∧ κ (pc + len) ls (.ref a :: r) s
    | _, _ => False
  | .invokevirtual k => cond (Nat.beq (qx_lk lk k).1 1) (qy_inv T call (qx_lk lk k) st σ (fun r σ1 => κ (pc + len) ls r σ1)) False
  | .invokespecial k => cond (Nat.beq (qx_lk lk k).1 2) (qy_inv T call (qx_lk lk k) st σ (fun r σ1 => κ (pc + len) ls r σ1)) (cond (Nat.beq (qx_lk lk k).1 4) (qy_inv T call (qx_lk lk k) st σ (fun r σ1 => κ (pc + len) ls r σ1)) False)
  | .invokestatic k => cond (Nat.ble 11 (qx_lk lk k).1) (qy_inv T call (qx_lk lk k) st σ (fun r σ1 => κ (pc + len) ls r σ1)) (cond (Nat.beq (qx_lk lk k).1 3) (qy_inv T call (qx_lk lk k) st σ (fun r σ1 => κ (pc + len) ls r σ1)) False)
  | i => qx_step T sc call ty lk Φ κ i pc len ls st σ
def qy_wp (G : qx_G) (T : qx_T) (d : Nat) (c : qx_C) (cuts : List Nat) (Φ : qx_F) : Nat → Nat → List Value → List Value → qx_S → Prop
  | 0, pc, ls, st, σ => qx_Kc G T d c Φ pc ls st σ
  | n + 1, pc, ls, st, σ => match qx_cd c.2.2.1 pc with
    | none => False
    | some q => qy_step T c.2.2.2.2 (qx_call G T d) c.2.1.2.2.2 c.2.2.2.1 Φ (fun pc' ls' st' σ' => cond (qx_in cuts pc') (qx_Kc G T d c Φ pc' ls' st' σ') (qy_wp G T d c cuts Φ n pc' ls' st' σ')) q.1 pc q.2 ls st σ
theorem qy_in.b {T : qx_T} {σ : qx_S} {a kd k : Nat} (h : qy_in T σ a kd k) : (qx_sh T σ a).1 = kd ∧ vp_in (nI k) (qx_sh T σ a).2 ∧ (nI k).toNatClampNeg = k := by
  obtain ⟨n, h1, h2, h3⟩ := h
  rw [h1]
  exact ⟨rfl, vp_in_nI h2 h3, nI_clamp (by omega)⟩
theorem qy_ci {b : Bool} {A : Prop} (h : b = true) (k : A) : cond b A False := by rw [h]; exact k
theorem qy_beq {a b : Nat} (h : a = b) : Nat.beq a b = true := by subst h; exact Nat.beq_refl a
theorem qy_ro_x {v : Option Nat} {κ : Value → Prop} (h : qy_ro v κ) : qx_rr v κ := by
  cases v with
  | none => exact ⟨fun _ => h, fun x hx => by cases hx⟩
  | some x => exact And.intro (fun hx => by cases hx) (fun y hy => by cases hy; exact h)
theorem qy_get_x {T : qx_T} {e : qx_L} {κ : Value → Prop} {a : Nat} {σ : qx_S} (h : qy_get T e κ a σ) : qx_get T e κ a σ := by
  unfold qy_get at h
  unfold qx_get
  split at h
  · next e0 =>
    rw [e0]
    split at h
    · next f0 => rw [f0]; obtain ⟨g, f, v, rfl, rfl, h⟩ := h; exact qy_ci g h
    · next f0 => rw [f0]; obtain ⟨g, f, v, rfl, rfl, h⟩ := h; exact qy_ci g h
    · next f0 => rw [f0]; obtain ⟨g, f, v, rfl, rfl, h⟩ := h; exact qy_ci g h
    · next f0 => rw [f0]; obtain ⟨g, f, v, rfl, rfl, h⟩ := h; exact qy_ci g (qy_ro_x h)
    · next f0 => rw [f0]; obtain ⟨g, b, rfl, h⟩ := h; exact qy_ci g h
    · next f0 => rw [f0]; obtain ⟨g, b, rfl, h⟩ := h; exact qy_ci g h
    · exact h.elim
  · next e0 => rw [e0]; obtain ⟨g, f, v, rfl, rfl, h⟩ := h; exact qy_ci g (qy_ro_x h)
  · exact h.elim
theorem qy_put_x {T : qx_T} {e : qx_L} {κ : qx_S → Prop} {a : Nat} {v : Value} {σ : qx_S} (h : qy_put T e κ a v σ) : qx_put T e κ a v σ := by
  unfold qy_put at h
  unfold qx_put
  split at h
  · next e0 =>
    rw [e0]
    split at h
    · next f0 => rw [f0]; obtain ⟨g, f, s, rfl, rfl, h⟩ := h; exact qy_ci g h
    · next f0 => rw [f0]; obtain ⟨g, q, f, s, rfl, rfl, h⟩ := h; exact qy_ci g ⟨q, h⟩
    · next f0 => rw [f0]; obtain ⟨g, f, s, rfl, rfl, h⟩ := h; exact qy_ci g h
    · next f0 => rw [f0]; obtain ⟨g, f, s, rfl, rfl, h⟩ := h; exact qy_ci g h
    · next f0 => rw [f0]; obtain ⟨g, f, s, rfl, rfl, h⟩ := h; exact qy_ci g h
    · exact h.elim
  · next e0 =>
    rw [e0]
    split at h
    · obtain ⟨g, f, s, rfl, rfl, h⟩ := h; exact qy_ci g h
    · exact h.elim
  · exact h.elim
theorem qy_virt_x {T : qx_T} {call : qx_ca} {a : Nat} {as : List Value} {σ : qx_S} {κ : Option Value → qx_S → Prop} : ∀ ys : List (Nat × qx_Y), qy_virt T call ys a as σ κ → qx_virt T call ys a as σ κ
  | [], h => h
  | [y], h => qy_ci (qy_beq h.1) h.2
  | y :: z :: r, h => by
    rcases h with h | h
    · exact Or.inl ⟨qy_beq h.1, h.2⟩
    · exact Or.inr (qy_virt_x (z :: r) h)
theorem qy_inv_x {T : qx_T} {call : qx_ca} {e : qx_L} {st : List Value} {σ : qx_S} {κ : List Value → qx_S → Prop} (h : qy_inv T call e st σ κ) : qx_inv T call e st σ κ := by
  unfold qy_inv at h
  unfold qx_inv
  split at h
  · next e0 =>
    rw [e0]
    show qx_iv1 T call e st σ κ
    unfold qy_iv1 at h
    unfold qx_iv1
    split at h
    · next as a rest hp =>
      rw [hp]
      obtain ⟨g, h⟩ := qx_cond h
      exact qy_ci g (qy_virt_x _ h)
    · exact h.elim
  · next e0 => rw [e0]; exact h
  · next e0 => rw [e0]; exact h
  · next e0 => rw [e0]; exact h
  · next e0 =>
    rw [e0]
    show qx_iv11 T call e st σ κ
    unfold qy_iv11 at h
    unfold qx_iv11
    split at h
    · next n dp d sp s rest =>
      obtain ⟨g, n', dp', sp', σ1, rfl, rfl, rfl, hne, ⟨N, s1, s2, s3⟩, ⟨M, t1, t2, t3⟩, rfl, h⟩ := qx_cond h
      have en : (nI n').toNatClampNeg = n' := nI_clamp (by omega)
      have ed : (nI dp').toNatClampNeg = dp' := nI_clamp (by omega)
      have es : (nI sp').toNatClampNeg = sp' := nI_clamp (by omega)
      refine qy_ci (by rw [s1]; rfl) (qy_ci (by rw [t1]; rfl) (qy_ci g ?_))
      rw [en, ed, es, s1, t1]
      exact ⟨hne, nI_pos (by omega), nI_pos (by omega), nI_pos (by omega), s2, t2, h⟩
    · exact h.elim
  · next e0 =>
    rw [e0]
    show qx_iv12 T call e st σ κ
    unfold qy_iv12 at h
    unfold qx_iv12
    split at h
    · obtain ⟨g, z, rfl, h⟩ := qx_cond h
      exact qy_ci g h
    · exact h.elim
  · next e0 =>
    rw [e0]
    show qx_iv13 T call e st σ κ
    unfold qy_iv13 at h
    unfold qx_iv13
    split at h
    · obtain ⟨g, z, rfl, h⟩ := qx_cond h
      exact qy_ci g h
    · exact h.elim
  · next e0 => rw [e0]; exact h
  · next e0 => rw [e0]; exact h
  · exact h.elim
theorem qy_i2_x {st : List Value} {f : Int32 → Int32 → Int32} {K : Value → List Value → Prop} (h : qy_i2 st f K) : qx_i2 st (fun x y r => K (.int (f x y)) r) := by
  unfold qy_i2 at h
  unfold qx_i2
  split at h
  · obtain ⟨z, rfl, h⟩ := h; exact h
  · exact h.elim
theorem qy_l2_x {st : List Value} {f : Int64 → Int64 → Int64} {K : Value → List Value → Prop} (h : qy_l2 st f K) : qx_l2 st (fun x y r => K (.long (f x y)) r) := by
  unfold qy_l2 at h
  unfold qx_l2
  split at h
  · obtain ⟨z, rfl, h⟩ := h; exact h
  · exact h.elim
theorem qy_step_x {T : qx_T} {sc : Bool} {call : qx_ca} {ty : Option FieldType} {lk : List (Nat × qx_L)} {Φ : qx_F} {κ : qx_k} (i : Instr) {pc len : Nat} {ls st : List Value} {σ : qx_S} (h : qy_step T sc call ty lk Φ κ i pc len ls st σ) : qx_step T sc call ty lk Φ κ i pc len ls st σ := by
  cases i with
  | iinc k n =>
    simp only [qy_step] at h
    simp only [qx_step]
    split at h
    · next x hx => rw [hx]; obtain ⟨z, rfl, h⟩ := h; exact h
    · exact h.elim
  | iconst n => obtain ⟨z, rfl, h⟩ := h; exact h
  | bipush n => obtain ⟨z, rfl, h⟩ := h; exact h
  | sipush n => obtain ⟨z, rfl, h⟩ := h; exact h
  | lconst n => obtain ⟨z, rfl, h⟩ := h; exact h
  | ldc k =>
    simp only [qy_step] at h
    simp only [qx_step]
    split at h
    · next hx => rw [hx]; obtain ⟨z, rfl, h⟩ := h; exact h
    · next hx => rw [hx]; exact h
    · exact h.elim
  | ldc_w k => obtain ⟨g, z, rfl, h⟩ := qx_cond h; exact qy_ci g h
  | ldc2_w k => obtain ⟨g, z, rfl, h⟩ := qx_cond h; exact qy_ci g h
  | iadd => simp only [qy_step] at h; simp only [qx_step]; exact qy_i2_x h
  | isub => simp only [qy_step] at h; simp only [qx_step]; exact qy_i2_x h
  | imul => simp only [qy_step] at h; simp only [qx_step]; exact qy_i2_x h
  | iand => simp only [qy_step] at h; simp only [qx_step]; exact qy_i2_x h
  | ior => simp only [qy_step] at h; simp only [qx_step]; exact qy_i2_x h
  | ixor => simp only [qy_step] at h; simp only [qx_step]; exact qy_i2_x h
  | ishl => simp only [qy_step] at h; simp only [qx_step]; exact qy_i2_x h
  | ishr => simp only [qy_step] at h; simp only [qx_step]; exact qy_i2_x h
  | iushr => simp only [qy_step] at h; simp only [qx_step]; exact qy_i2_x h
  | idiv =>
    simp only [qy_step] at h
    split at h
    · obtain ⟨g, z, rfl, h⟩ := h; exact ⟨g, h⟩
    · exact h.elim
  | irem =>
    simp only [qy_step] at h
    split at h
    · obtain ⟨g, z, rfl, h⟩ := h; exact ⟨g, h⟩
    · exact h.elim
  | ineg =>
    simp only [qy_step] at h
    split at h
    · obtain ⟨z, rfl, h⟩ := h; exact h
    · exact h.elim
  | i2l =>
    simp only [qy_step] at h
    split at h
    · obtain ⟨z, rfl, h⟩ := h; exact h
    · exact h.elim
  | l2i =>
    simp only [qy_step] at h
    split at h
    · obtain ⟨z, rfl, h⟩ := h; exact h
    · exact h.elim
  | i2b =>
    simp only [qy_step] at h
    split at h
    · obtain ⟨z, rfl, h⟩ := h; exact h
    · exact h.elim
  | ladd => simp only [qy_step] at h; simp only [qx_step]; exact qy_l2_x h
  | lsub => simp only [qy_step] at h; simp only [qx_step]; exact qy_l2_x h
  | lmul => simp only [qy_step] at h; simp only [qx_step]; exact qy_l2_x h
  | land => simp only [qy_step] at h; simp only [qx_step]; exact qy_l2_x h
  | lor => simp only [qy_step] at h; simp only [qx_step]; exact qy_l2_x h
  | ldiv =>
    simp only [qy_step] at h
    split at h
    · obtain ⟨g, z, rfl, h⟩ := h; exact ⟨g, h⟩
    · exact h.elim
  | lrem =>
    simp only [qy_step] at h
    split at h
    · obtain ⟨g, z, rfl, h⟩ := h; exact ⟨g, h⟩
    · exact h.elim
  | lshl =>
    simp only [qy_step] at h
    split at h
    · obtain ⟨z, rfl, h⟩ := h; exact h
    · exact h.elim
  | lcmp =>
    simp only [qy_step] at h
    split at h
    · obtain ⟨z, rfl, h⟩ := h; exact h
    · exact h.elim
  | arraylength =>
    simp only [qy_step] at h
    simp only [qx_step]
    split at h
    · cases sc with
      | true => exact h
      | false =>
        obtain ⟨n, z, rfl, g, rfl, h⟩ := h
        exact qy_ci (Nat.ble_eq_true_of_le g) h
    · exact h.elim
  | iaload =>
    simp only [qy_step] at h
    simp only [qx_step]
    split at h
    · cases sc with
      | true => exact h
      | false =>
        obtain ⟨k, v, rfl, g, rfl, h⟩ := h
        obtain ⟨g1, g2, g3⟩ := g.b
        refine qy_ci (qy_beq g1) ⟨g2, ?_⟩
        rw [g3]
        exact h
    · exact h.elim
  | baload =>
    simp only [qy_step] at h
    simp only [qx_step]
    split at h
    · obtain ⟨k, v, rfl, g, rfl, h⟩ := h
      rcases g with g | g
      · obtain ⟨g1, g2, g3⟩ := g.b
        dsimp only
        rw [g1, g3]
        exact ⟨g2, h⟩
      · obtain ⟨g1, g2, g3⟩ := g.b
        dsimp only
        rw [g1, g3]
        exact ⟨g2, h⟩
    · exact h.elim
  | laload =>
    simp only [qy_step] at h
    simp only [qx_step]
    split at h
    · obtain ⟨k, v, rfl, g, rfl, h⟩ := h
      obtain ⟨g1, g2, g3⟩ := g.b
      refine qy_ci (qy_beq g1) ⟨g2, ?_⟩
      rw [g3]
      exact h
    · exact h.elim
  | aaload =>
    simp only [qy_step] at h
    simp only [qx_step]
    split at h
    · obtain ⟨k, v, kd, rfl, ⟨g, k4, k7⟩, rfl, h⟩ := h
      obtain ⟨g1, g2, g3⟩ := g.b
      refine qy_ci (Nat.ble_eq_true_of_le (by omega)) (qy_ci (Nat.ble_eq_true_of_le (by omega)) ⟨g2, ?_⟩)
      rw [g3]
      exact qy_ro_x h
    · exact h.elim
  | iastore =>
    simp only [qy_step] at h
    simp only [qx_step]
    split at h
    · obtain ⟨k, s, rfl, g, rfl, h⟩ := h
      obtain ⟨g1, g2, g3⟩ := g.b
      refine qy_ci (qy_beq g1) ⟨g2, ?_⟩
      rw [g3]
      exact h
    · exact h.elim
  | bastore =>
    simp only [qy_step] at h
    simp only [qx_step]
    split at h
    · rcases h with ⟨k, s, rfl, g, rfl, h⟩ | ⟨k, s, rfl, g, x01, rfl, h⟩
      · obtain ⟨g1, g2, g3⟩ := g.b
        dsimp only
        rw [g1, g3]
        exact ⟨g2, h⟩
      · obtain ⟨g1, g2, g3⟩ := g.b
        dsimp only
        rw [g1, g3]
        exact ⟨g2, x01, h⟩
    · exact h.elim
  | lastore =>
    simp only [qy_step] at h
    simp only [qx_step]
    split at h
    · obtain ⟨k, s, rfl, g, rfl, h⟩ := h
      obtain ⟨g1, g2, g3⟩ := g.b
      refine qy_ci (qy_beq g1) ⟨g2, ?_⟩
      rw [g3]
      exact h
    · exact h.elim
  | aastore =>
    simp only [qy_step] at h
    simp only [qx_step]
    split at h
    · obtain ⟨k, s, kd, rfl, ⟨g, k4, k7⟩, gx, rfl, h⟩ := h
      obtain ⟨g1, g2, g3⟩ := g.b
      refine qy_ci (by rw [g1]; exact qy_beq gx) (qy_ci (Nat.ble_eq_true_of_le (by omega)) (qy_ci (Nat.ble_eq_true_of_le (by omega)) ⟨g2, ?_⟩))
      rw [g3]
      exact h
    · exact h.elim
  | getfield k =>
    simp only [qy_step] at h
    simp only [qx_step]
    split at h
    · exact qy_get_x h
    · exact h.elim
  | putfield k =>
    simp only [qy_step] at h
    simp only [qx_step]
    split at h
    · exact qy_put_x h
    · exact h.elim
  | new k =>
    simp only [qy_step] at h
    simp only [qx_step]
    split at h
    · next n ci q1 q2 hq => rw [hq]; obtain ⟨a, s, rfl, rfl, h⟩ := h; exact h
    · exact h.elim
  | newarray t =>
    simp only [qy_step] at h
    simp only [qx_step]
    split at h
    · obtain ⟨k, a, s, rfl, g, rfl, rfl, h⟩ := h
      dsimp only
      rw [nI_clamp (n := k) (by omega)]
      exact ⟨nI_pos (by omega), g, h⟩
    · exact h.elim
  | anewarray t =>
    simp only [qy_step] at h
    simp only [qx_step]
    split at h
    · next n r hq =>
      obtain ⟨k, a, s, rfl, g, rfl, rfl, h⟩ := h
      rw [hq]
      show ¬ nI k < 0 ∧ (nI k).toNatClampNeg ≤ 100000 ∧ κ (pc + len) ls (.ref σ.1 :: r) (qx_al σ ((qx_lk lk (t + 100000)).2.1, (nI k).toNatClampNeg) (nI k).toNatClampNeg)
      rw [nI_clamp (n := k) (by omega)]
      exact ⟨nI_pos (by omega), g, h⟩
    · exact h.elim
  | invokevirtual k => obtain ⟨g, h⟩ := qx_cond h; exact qy_ci g (qy_inv_x h)
  | invokespecial k =>
    simp only [qy_step] at h
    simp only [qx_step]
    cases e2 : Nat.beq (qx_lk lk k).1 2 with
    | true => rw [e2] at h; exact qy_inv_x h
    | false => rw [e2] at h; obtain ⟨g, h⟩ := qx_cond h; exact qy_ci g (qy_inv_x h)
  | invokestatic k =>
    simp only [qy_step] at h
    simp only [qx_step]
    cases e2 : Nat.ble 11 (qx_lk lk k).1 with
    | true => rw [e2] at h; exact qy_inv_x h
    | false => rw [e2] at h; obtain ⟨g, h⟩ := qx_cond h; exact qy_ci g (qy_inv_x h)
  | _ => exact h
theorem qy_wp_ok {G : qx_G} {T : qx_T} {d : Nat} {c : qx_C} {cuts : List Nat} {Φ : qx_F} (hg : qx_gd c = true) (hL : qx_Lk c.1 c.2.1 c.2.2.2.1) : ∀ (n pc : Nat) (ls st : List Value) (σ : qx_S), qy_wp G T d c cuts Φ n pc ls st σ → qx_Kc G T d c Φ pc ls st σ := by
  intro n
  induction n with
  | zero => intro pc ls st σ h; exact h
  | succ n ih =>
    intro pc ls st σ h
    unfold qy_wp at h
    split at h
    · exact h.elim
    · next q hq =>
      have hm := List.all_eq_true.mp hg _ (qx_cd_mem _ _ _ hq)
      simp only [Bool.and_eq_true, decide_eq_true_eq] at hm
      refine qx_step_ok (fun pc' ls' st' σ' h' => ?_) hL q.1 hm.1 hm.2.1 hm.2.2 (qy_step_x q.1 h)
      cases hc : qx_in cuts pc' with
      | true => rw [hc] at h'; exact h'
      | false => rw [hc] at h'; exact ih _ _ _ _ h'
