/-! TEXTS: bytes, words, numbers, signs -/
/-- a tape: how many bytes, which -/
abbrev q_T : Type := Nat × (Nat → Nat)
def sx (x : Nat) : Int32 := if x < 128 then nI x else nI x - nI 256
theorem sx_d : ∀ x, x < 256 → (sx x).toInt = (if x < 128 then (x : Int) else (x : Int) - 256) := by decide +kernel
theorem sx_and : ∀ x, x < 256 → sx x &&& nI 255 = nI x := by decide +kernel
theorem sx_lo {x : Nat} (h : x < 128) : sx x = nI x := if_pos h
theorem sx_eq {x c : Nat} (hx : x < 256) (hc : c < 128) : sx x = nI c ↔ x = c := by
  constructor
  · intro h
    have h2 := congrArg Int32.toInt h
    rw [sx_d x hx, nI_toInt (by omega)] at h2
    split at h2 <;> omega
  · rintro rfl
    exact sx_lo hc
theorem sx_ge {x c : Nat} (hx : x < 256) (hc : c < 128) : nI c ≤ sx x ↔ c ≤ x ∧ x < 128 := by
  rw [Int32.le_iff_toInt_le, sx_d x hx, nI_toInt (by omega)]
  split <;> omega
theorem sx_le {x c : Nat} (hx : x < 256) (hc : c < 128) : sx x ≤ nI c ↔ x ≤ c ∨ 128 ≤ x := by
  rw [Int32.le_iff_toInt_le, sx_d x hx, nI_toInt (by omega)]
  split <;> omega
/-- the least byte of a number -/
def q_by (x : Int32) : Nat := x.toBitVec.toNat % 256
theorem q_by_lt (x : Int32) : q_by x < 256 := Nat.mod_lt _ (by decide)
theorem q_by_sx (x : Int32) : x.toInt8.toInt32 = sx (q_by x) := by
  apply Int32.toInt_inj.mp
  rw [Int8.toInt_toInt32, sx_d _ (q_by_lt x)]
  have h : x.toInt8.toInt = x.toInt.bmod 256 := by
    rw [Int32.toInt_toInt8]
  rw [h]
  have h2 : x.toInt = x.toBitVec.toInt := rfl
  unfold q_by
  rw [h2, BitVec.toInt_eq_toNat_cond]
  have h3 : x.toBitVec.toNat < 2 ^ 32 := x.toBitVec.isLt
  generalize x.toBitVec.toNat = n at h3
  split <;> rw [Int.bmod_def] <;> split <;> split <;> omega
/-- as far as it goes on -/
def q_run (f : Nat → Bool) : Nat → Nat → Nat
  | 0, i => i
  | m + 1, i => if f i = true then q_run f m (i + 1) else i
theorem q_run_ge (f : Nat → Bool) : ∀ m i, i ≤ q_run f m i
  | 0, _ => Nat.le_refl _
  | m + 1, i => by
    unfold q_run
    split
    · exact Nat.le_trans (Nat.le_succ i) (q_run_ge f m (i + 1))
    · exact Nat.le_refl _
theorem q_run_le (f : Nat → Bool) : ∀ m i, q_run f m i ≤ i + m
  | 0, _ => Nat.le_refl _
  | m + 1, i => by
    unfold q_run
    split
    · exact Nat.le_trans (q_run_le f m (i + 1)) (by omega)
    · omega
theorem q_run_in (f : Nat → Bool) : ∀ m i k, i ≤ k → k < q_run f m i → f k = true
  | 0, i, k, h1, h2 => absurd (show k < i from h2) (by omega)
  | m + 1, i, k, h1, h2 => by
    unfold q_run at h2
    split at h2
    · next h =>
      rcases Nat.lt_or_ge i k with z | z
      · exact q_run_in f m (i + 1) k z h2
      · obtain rfl : i = k := by omega
        exact h
    · omega
theorem q_run_end (f : Nat → Bool) : ∀ m i, q_run f m i < i + m → f (q_run f m i) = false
  | 0, i, h => absurd (show i < i from h) (by omega)
  | m + 1, i, h => by
    unfold q_run at h ⊢
    split at h
    · next z => rw [if_pos z]; exact q_run_end f m (i + 1) (by omega)
    · next z =>
      rw [if_neg z]
      cases y : f i with
      | false => rfl
      | true => exact absurd y z
def isB (T : q_T) (i : Nat) : Bool := decide (i < T.1 ∧ T.2 i = 32)
def isD (T : q_T) (i : Nat) : Bool := decide (i < T.1 ∧ 48 ≤ T.2 i ∧ T.2 i ≤ 57)
def isL (T : q_T) (i : Nat) : Bool := decide (i < T.1 ∧ 97 ≤ T.2 i ∧ T.2 i ≤ 122)
def q_rn (f : Nat → Bool) (n i : Nat) : Nat := q_run f (n - i) i
theorem q_rn_t {f : Nat → Bool} {n i : Nat} (hi : i < n) (h : f i = true) : q_rn f n i = q_rn f n (i + 1) := by
  unfold q_rn
  rw [show n - i = n - (i + 1) + 1 by omega]
  exact if_pos h
theorem q_rn_f {f : Nat → Bool} {n i : Nat} (h : f i = false) : q_rn f n i = i := by
  unfold q_rn
  cases n - i with
  | zero => rfl
  | succ m => exact if_neg (by rw [h]; decide)
theorem q_rn_ge (f : Nat → Bool) (n i : Nat) : i ≤ q_rn f n i := q_run_ge _ _ _
theorem q_rn_le (f : Nat → Bool) {n i : Nat} (h : i ≤ n) : q_rn f n i ≤ n := Nat.le_trans (q_run_le _ _ _) (by omega)
theorem q_rn_in {f : Nat → Bool} {n i k : Nat} (h1 : i ≤ k) (h2 : k < q_rn f n i) : f k = true := q_run_in _ _ _ _ h1 h2
theorem q_rn_end {f : Nat → Bool} {n i : Nat} (hf : f n = false) (h : i ≤ n) : f (q_rn f n i) = false := by
  rcases Nat.lt_or_ge (q_rn f n i) n with z | z
  · exact q_run_end _ _ _ (show q_rn f n i < i + (n - i) by omega)
  · rw [Nat.le_antisymm (q_rn_le f h) z]
    exact hf
abbrev q_sk (T : q_T) (i : Nat) : Nat := q_rn (isB T) T.1 i
abbrev q_de (T : q_T) (i : Nat) : Nat := q_rn (isD T) T.1 i
abbrev q_le (T : q_T) (i : Nat) : Nat := q_rn (isL T) T.1 i
theorem isB_n (T : q_T) : isB T T.1 = false := decide_eq_false (fun z => by omega)
theorem isD_n (T : q_T) : isD T T.1 = false := decide_eq_false (fun z => by omega)
theorem isL_n (T : q_T) : isL T T.1 = false := decide_eq_false (fun z => by omega)
theorem q_sk_i {T : q_T} {i : Nat} (h : i ≤ T.1) : q_sk T (q_sk T i) = q_sk T i := q_rn_f (q_rn_end (isB_n T) h)
/-- what is seen -/
def q_see (T : q_T) (p : Nat) : Int32 := if p < T.1 then nI (T.2 p) else -1
/-- a word as a number -/
def q_pk (T : q_T) (s : Nat) : Nat → Nat
  | 0 => 0
  | k + 1 => 256 * q_pk T s k + T.2 (s + k)
def q_WS : List Nat := [0x706572736f6e, 0x776569676874, 0x686f6d65, 0x6174, 0x746f, 0x77697368, 0x77697468, 0x6f74686572, 0x72696e67, 0x6f776573, 0x646179, 0x6d6f766564, 0x706c61636573, 0x62656e6368, 0x63616c6c, 0x626172, 0x77616e74, 0x6966, 0x6f72, 0x616e64, 0x6e6f74]
def q_wn (T : q_T) (s : Nat) : Nat := q_le T s - s
/-- which word begins here: 21 none such -/
def q_wx (T : q_T) (s : Nat) : Nat := if 0 < q_wn T s ∧ q_wn T s < 8 then q_WS.idxOf (q_pk T s (q_wn T s)) else 21
/-- a number's first digits -/
def q_dv (T : q_T) (s : Nat) : Nat → Nat
  | 0 => 0
  | k + 1 => 10 * q_dv T s k + (T.2 (s + k) - 48)
def q_nu (T : q_T) (s : Nat) : Nat := q_dv T s (min 5 (q_de T s - s))
def q_two2 (T : q_T) (s : Nat) : Bool := decide ((T.2 s = 60 ∨ T.2 s = 62) ∧ s + 1 < T.1 ∧ T.2 (s + 1) = 61)
/-- the kind of the piece that begins at s -/
def q_kd (T : q_T) (s : Nat) : Nat :=
  if s < T.1 then (if isL T s = true then (if q_wx T s < 21 then 300 + q_wx T s else 260) else if isD T s = true then (if q_de T s - s ≤ 5 then 256 else 257) else if q_two2 T s = true then (if T.2 s = 60 then 258 else 259) else T.2 s) else 999
/-- behind it -/
def q_te (T : q_T) (s : Nat) : Nat :=
  if s < T.1 then (if isL T s = true then q_le T s else if isD T s = true then q_de T s else if q_two2 T s = true then s + 2 else s + 1) else s
def q_nx (T : q_T) (s : Nat) : Nat := q_sk T (q_te T s)
theorem isL_lt {T : q_T} {s : Nat} (h : isL T s = true) : s < T.1 ∧ 97 ≤ T.2 s ∧ T.2 s ≤ 122 := of_decide_eq_true h
theorem isD_lt {T : q_T} {s : Nat} (h : isD T s = true) : s < T.1 ∧ 48 ≤ T.2 s ∧ T.2 s ≤ 57 := of_decide_eq_true h
theorem isLD {T : q_T} {s : Nat} (h : isL T s = true) : isD T s = false := by
  cases h2 : isD T s with
  | false => rfl
  | true => have a := isL_lt h; have b := isD_lt h2; omega
theorem q_kd_L {T : q_T} {s : Nat} (h : isL T s = true) : q_kd T s = if q_wx T s < 21 then 300 + q_wx T s else 260 := by
  unfold q_kd
  rw [if_pos (isL_lt h).1, if_pos h]
theorem q_kd_D {T : q_T} {s : Nat} (h : isD T s = true) : q_kd T s = if q_de T s - s ≤ 5 then 256 else 257 := by
  have hl : ¬ isL T s = true := fun z => by rw [isLD z] at h; cases h
  unfold q_kd
  rw [if_pos (isD_lt h).1, if_neg hl, if_pos h]
theorem q_te_L {T : q_T} {s : Nat} (h : isL T s = true) : q_te T s = q_le T s := by
  unfold q_te
  rw [if_pos (isL_lt h).1, if_pos h]
theorem q_te_D {T : q_T} {s : Nat} (h : isD T s = true) : q_te T s = q_de T s := by
  have hl : ¬ isL T s = true := fun z => by rw [isLD z] at h; cases h
  unfold q_te
  rw [if_pos (isD_lt h).1, if_neg hl, if_pos h]
/-- other signs -/
theorem q_kd_S {T : q_T} {s : Nat} (h : s < T.1) (h1 : isL T s = false) (h2 : isD T s = false) : q_kd T s = (if q_two2 T s = true then (if T.2 s = 60 then 258 else 259) else T.2 s) ∧ q_te T s = (if q_two2 T s = true then s + 2 else s + 1) := by
  have n1 : ¬ isL T s = true := by rw [h1]; decide
  have n2 : ¬ isD T s = true := by rw [h2]; decide
  unfold q_kd q_te
  constructor
  · rw [if_pos h, if_neg n1, if_neg n2]
  · rw [if_pos h, if_neg n1, if_neg n2]
theorem q_kd_E {T : q_T} {s : Nat} (h : T.1 ≤ s) : q_kd T s = 999 ∧ q_te T s = s := by
  have n1 : ¬ s < T.1 := by omega
  unfold q_kd q_te
  constructor
  · rw [if_neg n1]
  · rw [if_neg n1]
theorem q_le_gt {T : q_T} {s : Nat} (h : isL T s = true) : s < q_le T s := by
  show s < q_rn _ _ _
  rw [q_rn_t (isL_lt h).1 h]
  exact q_rn_ge _ _ _
theorem q_de_gt {T : q_T} {s : Nat} (h : isD T s = true) : s < q_de T s := by
  show s < q_rn _ _ _
  rw [q_rn_t (isD_lt h).1 h]
  exact q_rn_ge _ _ _
theorem q_wn_0 {T : q_T} {s : Nat} (h : isL T s = false) : q_wn T s = 0 := by
  unfold q_wn
  rw [show q_le T s = s from q_rn_f h]
  omega
theorem q_te_gt {T : q_T} {s : Nat} (h : s < T.1) : s < q_te T s ∧ q_te T s ≤ T.1 := by
  unfold q_te
  rw [if_pos h]
  split
  · next z => exact ⟨q_le_gt z, q_rn_le _ (by omega)⟩
  · split
    · next z => exact ⟨q_de_gt z, q_rn_le _ (by omega)⟩
    · split
      · next z => have := of_decide_eq_true z; omega
      · omega
theorem q_nx_gt {T : q_T} {s : Nat} (h : s < T.1) : s < q_nx T s ∧ q_nx T s ≤ T.1 := by
  have := q_te_gt h
  exact ⟨Nat.lt_of_lt_of_le this.1 (q_rn_ge _ _ _), q_rn_le _ this.2⟩
theorem q_nx_sk {T : q_T} {s : Nat} (h : s ≤ T.1) : q_sk T (q_nx T s) = q_nx T s := by
  refine q_sk_i ?_
  rcases Nat.lt_or_ge s T.1 with z | z
  · exact (q_te_gt z).2
  · rw [(q_kd_E z).2]; exact h
/-- is it the word w? -/
def q_isw (T : q_T) (s w : Nat) : Bool := decide (0 < q_wn T s ∧ q_wn T s < 8 ∧ q_pk T s (q_wn T s) = w)
theorem q_ws_i : ∀ j, j < 21 → q_WS.idxOf (q_WS.getD j 0) = j := by decide +kernel
theorem q_ws_g {p j : Nat} (hj : j < 21) (h : q_WS.idxOf p = j) : p = q_WS.getD j 0 := by
  have hl : q_WS.idxOf p < q_WS.length := by rw [h]; exact hj
  have e := List.getElem_idxOf hl
  rw [List.getD_eq_getElem?_getD, ← h, List.getElem?_eq_getElem hl, e]
  rfl
theorem q_kd_w {T : q_T} {s j : Nat} (hb : ∀ k, k < T.1 → T.2 k < 256) (hj : j < 21) : q_isw T s (q_WS.getD j 0) = decide (q_kd T s = 300 + j) := by
  unfold q_isw
  refine decide_eq_decide.mpr ?_
  cases hl : isL T s with
  | false =>
    rw [q_wn_0 hl]
    refine ⟨fun z => absurd z.1 (by omega), fun z => ?_⟩
    exfalso
    rcases Nat.lt_or_ge s T.1 with y | y
    · cases hd : isD T s with
      | true => rw [q_kd_D hd] at z; split at z <;> omega
      | false =>
        have b := hb s y
        rw [(q_kd_S y hl hd).1] at z
        split at z
        · split at z <;> omega
        · omega
    · rw [(q_kd_E y).1] at z
      omega
  | true =>
    rw [q_kd_L hl]
    constructor
    · rintro ⟨a, b, c⟩
      have e : q_wx T s = j := by
        unfold q_wx
        rw [if_pos (And.intro a b), c, q_ws_i j hj]
      rw [e, if_pos hj]
    · intro h
      by_cases c : 0 < q_wn T s ∧ q_wn T s < 8
      · have e : q_wx T s = q_WS.idxOf (q_pk T s (q_wn T s)) := if_pos c
        rw [e] at h
        split at h
        · refine ⟨c.1, c.2, q_ws_g hj (by omega)⟩
        · omega
      · have e : q_wx T s = 21 := if_neg c
        rw [e] at h
        rw [if_neg (show ¬ 21 < 21 by omega)] at h
        omega
/-- a sign that stands alone -/
theorem q_kd_c {T : q_T} {s c : Nat} (hb : ∀ k, k < T.1 → T.2 k < 256) (hc : c < 128) (h1 : ¬ (97 ≤ c ∧ c ≤ 122)) (h2 : ¬ (48 ≤ c ∧ c ≤ 57)) (h3 : c ≠ 60 ∧ c ≠ 62) : q_see T s = nI c ↔ q_kd T s = c := by
  unfold q_see
  rcases Nat.lt_or_ge s T.1 with y | y
  · have b := hb s y
    rw [if_pos y, nI_eq (by omega) (by omega)]
    cases hl : isL T s with
    | true =>
      have a := isL_lt hl
      rw [q_kd_L hl]
      refine ⟨fun z => by omega, fun z => ?_⟩
      split at z <;> omega
    | false =>
      cases hd : isD T s with
      | true =>
        have a := isD_lt hd
        rw [q_kd_D hd]
        refine ⟨fun z => by omega, fun z => ?_⟩
        split at z <;> omega
      | false =>
        rw [(q_kd_S y hl hd).1]
        cases h4 : q_two2 T s with
        | true =>
          have a := of_decide_eq_true h4
          rw [if_pos rfl]
          refine ⟨fun z => by omega, fun z => ?_⟩
          split at z <;> omega
        | false => rw [if_neg (by decide)]
  · rw [if_neg (by omega), (q_kd_E y).1]
    refine ⟨fun z => ?_, fun z => by omega⟩
    exfalso
    have h := congrArg Int32.toInt z
    rw [nI_toInt (by omega)] at h
    exact absurd h (by rw [show (-1 : Int32).toInt = -1 from rfl]; omega)
