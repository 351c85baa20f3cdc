/-! WHAT IS MEANT: rules and what they answer -/
abbrev qS : Type := Nat → Int32
/-- a rule: clauses, length, steps, of a clause: bar, from, testFrom, to -/
abbrev qR : Type := Nat × Nat × (Nat → Nat) × (Nat → Bool × Nat × Nat × Nat)
def q_nc (R : qR) : Nat := R.1
def q_len (R : qR) : Nat := R.2.1
def q_cd (R : qR) : Nat → Nat := R.2.2.1
def q_bar (R : qR) (c : Nat) : Bool := (R.2.2.2 c).1
def q_fr (R : qR) (c : Nat) : Nat := (R.2.2.2 c).2.1
def q_tf (R : qR) (c : Nat) : Nat := (R.2.2.2 c).2.2.1
def q_to (R : qR) (c : Nat) : Nat := (R.2.2.2 c).2.2.2
/-- what is done with two -/
def q_op (m : Nat) (x y : Int64) : Int64 := match m with
  | 2 => x + y
  | 3 => x - y
  | 4 => x * y
  | 5 => if y = lN 0 then lN 0 else x / y
  | 6 => if x < y then lN 1 else lN 0
  | 7 => if x ≤ y then lN 1 else lN 0
  | 8 => if x = y then lN 1 else lN 0
  | 9 => if y ≤ x then lN 1 else lN 0
  | 10 => if y < x then lN 1 else lN 0
  | 12 => x &&& y
  | _ => x ||| y
/-- a step's code in the reference -/
def q_sg (c : Nat) : Nat := if c < 100000 then 16 * c else if c < 100012 then 1 + 16 * (c - 100000) else c - 100010
def ev_st (w : Nat → Int64) (c : Nat) (s : List Int64) : List Int64 :=
  if c < 100000 then lN c :: s else if c < 100012 then w (c - 100000) :: s else if c = 100021 then (match s with
    | x :: r => (lN 1 - x) :: r
    | [] => []) else match s with
    | y :: x :: r => q_op (c - 100010) x y :: r
    | s => s
def ev_run (w : Nat → Int64) (code : Nat → Nat) : Nat → Nat → List Int64 → List Int64
  | 0, _, s => s
  | n + 1, i, s => ev_run w code n (i + 1) (ev_st w (code i) s)
def ev (code : Nat → Nat) (w : Nat → Int64) (b e : Nat) : Int64 := (ev_run w code (e - b) b []).headD 0
/-- types: false a number, true a test's answer -/
def ty_st (c : Nat) (s : List Bool) : Option (List Bool) :=
  if c < 100012 then (if s.length < 60 then some (false :: s) else none)
  else if c < 100016 then (match s with
    | false :: false :: r => some (false :: r)
    | _ => none)
  else if c < 100021 then (match s with
    | false :: false :: r => some (true :: r)
    | _ => none)
  else if c = 100021 then (match s with
    | true :: r => some (true :: r)
    | _ => none)
  else if c < 100024 then (match s with
    | true :: true :: r => some (true :: r)
    | _ => none)
  else none
def ty_run (code : Nat → Nat) : Nat → Nat → List Bool → Option (List Bool)
  | 0, _, s => some s
  | n + 1, i, s => match ty_st (code i) s with
    | none => none
    | some s' => ty_run code n (i + 1) s'
/-- a stretch of steps that makes one value -/
def q_sq (code : Nat → Nat) (b e : Nat) (t : Bool) : Prop := b ≤ e ∧ ty_run code (e - b) b [] = some [t]
def q_wf (R : qR) : Prop := q_nc R ≤ 12 ∧ q_len R ≤ 400 ∧ (∀ i, i < q_len R → q_cd R i < 100024) ∧
  ∀ c, c < q_nc R → q_fr R c ≤ q_tf R c ∧ q_tf R c ≤ q_to R c ∧ q_to R c ≤ q_len R ∧ (q_bar R c = true → q_fr R c = q_tf R c ∧ q_tf R c < q_to R c) ∧ (q_bar R c = false → q_sq (q_cd R) (q_fr R c) (q_tf R c) false) ∧ (q_tf R c < q_to R c → q_sq (q_cd R) (q_tf R c) (q_to R c) true)
/-- values fit their types -/
def ty_ok : List Bool → List Int64 → Prop
  | [], [] => True
  | b :: bs, x :: xs => (b = true → x = lN 0 ∨ x = lN 1) ∧ ty_ok bs xs
  | _, _ => False
theorem ty_ok_len : ∀ (ts : List Bool) (s : List Int64), ty_ok ts s → s.length = ts.length
  | [], [], _ => rfl
  | [], _ :: _, h => h.elim
  | _ :: _, [], h => h.elim
  | _ :: bs, _ :: xs, h => by simp [ty_ok_len bs xs h.2]
theorem ty_st_len {c : Nat} {s s' : List Bool} (h : ty_st c s = some s') : s'.length ≤ 60 ∨ s'.length ≤ s.length := by
  unfold ty_st at h
  split at h
  · split at h
    · next hl => cases h; left; simp; omega
    · cases h
  · split at h
    · split at h
      · cases h; right; simp
      · cases h
    · split at h
      · split at h
        · cases h; right; simp
        · cases h
      · split at h
        · split at h
          · cases h; right; simp
          · cases h
        · split at h
          · split at h
            · cases h; right; simp
            · cases h
          · cases h
theorem q_op_01 {m : Nat} {x y : Int64} (hm : 6 ≤ m) (h : m ≤ 10) : q_op m x y = lN 0 ∨ q_op m x y = lN 1 := by
  rcases Nat.lt_or_ge m 7 with h1 | h1
  · obtain rfl : m = 6 := by omega
    show (if x < y then lN 1 else lN 0) = lN 0 ∨ (if x < y then lN 1 else lN 0) = lN 1
    split
    · exact Or.inr rfl
    · exact Or.inl rfl
  rcases Nat.lt_or_ge m 8 with h2 | h2
  · obtain rfl : m = 7 := by omega
    show (if x ≤ y then lN 1 else lN 0) = lN 0 ∨ (if x ≤ y then lN 1 else lN 0) = lN 1
    split
    · exact Or.inr rfl
    · exact Or.inl rfl
  rcases Nat.lt_or_ge m 9 with h3 | h3
  · obtain rfl : m = 8 := by omega
    show (if x = y then lN 1 else lN 0) = lN 0 ∨ (if x = y then lN 1 else lN 0) = lN 1
    split
    · exact Or.inr rfl
    · exact Or.inl rfl
  rcases Nat.lt_or_ge m 10 with h4 | h4
  · obtain rfl : m = 9 := by omega
    show (if y ≤ x then lN 1 else lN 0) = lN 0 ∨ (if y ≤ x then lN 1 else lN 0) = lN 1
    split
    · exact Or.inr rfl
    · exact Or.inl rfl
  · obtain rfl : m = 10 := by omega
    show (if y < x then lN 1 else lN 0) = lN 0 ∨ (if y < x then lN 1 else lN 0) = lN 1
    split
    · exact Or.inr rfl
    · exact Or.inl rfl
theorem ty_st_ok {w : Nat → Int64} {c : Nat} {ts ts' : List Bool} {s : List Int64} (h : ty_st c ts = some ts') (hs : ty_ok ts s) : ty_ok ts' (ev_st w c s) := by
  unfold ty_st at h
  unfold ev_st
  split at h
  · next h1 =>
    split at h
    · cases h
      by_cases h0 : c < 100000
      · rw [if_pos h0]; exact ⟨fun e => (by cases e), hs⟩
      · rw [if_neg h0, if_pos h1]; exact ⟨fun e => (by cases e), hs⟩
    · cases h
  · next h1 =>
    rw [if_neg (by omega), if_neg h1]
    split at h
    · next h2 =>
      rw [if_neg (by omega)]
      split at h
      · next r =>
        cases h
        match s, hs with
        | y :: x :: q, hs => exact ⟨fun e => (by cases e), hs.2.2⟩
      · cases h
    · next h2 =>
      split at h
      · next h3 =>
        rw [if_neg (by omega)]
        split at h
        · next r =>
          cases h
          match s, hs with
          | y :: x :: q, hs => exact ⟨fun _ => q_op_01 (by omega) (by omega), hs.2.2⟩
        · cases h
      · next h3 =>
        split at h
        · next h4 =>
          rw [if_pos h4]
          split at h
          · next r =>
            cases h
            match s, hs with
            | x :: q, hs =>
              refine ⟨fun _ => ?_, hs.2⟩
              rcases hs.1 rfl with e | e
              · right; rw [e]; decide
              · left; rw [e]; decide
          · cases h
        · next h4 =>
          rw [if_neg h4]
          split at h
          · next h5 =>
            split at h
            · next r =>
              cases h
              match s, hs with
              | y :: x :: q, hs =>
                refine ⟨fun _ => ?_, hs.2.2⟩
                rcases Nat.lt_or_ge c 100023 with h6 | h6
                · obtain rfl : c = 100022 := by omega
                  show x &&& y = _ ∨ x &&& y = _
                  rcases hs.1 rfl with e | e <;> rcases hs.2.1 rfl with f | f <;> rw [e, f] <;> decide
                · obtain rfl : c = 100023 := by omega
                  show x ||| y = _ ∨ x ||| y = _
                  rcases hs.1 rfl with e | e <;> rcases hs.2.1 rfl with f | f <;> rw [e, f] <;> decide
            · cases h
          · cases h
theorem ty_run_ok {w : Nat → Int64} {code : Nat → Nat} : ∀ (n i : Nat) (ts ts' : List Bool) (s : List Int64), ty_run code n i ts = some ts' → ty_ok ts s → ty_ok ts' (ev_run w code n i s)
  | 0, i, ts, ts', s, h, hs => by cases h; exact hs
  | n + 1, i, ts, ts', s, h, hs => by
    unfold ty_run at h
    split at h
    · cases h
    · next q hq => exact ty_run_ok n (i + 1) _ _ _ h (ty_st_ok hq hs)
theorem q_sq.b01 {code : Nat → Nat} {w : Nat → Int64} {b e : Nat} (h : q_sq code b e true) : ev code w b e = lN 0 ∨ ev code w b e = lN 1 := by
  have k := ty_run_ok (w := w) _ _ _ _ [] h.2 trivial
  unfold ev
  generalize ev_run w code (e - b) b [] = s at k
  match s, k with
  | [x], k => exact k.1 rfl
/-! LIKING AND LAWS -/
def s_n (S : qS) (k : Nat) : Nat := (S k).toNatClampNeg
/-- the words of a person p at a, as to a place, with another one (none: for want), in a ring -/
def q_wd (S : qS) (p a to : Nat) (wi : Option Nat) (ring i : Nat) : Int32 := match i with
  | 0 => nI p
  | 1 => S (10 + 5 * p + 1)
  | 2 => S (10 + 5 * p + 2)
  | 3 => nI a
  | 4 => nI to
  | 5 => S (60 + 8 * p + to)
  | 6 => (match wi with
    | none => nI 99
    | some o => nI o)
  | 7 => (match wi with
    | none => nI 0
    | some o => S (10 + 5 * o + 1))
  | 8 => nI ring
  | 9 => q_sum (fun k => S (154 + 10 * p + k)) (s_n S 1)
  | 10 => S 3
  | _ => S (10 + 5 * p + 4)
def q_w (S : qS) (p a to : Nat) (wi : Option Nat) (ring i : Nat) : Int64 := (q_wd S p a to wi ring i).toInt64
def q_hold (x : Int64) : Int32 := if x < -999 then -999 else if lN 999 < x then nI 999 else x.toInt32
/-- a clause's test holds, or there is none -/
def q_tst (R : qR) (w : Nat → Int64) (c : Nat) : Bool := decide (q_tf R c = q_to R c) || decide (ev (q_cd R) w (q_tf R c) (q_to R c) = lN 1)
/-- from clause c on, n clauses -/
def q_lkc (R : qR) (w : Nat → Int64) (z : Int32) : Nat → Nat → Int32
  | 0, _ => z
  | n + 1, c => if q_bar R c = false ∧ q_tst R w c = true then q_hold (ev (q_cd R) w (q_fr R c) (q_tf R c)) else q_lkc R w z n (c + 1)
def q_lk (S : qS) (rf : Option qR) (p a q : Nat) : Int32 := match rf with
  | none => S (60 + 8 * p + q)
  | some R => q_lkc R (q_w S p a q none 0) (S (60 + 8 * p + q)) (q_nc R) 0
/-- with a lie: who, and the place -/
def q_ll (S : qS) (rf : Option qR) (ly : Option (Nat × Nat)) (p a q : Nat) : Int32 := match ly with
  | none => q_lk S rf p a q
  | some (l, z) => if p = l then (if q = z then nI 999 else nI 0) else q_lk S rf p a q
def q_brc (R : qR) (w : Nat → Int64) : Nat → Nat → Bool
  | 0, _ => false
  | n + 1, c => if q_bar R c = true ∧ q_tst R w c = true then true else q_brc R w n (c + 1)
/-- barred -/
def q_br (S : qS) (rf : Option qR) (p a to o ring : Nat) : Bool := match rf with
  | none => false
  | some R => q_brc R (q_w S p a to (some o) ring) (q_nc R) 0
/-- the law that is broken -/
def q_bk (S : qS) (rf : Option qR) (ly : Option (Nat × Nat)) (p a to o ring : Nat) : Nat :=
  if to = a then 1 else if S (10 + 5 * p + 3) = nI 0 ∧ q_ll S rf ly p a to ≤ q_ll S rf ly p a a then 2 else if q_br S rf p a to o ring = true then 3 else 0
/-- places, people, where all are -/
def gS (S : qS) : Prop := (S 0 = nI (s_n S 0) ∧ s_n S 0 ≤ 8) ∧ (S 1 = nI (s_n S 1) ∧ s_n S 1 ≤ 10) ∧ ∀ p, p < s_n S 1 → S (10 + 5 * p) = nI (s_n S (10 + 5 * p)) ∧ s_n S (10 + 5 * p) < s_n S 0
abbrev s_at (S : qS) (p : Nat) : Nat := s_n S (10 + 5 * p)
/-- one of n from i on -/
def q_ex (f : Nat → Bool) : Nat → Nat → Bool
  | 0, _ => false
  | n + 1, i => f i || q_ex f n (i + 1)
theorem q_ex_iff (f : Nat → Bool) : ∀ n i, q_ex f n i = true ↔ ∃ k, i ≤ k ∧ k < i + n ∧ f k = true
  | 0, i => by
    constructor
    · intro h; cases h
    · rintro ⟨k, h1, h2, -⟩; omega
  | n + 1, i => by
    show (f i || q_ex f n (i + 1)) = true ↔ _
    rw [Bool.or_eq_true, q_ex_iff f n (i + 1)]
    constructor
    · rintro (h | ⟨k, h1, h2, h3⟩)
      · exact ⟨i, by omega, by omega, h⟩
      · exact ⟨k, by omega, by omega, h3⟩
    · rintro ⟨k, h1, h2, h3⟩
      rcases Nat.lt_or_ge i k with h | h
      · exact Or.inr ⟨k, by omega, by omega, h3⟩
      · left
        obtain rfl : i = k := by omega
        exact h3
/-- one LIKES some place more than where they are (at a) -/
def q_aw (S : qS) (rf : Option qR) (ly : Option (Nat × Nat)) (p a : Nat) : Bool := q_ex (fun q => decide (q_ll S rf ly p a a < q_ll S rf ly p a q)) (s_n S 0) 0
/-- the law that a ring breaks, from the k-th on -/
def q_lbc (S : qS) (rf : Option qR) (ly : Option (Nat × Nat)) (rg : Nat → Nat) (n : Nat) : Nat → Nat → Nat
  | 0, _ => 0
  | m + 1, k => if 0 < q_bk S rf ly (rg k) (s_at S (rg k)) (s_at S (rg ((k + 1) % n))) (rg ((k + 1) % n)) n then q_bk S rf ly (rg k) (s_at S (rg k)) (s_at S (rg ((k + 1) % n))) (rg ((k + 1) % n)) n else q_lbc S rf ly rg n m (k + 1)
def q_lb (S : qS) (rf : Option qR) (ly : Option (Nat × Nat)) (rg : Nat → Nat) (n : Nat) : Nat := q_lbc S rf ly rg n n 0
/-- all take their places, from the k-th on -/
def q_grc (rg : Nat → Nat) (n : Nat) (first : Int32) : Nat → Nat → qS → qS
  | 0, _, S => S
  | m + 1, k, S => q_grc rg n first m (k + 1) (va_up S (10 + 5 * rg k) (if k + 1 < n then S (10 + 5 * rg (k + 1)) else first))
def q_gr (rg : Nat → Nat) (n : Nat) (S : qS) : qS := q_grc rg n (S (10 + 5 * rg 0)) n 0 S
/-- debts, moves; coal -/
def q_ch1 (rg : Nat → Nat) (n k : Nat) (S : qS) : qS × Int32 :=
  let a := rg k
  let b := rg ((k + 1) % n)
  let S1 := va_up S (10 + 5 * a + 4) (S (10 + 5 * a + 4) + nI 1)
  let more := S (10 + 5 * a + 1) - S (10 + 5 * b + 1)
  if 0 < more then (va_up S1 (154 + 10 * a + b) (S1 (154 + 10 * a + b) + more), more) else (S1, 0)
def q_chc (rg : Nat → Nat) (n : Nat) : Nat → Nat → qS → Int32 → qS × Int32
  | 0, _, S, c => (S, c)
  | m + 1, k, S, c => if 0 < S (10 + 5 * rg k + 1) - S (10 + 5 * rg ((k + 1) % n) + 1) then q_chc rg n m (k + 1) (q_ch1 rg n k S).1 (c + (S (10 + 5 * rg k + 1) - S (10 + 5 * rg ((k + 1) % n) + 1))) else q_chc rg n m (k + 1) (q_ch1 rg n k S).1 c
def q_in64 (v l h : Int64) : Bool := decide (l ≤ v) && decide (v ≤ h)
theorem q_in_iff (x : Int32) {lo hi : Nat} (h : hi < 2147483648) (hl : lo < 2147483648) : q_in64 x.toInt64 (lN lo) (lN hi) = decide (nI lo ≤ x ∧ x ≤ nI hi) := by
  unfold q_in64
  have e1 : lN lo ≤ x.toInt64 ↔ nI lo ≤ x := by
    rw [Int64.le_iff_toInt_le, Int32.le_iff_toInt_le, Int32.toInt_toInt64, lN_toInt hl, nI_toInt hl]
  have e2 : x.toInt64 ≤ lN hi ↔ x ≤ nI hi := by
    rw [Int64.le_iff_toInt_le, Int32.le_iff_toInt_le, Int32.toInt_toInt64, lN_toInt h, nI_toInt h]
  rw [decide_eq_decide.mpr e1, decide_eq_decide.mpr e2, Bool.decide_and]
theorem q_ex_t {f : Nat → Bool} {n i : Nat} (h : f i = true) : q_ex f (n + 1) i = true := by
  show (f i || _) = true
  rw [h]
  rfl
theorem q_ex_f {f : Nat → Bool} {n i : Nat} (h : f i = false) : q_ex f (n + 1) i = q_ex f n (i + 1) := by
  show (f i || _) = _
  rw [h]
  rfl
theorem q_bk_le (S : qS) (rf : Option qR) (ly : Option (Nat × Nat)) (p a to o ring : Nat) : q_bk S rf ly p a to o ring ≤ 3 := by
  unfold q_bk
  split
  · omega
  · split
    · omega
    · split <;> omega
theorem q_lbc_le (S : qS) (rf : Option qR) (ly : Option (Nat × Nat)) (rg : Nat → Nat) (n : Nat) : ∀ m k, q_lbc S rf ly rg n m k ≤ 3
  | 0, _ => Nat.zero_le _
  | m + 1, k => by
    unfold q_lbc
    split
    · exact q_bk_le ..
    · exact q_lbc_le S rf ly rg n m (k + 1)
