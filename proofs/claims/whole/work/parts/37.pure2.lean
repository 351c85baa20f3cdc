/-! PLACES change, all else stays -/
def sA (S S' : qS) : Prop := ∀ i, ¬ (10 ≤ i ∧ i < 60 ∧ (i - 10) % 5 = 0) → S' i = S i
theorem sA.rf {S : qS} : sA S S := fun _ _ => rfl
theorem sA.tr {a b c : qS} (h : sA a b) (k : sA b c) : sA a c := fun i hi => (k i hi).trans (h i hi)
theorem sA.n {S S' : qS} (h : sA S S') {i : Nat} (hi : ¬ (10 ≤ i ∧ i < 60 ∧ (i - 10) % 5 = 0)) : s_n S' i = s_n S i := by unfold s_n; rw [h i hi]
theorem sA.up {S : qS} {p : Nat} (hp : p < 10) (v : Int32) : sA S (va_up S (10 + 5 * p) v) := fun i hi => va_up_ne _ _ (by omega)
theorem q_grc_sA {rg : Nat → Nat} {n : Nat} {first : Int32} (hr : ∀ k, k < n → rg k < 10) : ∀ (m k : Nat) (S : qS), k + m ≤ n → sA S (q_grc rg n first m k S)
  | 0, _, _, _ => sA.rf
  | m + 1, k, S, h => (sA.up (hr k (by omega)) _).tr (q_grc_sA hr m (k + 1) _ (by omega))
theorem q_gr_sA {rg : Nat → Nat} {n : Nat} {S : qS} (hr : ∀ k, k < n → rg k < 10) : sA S (q_gr rg n S) := q_grc_sA hr n 0 S (by omega)
theorem gS.up {S : qS} (g : gS S) {p : Nat} (hp : p < s_n S 1) {v : Nat} (hv : v < s_n S 0) : gS (va_up S (10 + 5 * p) (nI v)) := by
  have h10 := g.2.1.2
  have g8 := g.1.2
  have e0 : ∀ i, i < 10 → va_up S (10 + 5 * p) (nI v) i = S i := fun i hi => va_up_ne _ _ (by omega)
  have n0 : s_n (va_up S (10 + 5 * p) (nI v)) 0 = s_n S 0 := by unfold s_n; rw [e0 0 (by omega)]
  have n1 : s_n (va_up S (10 + 5 * p) (nI v)) 1 = s_n S 1 := by unfold s_n; rw [e0 1 (by omega)]
  refine ⟨⟨by rw [e0 0 (by omega), n0]; exact g.1.1, by rw [n0]; exact g8⟩, ⟨by rw [e0 1 (by omega), n1]; exact g.2.1.1, by rw [n1]; exact h10⟩, fun q hq => ?_⟩
  rw [n1] at hq
  rw [n0]
  by_cases h : q = p
  · subst h
    have e : va_up S (10 + 5 * q) (nI v) (10 + 5 * q) = nI v := va_up_self _ _ _
    have e2 : s_n (va_up S (10 + 5 * q) (nI v)) (10 + 5 * q) = v := by unfold s_n; rw [e]; exact nI_clamp (by omega)
    rw [e2, e]
    exact ⟨rfl, hv⟩
  · have e : va_up S (10 + 5 * p) (nI v) (10 + 5 * q) = S (10 + 5 * q) := va_up_ne _ _ (by omega)
    have e2 : s_n (va_up S (10 + 5 * p) (nI v)) (10 + 5 * q) = s_n S (10 + 5 * q) := by unfold s_n; rw [e]
    rw [e2, e]
    exact g.2.2 q hq
theorem q_grc_g {rg : Nat → Nat} {n f : Nat} : ∀ (m k : Nat) (S : qS), k + m ≤ n → gS S → (∀ k, k < n → rg k < s_n S 1) → f < s_n S 0 → gS (q_grc rg n (nI f) m k S)
  | 0, _, _, _, g, _, _ => g
  | m + 1, k, S, h, g, hr, hf => by
    have h10 := g.2.1.2
    have hk := hr k (by omega)
    have key : ∀ v, v < s_n S 0 → gS (q_grc rg n (nI f) m (k + 1) (va_up S (10 + 5 * rg k) (nI v))) := by
      intro v hv
      have s := sA.up (S := S) (p := rg k) (by omega) (nI v)
      have n0 := s.n (i := 0) (by omega)
      have n1 := s.n (i := 1) (by omega)
      exact q_grc_g m (k + 1) _ (by omega) (g.up hk hv) (fun j hj => by rw [n1]; exact hr j hj) (by rw [n0]; exact hf)
    show gS (q_grc rg n (nI f) m (k + 1) (va_up S (10 + 5 * rg k) (if k + 1 < n then S (10 + 5 * rg (k + 1)) else nI f)))
    split
    · next hl =>
      obtain ⟨y1, y2⟩ := g.2.2 _ (hr (k + 1) hl)
      rw [y1]
      exact key _ y2
    · exact key f hf
theorem q_gr_g {rg : Nat → Nat} {n : Nat} {S : qS} (g : gS S) (h0 : 0 < n) (hr : ∀ k, k < n → rg k < s_n S 1) : gS (q_gr rg n S) := by
  unfold q_gr
  obtain ⟨y1, y2⟩ := g.2.2 _ (hr 0 h0)
  rw [y1]
  exact q_grc_g n 0 S (by omega) g hr y2
theorem mX.at {σ σ' : qx_S} {S S' : qS} {rf : Option qR} {ly : Option (Nat × Nat)} (h : mX σ S rf ly) (hf : ql [(207, none)] σ σ') (hS : qx_mi σ' 207 = S') (h1 : S' 1 = S 1) (h7 : S' 7 = S 7) : mX σ' S' rf ly := by
  have n1 : s_n S' 1 = s_n S 1 := by unfold s_n; rw [h1]
  obtain ⟨-, k2, k3, k4, k5⟩ := h
  refine ⟨hS, by rw [h1, n1]; exact k2, by rw [n1]; exact k3, ?_, ?_⟩
  · cases rf with
    | none => exact h7.trans k4
    | some R =>
      obtain ⟨t, y1, y2, y3⟩ := k4
      exact ⟨t, y1, h7.trans y2, y3.fr hf (fun _ => rfl) (fun _ => rfl) (fun _ => rfl)⟩
  · cases ly with
    | none => exact (hf.i 197 21 rfl).trans k5
    | some q => exact ⟨(hf.i 197 21 rfl).trans k5.1, (hf.i 197 22 rfl).trans k5.2.1, k5.2.2⟩
/-- the book is sound -/
def iB (S : qS) : Prop := S 5 = nI (s_n S 5) ∧ s_n S 5 ≤ 12 ∧ ∀ b, b < s_n S 5 → S (254 + 7 * b) = nI (s_n S (254 + 7 * b)) ∧ 0 < s_n S (254 + 7 * b) ∧ s_n S (254 + 7 * b) ≤ 6 ∧ ∀ k, k < s_n S (254 + 7 * b) → S (254 + 7 * b + 1 + k) = nI (s_n S (254 + 7 * b + 1 + k)) ∧ s_n S (254 + 7 * b + 1 + k) < s_n S 1
theorem iB.at {S S' : qS} (h : iB S) (s : sA S S') : iB S' := by
  have n1 := s.n (i := 1) (by omega)
  have n5 := s.n (i := 5) (by omega)
  refine ⟨by rw [s 5 (by omega), n5]; exact h.1, by rw [n5]; exact h.2.1, fun b hb => ?_⟩
  rw [n5] at hb
  obtain ⟨y1, y2, y3, y4⟩ := h.2.2 b hb
  have nb := s.n (i := 254 + 7 * b) (by omega)
  rw [nb, n1]
  refine ⟨by rw [s _ (by omega)]; exact y1, y2, y3, fun k hk => ?_⟩
  rw [s.n (i := 254 + 7 * b + 1 + k) (by omega), s _ (by omega)]
  exact y4 k hk
abbrev q_bm (S : qS) (b k : Nat) : Nat := s_n S (254 + 7 * b + 1 + k)
/-- rings of the book from the b-th on: which can't be, its law, where all are -/
def q_jdc (rf : Option qR) : Nat → Nat → qS → Int32 × Nat × qS
  | 0, _, S => (-1, 0, S)
  | m + 1, b, S => if 0 < q_lb S rf none (q_bm S b) (s_n S (254 + 7 * b)) then (nI b, q_lb S rf none (q_bm S b) (s_n S (254 + 7 * b)), S) else q_jdc rf m (b + 1) (q_gr (q_bm S b) (s_n S (254 + 7 * b)) S)
def q_jd (rf : Option qR) (S : qS) : Int32 × Nat × qS := q_jdc rf (s_n S 5) 0 S
theorem q_jdc_sA {rf : Option qR} : ∀ (m b : Nat) (S : qS), b + m ≤ s_n S 5 → iB S → gS S → sA S (q_jdc rf m b S).2.2 ∧ gS (q_jdc rf m b S).2.2
  | 0, _, _, _, _, g => ⟨sA.rf, g⟩
  | m + 1, b, S, h, hB, g => by
    obtain ⟨y1, y2, y3, y4⟩ := hB.2.2 b (by omega)
    have h10 := g.2.1.2
    have s : sA S (q_gr (q_bm S b) (s_n S (254 + 7 * b)) S) := q_gr_sA (fun k hk => Nat.lt_of_lt_of_le (y4 k hk).2 h10)
    have g' : gS (q_gr (q_bm S b) (s_n S (254 + 7 * b)) S) := q_gr_g g y2 (fun k hk => (y4 k hk).2)
    unfold q_jdc
    split
    · exact ⟨sA.rf, g⟩
    · obtain ⟨z1, z2⟩ := q_jdc_sA (rf := rf) m (b + 1) _ (by rw [s.n (i := 5) (by omega)]; omega) (hB.at s) g'
      exact ⟨s.tr z1, z2⟩
theorem q_pl_back {S S' : qS} (s : sA S S') : q_pl S' (fun j => S (10 + 5 * j)) 10 = S := by
  funext i
  unfold q_pl
  split
  · next h =>
    show S (10 + 5 * ((i - 10) / 5)) = S i
    congr 1
    omega
  · next h => exact s i (by omega)
/-- who changes with whom -/
def q_two (a b k : Nat) : Nat := if k = 0 then a else b
def q_can (S : qS) (rf : Option qR) (a b : Nat) : Bool := decide (q_lb S rf none (q_two a b) 2 = 0)
def q_cgi (can : Nat → Nat → Bool) (k what : Int32) (a : Nat) : Nat → Nat → Int32 → Option Int32 × Int32
  | 0, _, n => (none, n)
  | m + 1, b, n => if can a b = true then (if what < nI 2 ∧ n = k then (some (if what = 0 then nI a else nI b), n) else q_cgi can k what a m (b + 1) (n + nI 1)) else q_cgi can k what a m (b + 1) n
def q_cgo (can : Nat → Nat → Bool) (k what : Int32) (pe : Nat) : Nat → Nat → Int32 → Option Int32 × Int32
  | 0, _, n => (none, n)
  | m + 1, a, n => match q_cgi can k what a (pe - (a + 1)) (a + 1) n with
    | (some r, n') => (some r, n')
    | (none, n') => q_cgo can k what pe m (a + 1) n'
def q_cg (can : Nat → Nat → Bool) (k what : Int32) (pe : Nat) : Int32 := match q_cgo can k what pe pe 0 0 with
  | (some r, _) => r
  | (none, n) => if what = nI 2 then n else -1
/-- who is in a ring of the book, as bits -/
def q_pic (S : qS) (b : Nat) : Nat → Nat
  | 0 => 0
  | k + 1 => q_pic S b k ||| 2 ^ (q_bm S b k)
def q_pi (S : qS) (b : Nat) : Nat := q_pic S b (s_n S (254 + 7 * b))
theorem q_pic_lt {S : qS} {b : Nat} : ∀ n, (∀ k, k < n → q_bm S b k < 10) → q_pic S b n < 1024
  | 0, _ => by show 0 < 1024; omega
  | n + 1, h => by
    have h1 := q_pic_lt n (fun k hk => h k (by omega))
    exact Nat.or_lt_two_pow (n := 10) h1 (Nat.pow_lt_pow_right (by decide) (h n (by omega)))
/-- days -/
def q_dyf (mt : Nat → Bool) (dy : Nat → Nat) : Nat → Nat → Nat → Nat
  | 0, _, d => d
  | m + 1, a, d => q_dyf mt dy m (a + 1) (if mt a = true ∧ d ≤ dy a then dy a + 1 else d)
def q_dys (mt : Nat → Nat → Bool) : Nat → Nat → Nat
  | 0 => fun _ => 0
  | b + 1 => fun i => if i = b then q_dyf (fun a => mt a b) (q_dys mt b) b 0 1 else q_dys mt b i
def q_dyl (mt : Nat → Nat → Bool) : Nat → Nat
  | 0 => 0
  | b + 1 => if q_dyl mt b < q_dys mt (b + 1) b then q_dys mt (b + 1) b else q_dyl mt b
theorem q_dyf_le {mt : Nat → Bool} {dy : Nat → Nat} {B : Nat} : ∀ (m a d : Nat), (∀ i, i < a + m → dy i ≤ B) → d ≤ B + 1 → q_dyf mt dy m a d ≤ B + 1
  | 0, _, _, _, h => h
  | m + 1, a, d, h, hd => by
    refine q_dyf_le m (a + 1) _ (fun i hi => h i (by omega)) ?_
    have := h a (by omega)
    split <;> omega
theorem q_dys_le (mt : Nat → Nat → Bool) : ∀ (b i : Nat), q_dys mt b i ≤ b
  | 0, _ => Nat.le_refl _
  | b + 1, i => by
    show (if _ then _ else _) ≤ _
    split
    · exact q_dyf_le b 0 1 (fun j _ => q_dys_le mt b j) (by omega)
    · exact Nat.le_succ_of_le (q_dys_le mt b i)
theorem q_dys_st (mt : Nat → Nat → Bool) {i : Nat} : ∀ b, i < b → q_dys mt b i = q_dys mt (i + 1) i
  | 0, h => absurd h (by omega)
  | b + 1, h => by
    by_cases e : i = b
    · rw [e]
    · rw [← q_dys_st mt b (by omega)]
      show (if _ then _ else _) = _
      rw [if_neg e]
theorem q_dyl_le (mt : Nat → Nat → Bool) : ∀ b, q_dyl mt b ≤ b
  | 0 => Nat.le_refl _
  | b + 1 => by
    have h1 := q_dys_le mt (b + 1) b
    have h2 := q_dyl_le mt b
    show (if _ then _ else _) ≤ _
    split <;> omega
theorem q_in_ok {w lo hi : Nat} (h1 : lo ≤ w) (h2 : w ≤ hi) (h : hi < 2147483648) : q_in64 (nI w).toInt64 (lN lo) (lN hi) = true := by
  rw [q_in_iff _ h (by omega)]
  exact decide_eq_true ⟨nI_le h1 (by omega), nI_le h2 (by omega)⟩
theorem q_in_t {x : Int32} {hi : Nat} (h : hi < 2147483648) {lo : Nat} (hl : lo < 2147483648) (hx : q_in64 x.toInt64 (lN lo) (lN hi) = true) : ∃ w, lo ≤ w ∧ w ≤ hi ∧ x = nI w := by
  rw [q_in_iff _ h hl] at hx
  obtain ⟨y1, y2⟩ := of_decide_eq_true hx
  obtain ⟨j, hj, rfl⟩ := nI_of (x := x) (Int32.not_lt.mpr (Int32.le_trans (nI_pos' hl) y1))
  exact ⟨j, nI_leT hl hj y1, nI_leT hj h y2, rfl⟩
theorem q_is_ok {k n : Nat} (h : k < n) (hn : n < 2147483648) : q_is (nI k) n = true := by rw [q_is_nI (by omega) hn]; exact decide_eq_true h
theorem nI_ne_m1 {k : Nat} (h : k < 2147483648) : ¬ nI k = (-1 : Int32) := by
  intro e
  have := congrArg Int32.toInt e
  rw [nI_toInt h] at this
  rw [show (-1 : Int32).toInt = -1 from rfl] at this
  omega
/-- calls at a place -/
def q_ca (S : qS) (q : Int32) : Nat → Nat
  | 0 => 0
  | c + 1 => q_ca S q c + (if S (140 + c) = q then 1 else 0)
theorem q_ca_le (S : qS) (q : Int32) : ∀ n, q_ca S q n ≤ n
  | 0 => Nat.le_refl _
  | n + 1 => by
    have := q_ca_le S q n
    show _ + (if _ then _ else _) ≤ _
    split <;> omega
/-- bits of those below n for whom f -/
def q_set (f : Nat → Bool) : Nat → Nat
  | 0 => 0
  | n + 1 => if f n = true then q_set f n ||| 2 ^ n else q_set f n
theorem q_set_lt (f : Nat → Bool) : ∀ n, q_set f n < 2 ^ n
  | 0 => by show 0 < 1; omega
  | n + 1 => by
    have h := q_set_lt f n
    have h2 : q_set f n < 2 ^ (n + 1) := Nat.lt_of_lt_of_le h (Nat.pow_le_pow_right (by decide) (by omega))
    show (if _ then _ else _) < _
    split
    · exact Nat.or_lt_two_pow h2 (Nat.pow_lt_pow_right (by decide) (by omega))
    · exact h2
