/-! SEARCH -/
/-- a situation: its number, from which, by whom (two), how many rings, ways -/
abbrev q_E : Type := Nat × Nat × Nat × Nat × Nat × Nat
abbrev q_B : Type := Nat × (Nat → q_E)
def q_co (B : q_B) (i : Nat) : Nat := (B.2 i).1
def q_fr1 (B : q_B) (i : Nat) : Nat := (B.2 i).2.1
def q_ba (B : q_B) (i : Nat) : Nat := (B.2 i).2.2.1
def q_bb (B : q_B) (i : Nat) : Nat := (B.2 i).2.2.2.1
def q_lv (B : q_B) (i : Nat) : Nat := (B.2 i).2.2.2.2.1
def q_wy (B : q_B) (i : Nat) : Nat := (B.2 i).2.2.2.2.2
def q_ap (B : q_B) (e : q_E) : q_B := (B.1 + 1, va_up B.2 B.1 e)
/-- two change places -/
def q_sd (n a b p : Nat) : Nat := if p = a then q_dg n b else if p = b then q_dg n a else q_dg n p
def q_sw (pe n a b : Nat) : Nat := q_en (q_sd n a b) pe
theorem q_sd_lt (n a b p : Nat) : q_sd n a b p < 8 := by
  unfold q_sd
  split
  · exact q_dg_lt _ _
  · split <;> exact q_dg_lt _ _
/-- which situation has this number -/
def q_fic (B : q_B) (n : Nat) : Nat → Nat → Option Nat
  | 0, _ => none
  | m + 1, i => if q_co B i = n then some i else q_fic B n m (i + 1)
def q_fi (B : q_B) (n : Nat) : Option Nat := q_fic B n B.1 0
theorem q_fic_none {B : q_B} {n : Nat} : ∀ m i, q_fic B n m i = none ↔ ∀ k, i ≤ k → k < i + m → q_co B k ≠ n
  | 0, i => ⟨fun _ k h1 h2 => (by omega), fun _ => rfl⟩
  | m + 1, i => by
    unfold q_fic
    split
    · next h => exact ⟨fun z => (by cases z), fun z => absurd h (z i (by omega) (by omega))⟩
    · next h =>
      rw [q_fic_none m (i + 1)]
      constructor
      · intro z k h1 h2
        rcases Nat.lt_or_ge i k with y | y
        · exact z k (by omega) (by omega)
        · obtain rfl : i = k := by omega
          exact h
      · intro z k h1 h2
        exact z k (by omega) (by omega)
theorem q_fi_none {B : q_B} {n : Nat} : q_fi B n = none ↔ ∀ k, k < B.1 → q_co B k ≠ n := by
  unfold q_fi
  rw [q_fic_none]
  exact ⟨fun z k h => z k (by omega) (by omega), fun z k _ h => z k (by omega)⟩
theorem q_fic_some {B : q_B} {n s : Nat} : ∀ m i, q_fic B n m i = some s → i ≤ s ∧ s < i + m ∧ q_co B s = n
  | 0, i, h => by cases h
  | m + 1, i, h => by
    unfold q_fic at h
    split at h
    · next hc => cases h; exact ⟨Nat.le_refl _, by omega, hc⟩
    · obtain ⟨h1, h2, h3⟩ := q_fic_some m (i + 1) h
      exact ⟨by omega, by omega, h3⟩
theorem q_fi_some {B : q_B} {n s : Nat} (h : q_fi B n = some s) : s < B.1 ∧ q_co B s = n := by
  obtain ⟨-, h2, h3⟩ := q_fic_some _ _ h
  exact ⟨by omega, h3⟩
theorem q_fi_of {B : q_B} {n s : Nat} (hd : ∀ i i', i < B.1 → i' < B.1 → q_co B i = q_co B i' → i = i') (hs : s < B.1) (hn : q_co B s = n) : q_fi B n = some s := by
  cases h : q_fi B n with
  | none => exact absurd hn (q_fi_none.mp h s hs)
  | some t =>
    obtain ⟨h1, h2⟩ := q_fi_some h
    rw [hd t s h1 hs (h2.trans hn.symm)]
/-- can a ring of two be, in a situation -/
def q_cs (S : qS) (rf : Option qR) (n a b : Nat) : Bool := decide (q_bk S rf none a (q_dg n a) (q_dg n b) b 2 = 0) && decide (q_bk S rf none b (q_dg n b) (q_dg n a) a 2 = 0)
/-- what is told in a situation -/
abbrev q_st (S : qS) (n : Nat) : qS := q_pl S (fun p => nI (q_dg n p)) (s_n S 1)
theorem q_st_sA {S : qS} (h10 : s_n S 1 ≤ 10) (n : Nat) : sA S (q_st S n) := fun i hi => if_neg (by omega)
theorem q_st_at {S : qS} {n p : Nat} (hp : p < s_n S 1) : q_st S n (10 + 5 * p) = nI (q_dg n p) := by
  have : q_st S n (10 + 5 * p) = nI (q_dg n ((10 + 5 * p - 10) / 5)) := if_pos (by omega)
  rw [this]
  congr 2
  omega
theorem q_st_s {S : qS} {n p : Nat} (hp : p < s_n S 1) : s_at (q_st S n) p = q_dg n p := by
  show (q_st S n (10 + 5 * p)).toNatClampNeg = _
  rw [q_st_at hp]
  have := q_dg_lt n p
  exact nI_clamp (by omega)
/-- all are at places -/
def q_vd (S : qS) (n : Nat) : Prop := n < 1073741824 ∧ ∀ p, p < s_n S 1 → q_dg n p < s_n S 0
theorem q_st_g {S : qS} (g : gS S) {n : Nat} (hv : q_vd S n) : gS (q_st S n) := by
  have s := q_st_sA g.2.1.2 n
  have n0 := s.n (i := 0) (by omega)
  have n1 := s.n (i := 1) (by omega)
  refine ⟨⟨by rw [s 0 (by omega), n0]; exact g.1.1, by rw [n0]; exact g.1.2⟩, ⟨by rw [s 1 (by omega), n1]; exact g.2.1.1, by rw [n1]; exact g.2.1.2⟩, fun p hp => ?_⟩
  rw [n1] at hp
  rw [n0]
  have e := q_st_s (n := n) hp
  refine ⟨?_, by rw [show s_n (q_st S n) (10 + 5 * p) = q_dg n p from e]; exact hv.2 p hp⟩
  rw [show s_n (q_st S n) (10 + 5 * p) = q_dg n p from e]
  exact q_st_at hp
theorem q_wd_sA {S S' : qS} (s : sA S S') {p a to : Nat} {wi : Option Nat} {ring : Nat} (hp : p < 10) (hto : to < 8) (hw : ∀ o, wi = some o → o < 10) : q_wd S' p a to wi ring = q_wd S p a to wi ring := by
  have n1 := s.n (i := 1) (by omega)
  funext i
  unfold q_wd
  split
  · rfl
  · exact s _ (by omega)
  · exact s _ (by omega)
  · rfl
  · rfl
  · exact s _ (by omega)
  · rfl
  · cases wi with
    | none => rfl
    | some o =>
      have := hw o rfl
      exact s _ (by omega)
  · rfl
  · rw [n1, show (fun k => S' (154 + 10 * p + k)) = (fun k => S (154 + 10 * p + k)) from funext fun k => s _ (by omega)]
  · exact s _ (by omega)
  · exact s _ (by omega)
theorem q_w_sA {S S' : qS} (s : sA S S') {p a to : Nat} {wi : Option Nat} {ring : Nat} (hp : p < 10) (hto : to < 8) (hw : ∀ o, wi = some o → o < 10) : q_w S' p a to wi ring = q_w S p a to wi ring := by
  funext i
  unfold q_w
  rw [q_wd_sA s hp hto hw]
theorem q_lk_sA {S S' : qS} (s : sA S S') {rf : Option qR} {p a q : Nat} (hp : p < 10) (hq : q < 8) : q_lk S' rf p a q = q_lk S rf p a q := by
  unfold q_lk
  cases rf with
  | none => exact s _ (by omega)
  | some R =>
    show q_lkc _ _ _ _ _ = q_lkc _ _ _ _ _
    rw [q_w_sA s hp hq (fun o e => by cases e), s (60 + 8 * p + q) (by omega)]
theorem q_bk_sA {S S' : qS} (s : sA S S') {rf : Option qR} {p a to o ring : Nat} (hp : p < 10) (ha : a < 8) (hto : to < 8) (ho : o < 10) : q_bk S' rf none p a to o ring = q_bk S rf none p a to o ring := by
  have e1 : q_ll S' rf none p a to = q_ll S rf none p a to := q_lk_sA s hp hto
  have e2 : q_ll S' rf none p a a = q_ll S rf none p a a := q_lk_sA s hp ha
  have e3 : q_br S' rf p a to o ring = q_br S rf p a to o ring := by
    unfold q_br
    cases rf with
    | none => rfl
    | some R =>
      show q_brc _ _ _ _ = q_brc _ _ _ _
      rw [q_w_sA s hp hto (fun o' e => by cases e; exact ho)]
  unfold q_bk
  rw [e1, e2, e3, s (10 + 5 * p + 3) (by omega)]
theorem q_lb2 (S : qS) (rf : Option qR) (a b : Nat) : (q_lb S rf none (q_two a b) 2 = 0) ↔ (q_bk S rf none a (s_at S a) (s_at S b) b 2 = 0 ∧ q_bk S rf none b (s_at S b) (s_at S a) a 2 = 0) := by
  show (if 0 < q_bk S rf none a (s_at S a) (s_at S b) b 2 then q_bk S rf none a (s_at S a) (s_at S b) b 2 else (if 0 < q_bk S rf none b (s_at S b) (s_at S a) a 2 then q_bk S rf none b (s_at S b) (s_at S a) a 2 else 0)) = 0 ↔ _
  split
  · next h => omega
  · next h =>
    split
    · next h' => omega
    · next h' => omega
theorem q_cs_can {S : qS} (g : gS S) {rf : Option qR} {n a b : Nat} (ha : a < s_n S 1) (hb : b < s_n S 1) : q_can (q_st S n) rf a b = q_cs S rf n a b := by
  have h10 := g.2.1.2
  have s := q_st_sA h10 n
  unfold q_can q_cs
  rw [← Bool.decide_and]
  refine decide_eq_decide.mpr ?_
  rw [q_lb2, q_st_s ha, q_st_s hb, q_bk_sA s (by omega) (q_dg_lt _ _) (q_dg_lt _ _) (by omega), q_bk_sA s (by omega) (q_dg_lt _ _) (q_dg_lt _ _) (by omega)]
