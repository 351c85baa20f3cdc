def bI (b : Bool) : Int32 := cond b 1 0
theorem bI_f {b : Bool} (h : bI b = 0) : b = false := by cases b with
  | false => rfl
  | true => exact absurd h (by decide)
theorem bI_t {b : Bool} (h : ¬ bI b = 0) : b = true := by cases b with
  | true => rfl
  | false => exact absurd rfl h
theorem bI_01 (b : Bool) : bI b = 0 ∨ bI b = 1 := by cases b with
  | true => exact Or.inr rfl
  | false => exact Or.inl rfl
theorem bI_true {b : Bool} (h : b = true) : bI b = nI 1 := by rw [h]; rfl
theorem bI_false {b : Bool} (h : b = false) : bI b = nI 0 := by rw [h]; rfl
theorem nI_eqT {a b : Nat} (ha : a < 2147483648) (hb : b < 2147483648) (h : nI a = nI b) : a = b := (nI_eq ha hb).mp h
theorem nI_neT {a b : Nat} (_ : a < 2147483648) (_ : b < 2147483648) (h : ¬ nI a = nI b) : ¬ a = b := fun e => h (by rw [e])
theorem nI_ltT {a b : Nat} (ha : a < 2147483648) (hb : b < 2147483648) (h : nI a < nI b) : a < b := (nI_ltI ha hb).mp h
theorem nI_ltF {a b : Nat} (ha : a < 2147483648) (hb : b < 2147483648) (h : ¬ nI a < nI b) : b ≤ a := Nat.le_of_not_lt (fun e => h ((nI_ltI ha hb).mpr e))
theorem nI_leT {a b : Nat} (ha : a < 2147483648) (hb : b < 2147483648) (h : nI a ≤ nI b) : a ≤ b := (nI_leI ha hb).mp h
theorem nI_leF {a b : Nat} (ha : a < 2147483648) (hb : b < 2147483648) (h : ¬ nI a ≤ nI b) : b < a := Nat.lt_of_not_le (fun e => h ((nI_leI ha hb).mpr e))
theorem nI_sub {a b : Nat} (h : b ≤ a) : nI a - nI b = nI (a - b) := by
  have : nI a = nI (a - b) + nI b := by rw [nI_add, Nat.sub_add_cancel h]
  rw [this, Int32.add_sub_cancel]
theorem nI_dec {a : Nat} (n : Nat) (h : n ≤ a) : nI a + qx_c (-(n : Int)) = nI (a - n) := by
  have e : qx_c (-(n : Int)) = - nI n := by
    cases n with
    | zero => rfl
    | succ n =>
      show Int32.ofInt (Int.negSucc n) = - Int32.ofNat (n + 1)
      rw [Int.negSucc_eq, Int32.ofInt_neg]
      rfl
  rw [e, ← Int32.sub_eq_add_neg, nI_sub h]
theorem nI_div {a b : Nat} (ha : a < 2147483648) (hb : b < 2147483648) : nI a / nI b = nI (a / b) := by
  apply Int32.toInt_inj.mp
  have h1 : a / b < 2 ^ 31 := Nat.lt_of_le_of_lt (Nat.div_le_self a b) ha
  rw [Int32.toInt_div, nI_toInt ha, nI_toInt hb, nI_toInt h1, ← Int.ofNat_tdiv]
  generalize a / b = c at h1
  rw [Int.bmod_eq_of_le (by omega) (by omega)]
theorem nI_rem {a b : Nat} (ha : a < 2147483648) (hb : b < 2147483648) : nI a - nI a / nI b * nI b = nI (a % b) := by
  rw [nI_div ha hb, pk_mul]
  have h := Nat.div_add_mod a b
  have h2 : a / b * b ≤ a := Nat.div_mul_le_self a b
  rw [nI_sub h2]
  congr 1
  have h3 : b * (a / b) = a / b * b := Nat.mul_comm _ _
  omega
theorem qw_ne {σ : qx_S} {a j : Nat} {v : Int32} {a' k : Nat} (h : a' ≠ a ∨ k ≠ j) : (qx_wi σ a j v).2.2.2.1 a' k = σ.2.2.2.1 a' k := by
  show qx_up2 _ _ _ _ _ _ = _
  unfold qx_up2
  rw [if_neg]
  rintro ⟨rfl, rfl⟩
  rcases h with h | h <;> exact h rfl
theorem qw_eq {σ : qx_S} {a j : Nat} {v : Int32} : (qx_wi σ a j v).2.2.2.1 a j = v := if_pos ⟨rfl, rfl⟩
theorem qw_lne {σ : qx_S} {a j : Nat} {v : Int64} {a' k : Nat} (h : a' ≠ a ∨ k ≠ j) : (qx_wl σ a j v).2.2.2.2.1 a' k = σ.2.2.2.2.1 a' k := by
  show qx_up2 _ _ _ _ _ _ = _
  unfold qx_up2
  rw [if_neg]
  rintro ⟨rfl, rfl⟩
  rcases h with h | h <;> exact h rfl
theorem qw_leq {σ : qx_S} {a j : Nat} {v : Int64} : (qx_wl σ a j v).2.2.2.2.1 a j = v := if_pos ⟨rfl, rfl⟩
theorem qw_rne {σ : qx_S} {a j : Nat} {v : Option Nat} {a' k : Nat} (h : a' ≠ a ∨ k ≠ j) : (qx_wr σ a j v).2.2.2.2.2 a' k = σ.2.2.2.2.2 a' k := by
  show qx_up2 _ _ _ _ _ _ = _
  unfold qx_up2
  rw [if_neg]
  rintro ⟨rfl, rfl⟩
  rcases h with h | h <;> exact h rfl
theorem qw_req {σ : qx_S} {a j : Nat} {v : Option Nat} : (qx_wr σ a j v).2.2.2.2.2 a j = v := if_pos ⟨rfl, rfl⟩
/-- FRAMES: only what P says may have changed -/
def qf (P : Nat → Nat → Bool) (σ σ' : qx_S) : Prop := σ'.1 = σ.1 ∧ σ'.2.1 = σ.2.1 ∧ σ'.2.2.1 = σ.2.2.1 ∧ σ'.2.2.2.2.2 = σ.2.2.2.2.2 ∧ (∀ a j, P a j = false → σ'.2.2.2.1 a j = σ.2.2.2.1 a j) ∧ (∀ a j, P a j = false → σ'.2.2.2.2.1 a j = σ.2.2.2.2.1 a j)
theorem qf.i {P : Nat → Nat → Bool} {σ σ' : qx_S} (h : qf P σ σ') (a j : Nat) (hp : P a j = false) : σ'.2.2.2.1 a j = σ.2.2.2.1 a j := h.2.2.2.2.1 a j hp
theorem qf.l {P : Nat → Nat → Bool} {σ σ' : qx_S} (h : qf P σ σ') (a j : Nat) (hp : P a j = false) : σ'.2.2.2.2.1 a j = σ.2.2.2.2.1 a j := h.2.2.2.2.2 a j hp
theorem qf.r {P : Nat → Nat → Bool} {σ σ' : qx_S} (h : qf P σ σ') (a j : Nat) : σ'.2.2.2.2.2 a j = σ.2.2.2.2.2 a j := by rw [h.2.2.2.1]
theorem qf.s {P : Nat → Nat → Bool} {σ σ' : qx_S} (h : qf P σ σ') (a : Nat) : qx_sh qc_T σ' a = qx_sh qc_T σ a := by unfold qx_sh; rw [h.2.2.1]
theorem qf.row {P : Nat → Nat → Bool} {σ σ' : qx_S} (h : qf P σ σ') (a : Nat) (hp : ∀ j, P a j = false) : σ'.2.2.2.1 a = σ.2.2.2.1 a := funext fun j => h.i a j (hp j)
theorem qf.rf {P : Nat → Nat → Bool} {σ : qx_S} : qf P σ σ := ⟨rfl, rfl, rfl, rfl, fun _ _ _ => rfl, fun _ _ _ => rfl⟩
theorem qf.tr {P : Nat → Nat → Bool} {a b c : qx_S} (h : qf P a b) (k : qf P b c) : qf P a c :=
  ⟨k.1.trans h.1, k.2.1.trans h.2.1, k.2.2.1.trans h.2.2.1, k.2.2.2.1.trans h.2.2.2.1, fun x j hp => (k.i x j hp).trans (h.i x j hp), fun x j hp => (k.l x j hp).trans (h.l x j hp)⟩
theorem qf.mono {P Q : Nat → Nat → Bool} {a b : qx_S} (h : qf P a b) (hpq : ∀ x j, Q x j = false → P x j = false) : qf Q a b :=
  ⟨h.1, h.2.1, h.2.2.1, h.2.2.2.1, fun x j hp => h.i x j (hpq x j hp), fun x j hp => h.l x j (hpq x j hp)⟩
theorem qf.wi {P : Nat → Nat → Bool} {σ σ' : qx_S} (h : qf P σ σ') (a j : Nat) (v : Int32) (hp : P a j = true) : qf P σ (qx_wi σ' a j v) :=
  ⟨h.1, h.2.1, h.2.2.1, h.2.2.2.1, fun x k hk => (qw_ne (by
    by_cases e : x = a
    · right
      intro e2
      subst e e2
      rw [hp] at hk
      cases hk
    · exact Or.inl e)).trans (h.i x k hk), h.2.2.2.2.2⟩
theorem qf.wl {P : Nat → Nat → Bool} {σ σ' : qx_S} (h : qf P σ σ') (a j : Nat) (v : Int64) (hp : P a j = true) : qf P σ (qx_wl σ' a j v) :=
  ⟨h.1, h.2.1, h.2.2.1, h.2.2.2.1, h.2.2.2.2.1, fun x k hk => (qw_lne (by
    by_cases e : x = a
    · right
      intro e2
      subst e e2
      rw [hp] at hk
      cases hk
    · exact Or.inl e)).trans (h.l x k hk)⟩
def q_sum (f : Nat → Int32) : Nat → Int32
  | 0 => 0
  | k + 1 => q_sum f k + f k
/-- an int answer, nothing changed -/
abbrev qr (v : Int32) (σ : qx_S) : qx_F := fun r s => r = some (.int v) ∧ σ = s
abbrev qv (σ : qx_S) : qx_F := fun r s => r = none ∧ σ = s
/-- frames by a list of rows, or places of rows -/
def pL (l : List (Nat × Option Nat)) (x j : Nat) : Bool := l.any (fun q => Nat.beq q.1 x && (match q.2 with
  | none => true
  | some k => Nat.beq k j))
abbrev ql (l : List (Nat × Option Nat)) (σ σ' : qx_S) : Prop := qf (pL l) σ σ'
def pLs (l m : List (Nat × Option Nat)) : Bool := l.all (fun q => m.any (fun r => Nat.beq r.1 q.1 && (match r.2, q.2 with
  | none, _ => true
  | some a, some b => Nat.beq a b
  | some _, none => false)))
theorem pLs_ok {l m : List (Nat × Option Nat)} (h : pLs l m = true) (x j : Nat) (hm : pL m x j = false) : pL l x j = false := by
  cases hl : pL l x j with
  | false => rfl
  | true =>
    exfalso
    obtain ⟨q, hq, h1⟩ := List.any_eq_true.mp hl
    obtain ⟨r, hr, h2⟩ := List.any_eq_true.mp (List.all_eq_true.mp h q hq)
    have : pL m x j = true := by
      refine List.any_eq_true.mpr ⟨r, hr, ?_⟩
      obtain ⟨q1, q2⟩ := q
      obtain ⟨r1, r2⟩ := r
      simp only [Bool.and_eq_true] at h1 h2 ⊢
      have e1 := Nat.eq_of_beq_eq_true h1.1
      have e2 := Nat.eq_of_beq_eq_true h2.1
      subst e1 e2
      refine ⟨Nat.beq_refl _, ?_⟩
      cases r2 with
      | none => rfl
      | some a =>
        cases q2 with
        | none => exact absurd h2.2 (by simp)
        | some b =>
          have e3 := Nat.eq_of_beq_eq_true h2.2
          have e4 := Nat.eq_of_beq_eq_true h1.2
          dsimp only
          rw [e3, e4]
          exact Nat.beq_refl _
    rw [this] at hm
    cases hm
theorem qf.mn {l m : List (Nat × Option Nat)} {a b : qx_S} (h : ql l a b) (hs : pLs l m = true) : ql m a b := qf.mono h (fun x j hm => pLs_ok hs x j hm)
theorem qn_wi {s σ : qx_S} {a k : Nat} {v : Int32} (e : s = qx_wi σ a k v) : ql [(a, none)] σ s := by
  rw [e]
  exact qf.rf.wi _ _ _ (by simp [pL])
theorem qn_wif {s σ : qx_S} {a k : Nat} {v : Int32} (e : s = qx_wi σ a k v) : ql [(a, some k)] σ s := by
  rw [e]
  exact qf.rf.wi _ _ _ (by simp [pL])
theorem qn_wl {s σ : qx_S} {a k : Nat} {v : Int64} (e : s = qx_wl σ a k v) : ql [(a, none)] σ s := by
  rw [e]
  exact qf.rf.wl _ _ _ (by simp [pL])
theorem qn_wlf {s σ : qx_S} {a k : Nat} {v : Int64} (e : s = qx_wl σ a k v) : ql [(a, some k)] σ s := by
  rw [e]
  exact qf.rf.wl _ _ _ (by simp [pL])
theorem qn_ne {s σ : qx_S} {a k : Nat} {v : Int32} (e : s = qx_wi σ a k v) {a' k' : Nat} (h : a' ≠ a ∨ k' ≠ k) : s.2.2.2.1 a' k' = σ.2.2.2.1 a' k' := by rw [e]; exact qw_ne h
theorem qn_eq {s σ : qx_S} {a k : Nat} {v : Int32} (e : s = qx_wi σ a k v) : s.2.2.2.1 a k = v := by rw [e]; exact qw_eq
theorem qn_lne {s σ : qx_S} {a k : Nat} {v : Int64} (e : s = qx_wl σ a k v) {a' k' : Nat} (h : a' ≠ a ∨ k' ≠ k) : s.2.2.2.2.1 a' k' = σ.2.2.2.2.1 a' k' := by rw [e]; exact qw_lne h
theorem qn_leq {s σ : qx_S} {a k : Nat} {v : Int64} (e : s = qx_wl σ a k v) : s.2.2.2.2.1 a k = v := by rw [e]; exact qw_leq
theorem qn_il {s σ : qx_S} {a k : Nat} {v : Int32} (e : s = qx_wi σ a k v) (a' k' : Nat) : s.2.2.2.2.1 a' k' = σ.2.2.2.2.1 a' k' := by rw [e]; rfl
theorem qn_li {s σ : qx_S} {a k : Nat} {v : Int64} (e : s = qx_wl σ a k v) (a' k' : Nat) : s.2.2.2.1 a' k' = σ.2.2.2.1 a' k' := by rw [e]; rfl
theorem qn_row {s σ : qx_S} {a k : Nat} {v : Int32} (e : s = qx_wi σ a k v) : s.2.2.2.1 a = va_up (σ.2.2.2.1 a) k v := by
  rw [e]
  funext j
  show qx_up2 _ _ _ _ _ _ = _
  simp [qx_up2, va_up]
