/-! THE REFERENCE: DRAWS -/
theorem lN_div {a b : Nat} (ha : a < 9223372036854775808) (hb : b < 9223372036854775808) : lN a / lN b = lN (a / b) := by
  apply Int64.toInt_inj.mp
  have h1 : a / b < 9223372036854775808 := Nat.lt_of_le_of_lt (Nat.div_le_self a b) ha
  rw [Int64.toInt_div, show (lN a).toInt = (a : Int) from lg_ofNat_toInt ha, show (lN b).toInt = (b : Int) from lg_ofNat_toInt hb, show (lN (a / b)).toInt = ((a / b : Nat) : Int) from lg_ofNat_toInt h1, ← Int.ofNat_tdiv]
  generalize a / b = c at h1
  rw [Int.bmod_eq_of_le (by omega) (by omega)]
theorem lN_subb {a b : Nat} (h : b ≤ a) : lN a - lN b = lN (a - b) := by
  have : lN a = lN (a - b) + lN b := by rw [lN_add, Nat.sub_add_cancel h]
  rw [this, Int64.add_sub_cancel]
theorem lN_rem {a b : Nat} (ha : a < 9223372036854775808) (hb : b < 9223372036854775808) : lN a - lN a / lN b * lN b = lN (a % b) := by
  rw [lN_div ha hb, lN_mul]
  have h := Nat.div_add_mod a b
  have h2 : a / b * b ≤ a := Nat.div_mul_le_self a b
  rw [lN_subb h2]
  congr 1
  have h3 : b * (a / b) = a / b * b := Nat.mul_comm _ _
  omega
def q_dx (x : Nat) : Nat := (x * 1103515245 + 12345) % 2147483648
theorem q_dx_lt (x : Nat) : q_dx x < 2147483648 := Nat.mod_lt _ (by decide)
def q_dw (x pe : Nat) : Nat := x / 65536 % pe
theorem m_draw {G : qx_G} {σ : qx_S} {x pe : Nat} (hx : x < 2147483648) (ex : qx_ml σ 197 50 = lN x) (h0 : 0 < pe) (hpe : pe ≤ 10) : qx_M G qc_T 0 YX12_draw [.ref 197, .int (nI pe)] σ (fun r s => r = some (.int (nI (q_dw (q_dx x) pe))) ∧ ql [(197, some 50)] σ s ∧ qx_ml s 197 50 = lN (q_dx x)) := by
  have hd := q_dx_lt x
  have hm : q_dx x / 65536 % pe < pe := Nat.mod_lt _ h0
  refine qx_M_in rfl (Nat.le_of_ble_eq_true rfl) ?_
  refine qy_wp_ok (c := CX12_draw) (cuts := []) vX12_draw wX12_draw 2000 0 _ _ _ ?_
  refine And.intro rfl (Exists.intro 50 (Exists.intro (lN x) (And.intro rfl (And.intro ex ?_))))
  refine Exists.intro (lN 1103515245) (And.intro (by decide) ?_)
  refine Exists.intro (lN (x * 1103515245)) (And.intro (lN_mul _ _) ?_)
  refine Exists.intro (lN 12345) (And.intro (by decide) ?_)
  refine Exists.intro (lN (x * 1103515245 + 12345)) (And.intro (lN_add _ _) ?_)
  refine Exists.intro (lN 2147483648) (And.intro (by decide) ?_)
  refine And.intro (by decide) (Exists.intro (lN (q_dx x)) (And.intro (lN_rem (by omega) (by decide)) ?_))
  obtain ⟨σ1, eσ1⟩ : ∃ zs, zs = (qx_wl σ 197 50 (lN (q_dx x))) := ⟨_, rfl⟩
  have fσ1 := qn_wlf eσ1
  refine And.intro rfl (Exists.intro 50 (Exists.intro σ1 (And.intro rfl (And.intro eσ1.symm ?_))))
  refine And.intro rfl (Exists.intro 50 (Exists.intro (lN (q_dx x)) (And.intro rfl (And.intro (qn_leq eσ1) ?_))))
  refine Exists.intro (lN 65536) (And.intro (by decide) ?_)
  refine And.intro (by decide) (Exists.intro (lN (q_dx x / 65536)) (And.intro (lN_div (by omega) (by decide)) ?_))
  refine Exists.intro (lN pe) (And.intro (nI_l (by omega)) ?_)
  refine And.intro (by intro e; have := (lN_eq (by omega) (by decide)).mp (e.trans (show (0 : Int64) = lN 0 from rfl)); omega) (Exists.intro (lN (q_dx x / 65536 % pe)) (And.intro (lN_rem (by omega) (by omega)) ?_))
  refine Exists.intro (nI (q_dx x / 65536 % pe)) (And.intro (lN_i _) ?_)
  exact ⟨rfl, fσ1, qn_leq eσ1⟩
/-- n drawn twos: what is told, x, rings, coal -/
abbrev q_Y : Type := qS × Nat × Nat × Int32
def q_y1 (rf : Option qR) (y : q_Y) : q_Y :=
  let x1 := q_dx y.2.1
  let x2 := q_dx x1
  let a := q_dw x1 (s_n y.1 1)
  let b := q_dw x2 (s_n y.1 1)
  if a = b ∨ q_can y.1 rf a b = false then (y.1, x2, y.2.2.1, y.2.2.2)
  else (va_up (q_gr (q_two a b) 2 (q_chc (q_two a b) 2 2 0 y.1 0).1) 6 ((q_gr (q_two a b) 2 (q_chc (q_two a b) 2 2 0 y.1 0).1) 6 + nI 1), x2, y.2.2.1 + 1, y.2.2.2 + (q_chc (q_two a b) 2 2 0 y.1 0).2)
def q_iter {α : Type} (f : α → α) : Nat → α → α
  | 0, y => y
  | n + 1, y => q_iter f n (f y)
theorem q_iter_s {α : Type} (f : α → α) (n : Nat) (y : α) : q_iter f (n + 1) y = q_iter f n (f y) := rfl
def q_yn (rf : Option qR) (n : Nat) (y : q_Y) : q_Y := q_iter (q_y1 rf) n y
/-- what changes by rings -/
def sR (S S' : qS) : Prop := ∀ i, (i < 6 ∨ (6 < i ∧ i < 10) ∨ (60 ≤ i ∧ i < 154) ∨ 254 ≤ i ∨ (10 ≤ i ∧ i < 60 ∧ (i - 10) % 5 ≠ 0 ∧ (i - 10) % 5 ≠ 4)) → S' i = S i
theorem sR.rf {S : qS} : sR S S := fun _ _ => rfl
theorem sR.tr {a b c : qS} (h : sR a b) (k : sR b c) : sR a c := fun i hi => (k i hi).trans (h i hi)
theorem sA.sR {S S' : qS} (h : sA S S') : sR S S' := fun i hi => h i (by omega)
theorem sR.up {S : qS} {j : Nat} (v : Int32) (hj : j = 6 ∨ (154 ≤ j ∧ j < 254) ∨ (10 ≤ j ∧ j < 60 ∧ ((j - 10) % 5 = 4))) : sR S (va_up S j v) := fun i hi => va_up_ne _ _ (by omega)
theorem q_ch1_sR {rg : Nat → Nat} {n k : Nat} {S : qS} (ha : rg k < 10) (hb : rg ((k + 1) % n) < 10) : sR S (q_ch1 rg n k S).1 ∧ ∀ p, (q_ch1 rg n k S).1 (10 + 5 * p) = S (10 + 5 * p) ∨ 10 ≤ p := by
  unfold q_ch1
  dsimp only
  have s1 : sR S (va_up S (10 + 5 * rg k + 4) (S (10 + 5 * rg k + 4) + nI 1)) := sR.up _ (by omega)
  have p1 : ∀ p, va_up S (10 + 5 * rg k + 4) (S (10 + 5 * rg k + 4) + nI 1) (10 + 5 * p) = S (10 + 5 * p) := fun p => va_up_ne _ _ (by omega)
  split
  · refine ⟨s1.tr (sR.up _ (by omega)), fun p => ?_⟩
    rcases Nat.lt_or_ge p 10 with h | h
    · left
      exact (va_up_ne _ _ (by omega)).trans (p1 p)
    · exact Or.inr h
  · exact ⟨s1, fun p => Or.inl (p1 p)⟩
theorem q_chc_sR {rg : Nat → Nat} {n : Nat} (hn : 0 < n) (hr : ∀ k, k < n → rg k < 10) : ∀ (m k : Nat) (S : qS) (c : Int32), k + m ≤ n → sR S (q_chc rg n m k S c).1 ∧ ∀ p, p < 10 → (q_chc rg n m k S c).1 (10 + 5 * p) = S (10 + 5 * p)
  | 0, _, _, _, _ => ⟨sR.rf, fun _ _ => rfl⟩
  | m + 1, k, S, c, h => by
    have hk := q_ch1_sR (rg := rg) (n := n) (k := k) (S := S) (hr k (by omega)) (hr _ (Nat.mod_lt _ hn))
    have key : ∀ c', sR S (q_chc rg n m (k + 1) (q_ch1 rg n k S).1 c').1 ∧ ∀ p, p < 10 → (q_chc rg n m (k + 1) (q_ch1 rg n k S).1 c').1 (10 + 5 * p) = S (10 + 5 * p) := by
      intro c'
      obtain ⟨y1, y2⟩ := q_chc_sR hn hr m (k + 1) (q_ch1 rg n k S).1 c' (by omega)
      refine ⟨hk.1.tr y1, fun p hp => (y2 p hp).trans ?_⟩
      rcases hk.2 p with z | z
      · exact z
      · omega
    unfold q_chc
    split
    · exact key _
    · exact key _
theorem gS.of {S S' : qS} (g : gS S) (h0 : S' 0 = S 0) (h1 : S' 1 = S 1) (hp : ∀ p, p < 10 → S' (10 + 5 * p) = S (10 + 5 * p)) : gS S' := by
  have n0 : s_n S' 0 = s_n S 0 := by unfold s_n; rw [h0]
  have n1 : s_n S' 1 = s_n S 1 := by unfold s_n; rw [h1]
  refine ⟨⟨by rw [h0, n0]; exact g.1.1, by rw [n0]; exact g.1.2⟩, ⟨by rw [h1, n1]; exact g.2.1.1, by rw [n1]; exact g.2.1.2⟩, fun p hp' => ?_⟩
  rw [n1] at hp'
  have e := hp p (Nat.lt_of_lt_of_le hp' g.2.1.2)
  have en : s_n S' (10 + 5 * p) = s_n S (10 + 5 * p) := by unfold s_n; rw [e]
  rw [e, en, n0]
  exact g.2.2 p hp'
/-- a ring of two is done -/
def q_dn (a b : Nat) (S : qS) : qS := va_up (q_gr (q_two a b) 2 (q_chc (q_two a b) 2 2 0 S 0).1) 6 ((q_gr (q_two a b) 2 (q_chc (q_two a b) 2 2 0 S 0).1) 6 + nI 1)
theorem q_two_lt {a b n : Nat} (ha : a < n) (hb : b < n) (k : Nat) : q_two a b k < n := by unfold q_two; split <;> assumption
theorem q_dn_ok {a b : Nat} {S : qS} (g : gS S) (ha : a < s_n S 1) (hb : b < s_n S 1) : sR S (q_dn a b S) ∧ gS (q_dn a b S) := by
  have h10 := g.2.1.2
  obtain ⟨y1, y2⟩ := q_chc_sR (rg := q_two a b) (n := 2) (by decide) (fun k _ => q_two_lt (by omega) (by omega) k) 2 0 S 0 (by omega)
  have g1 : gS (q_chc (q_two a b) 2 2 0 S 0).1 := g.of (y1 0 (by omega)) (y1 1 (by omega)) y2
  have n1 : s_n (q_chc (q_two a b) 2 2 0 S 0).1 1 = s_n S 1 := by unfold s_n; rw [y1 1 (by omega)]
  have s2 := (q_gr_sA (rg := q_two a b) (n := 2) (S := (q_chc (q_two a b) 2 2 0 S 0).1) (fun k _ => q_two_lt (by omega) (by omega) k)).sR
  have g2 := q_gr_g (rg := q_two a b) (n := 2) g1 (by decide) (fun k _ => by rw [n1]; exact q_two_lt ha hb k)
  refine ⟨(y1.tr s2).tr (sR.up _ (Or.inl rfl)), g2.of (va_up_ne _ _ (by omega)) (va_up_ne _ _ (by omega)) (fun p _ => va_up_ne _ _ (by omega))⟩

