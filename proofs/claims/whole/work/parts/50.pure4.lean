/-! MOST: the chosen rings are followed -/
def q_nv (x : Nat) : Prop := x / 8 % 16 < 10 ∧ x / 128 % 16 < 10 ∧ x / 2048 % 16 < 10 ∧ (x % 8 = 0 ∨ x % 8 = 2 ∨ x % 8 = 3 ∨ x % 8 = 4)
theorem q_fold_nv {D : Nat → q_T3} {set : Nat} : ∀ (l : List q_O) (b : q_T3), (∀ o ∈ l, q_nv o.2.2.2) → q_nv b.2.2 → q_nv (l.foldl (q_of1 D set) b).2.2
  | [], _, _, h => h
  | o :: l, b, hl, h => by
    refine q_fold_nv l _ (fun x hx => hl x (List.mem_cons_of_mem _ hx)) ?_
    unfold q_of1
    split
    · exact h
    · exact hl o List.mem_cons_self
theorem q_nv4 {b c d : Nat} (hb : b < 10) (hc : c < 10) (hd : d < 10) : q_nv (4 + 8 * b + 128 * c + 2048 * d) := by unfold q_nv; omega
theorem q_nv3 {b c : Nat} (hb : b < 10) (hc : c < 10) : q_nv (3 + 8 * b + 128 * c) := by unfold q_nv; omega
theorem q_nv2 {b : Nat} (hb : b < 10) : q_nv (2 + 8 * b) := by unfold q_nv; omega
theorem q_o4_nv {can : Nat → Nat → Nat → Bool} {gn : Nat → Nat → Int32} {set p b c : Nat} (hb : b < 10) (hc : c < 10) : ∀ (m d : Nat), d + m ≤ 10 → ∀ o ∈ q_o4 can gn set p b c m d, q_nv o.2.2.2
  | 0, _, _, o, h => absurd h List.not_mem_nil
  | m + 1, d, hd, o, h => by
    unfold q_o4 at h
    split at h
    · rcases List.mem_cons.mp h with e | e
      · subst e
        exact q_nv4 hb hc (by omega)
      · exact q_o4_nv hb hc m (d + 1) (by omega) o e
    · exact q_o4_nv hb hc m (d + 1) (by omega) o h
theorem q_o3_nv {can : Nat → Nat → Nat → Bool} {gn : Nat → Nat → Int32} {pe k set p b : Nat} (hpe : pe ≤ 10) (hp : p < pe) (hb : b < 10) : ∀ (m c : Nat), c + m ≤ 10 → ∀ o ∈ q_o3 can gn pe k set p b m c, q_nv o.2.2.2
  | 0, _, _, o, h => absurd h List.not_mem_nil
  | m + 1, c, hc, o, h => by
    unfold q_o3 at h
    split at h
    · rcases List.mem_append.mp h with h | h
      · rcases List.mem_append.mp h with h | h
        · split at h
          · rcases List.mem_singleton.mp h with rfl
            exact q_nv3 hb (by omega)
          · exact absurd h List.not_mem_nil
        · split at h
          · exact q_o4_nv hb (by omega) _ _ (by omega) o h
          · exact absurd h List.not_mem_nil
      · exact q_o3_nv hpe hp hb m (c + 1) (by omega) o h
    · exact q_o3_nv hpe hp hb m (c + 1) (by omega) o h
theorem q_o2_nv {can : Nat → Nat → Nat → Bool} {gn : Nat → Nat → Int32} {pe k set p : Nat} (hpe : pe ≤ 10) (hp : p < pe) : ∀ (m b : Nat), b + m ≤ 10 → ∀ o ∈ q_o2 can gn pe k set p m b, q_nv o.2.2.2
  | 0, _, _, o, h => absurd h List.not_mem_nil
  | m + 1, b, hb, o, h => by
    unfold q_o2 at h
    split at h
    · rcases List.mem_append.mp h with h | h
      · rcases List.mem_append.mp h with h | h
        · split at h
          · rcases List.mem_singleton.mp h with rfl
            exact q_nv2 (by omega)
          · exact absurd h List.not_mem_nil
        · split at h
          · exact q_o3_nv hpe hp (by omega) _ _ (by omega) o h
          · exact absurd h List.not_mem_nil
      · exact q_o2_nv hpe hp m (b + 1) (by omega) o h
    · exact q_o2_nv hpe hp m (b + 1) (by omega) o h
theorem q_Dt_nv {can : Nat → Nat → Nat → Bool} {gn : Nat → Nat → Int32} {pe k : Nat} (hpe : pe ≤ 10) : ∀ s, s < 2 ^ pe → ∀ i, q_nv (q_Dt can gn pe k s i).2.2
  | 0, _, i => by show q_nv 0; unfold q_nv; omega
  | s + 1, h, i => by
    have ih := q_Dt_nv (can := can) (gn := gn) (k := k) hpe s (by omega)
    show q_nv (if _ then _ else _ : q_T3).2.2
    split
    · have h1 : s + 1 < 1024 := Nat.lt_of_lt_of_le h (Nat.pow_le_pow_right (by decide) hpe)
      obtain ⟨y1, y2, -⟩ := q_lo_ok (s := s + 1) (by omega) h1
      have y3 := q_tb_lt h y1
      exact q_fold_nv _ _ (q_o2_nv hpe y3 _ _ (by omega)) (by show q_nv 0; unfold q_nv; omega)
    · exact ih i
/-- one step: who takes whose place, who is left -/
def q_fws (c p : Nat) (t : Nat → Nat) : Nat → Nat :=
  let n := c % 8
  let b := c / 8 % 16
  let d := c / 128 % 16
  let e := c / 2048 % 16
  let t1 := va_up t p b
  let t2 := va_up t1 b (if n = 2 then p else d)
  let t3 := if 2 < n then va_up t2 d (if n = 3 then p else e) else t2
  if 3 < n then va_up t3 e p else t3
def q_fwl (c : Nat) : Nat := 2 ^ (c / 8 % 16) ||| (if 2 < c % 8 then 2 ^ (c / 128 % 16) else 0) ||| (if 3 < c % 8 then 2 ^ (c / 2048 % 16) else 0)
def q_fwc (ch : Nat → Nat) : Nat → Nat → (Nat → Nat) → Nat → Nat
  | 0, _, t => t
  | f + 1, s, t => if s = 0 then t else if ch s % 8 = 0 then q_fwc ch f (q_wo s (2 ^ q_lo s)) t else q_fwc ch f (q_wo (q_wo s (2 ^ q_lo s)) (q_fwl (ch s))) (q_fws (ch s) (q_lo s) t)
/-- more fuel than there is to do changes nothing -/
theorem q_fwc_f (ch : Nat → Nat) : ∀ (f f' s : Nat) (t : Nat → Nat), s ≤ f → s ≤ f' → s < 1024 → q_fwc ch f s t = q_fwc ch f' s t
  | 0, 0, _, _, _, _, _ => rfl
  | 0, f' + 1, s, t, h, _, _ => by
    have : s = 0 := by omega
    subst this
    unfold q_fwc
    rw [if_pos rfl]
  | f + 1, 0, s, t, _, h, _ => by
    have : s = 0 := by omega
    subst this
    unfold q_fwc
    rw [if_pos rfl]
  | f + 1, f' + 1, s, t, h, h', hs => by
    unfold q_fwc
    by_cases h0 : s = 0
    · rw [if_pos h0, if_pos h0]
    · rw [if_neg h0, if_neg h0]
      obtain ⟨y1, y2, -⟩ := q_lo_ok (s := s) (by omega) hs
      have hw : q_wo s (2 ^ q_lo s) < s := q_wo_lt y1 Nat.testBit_two_pow_self
      split
      · exact q_fwc_f ch f f' _ _ (by omega) (by omega) (by omega)
      · have := q_wo_le (q_wo s (2 ^ q_lo s)) (q_fwl (ch s))
        exact q_fwc_f ch f f' _ _ (by omega) (by omega) (by omega)
