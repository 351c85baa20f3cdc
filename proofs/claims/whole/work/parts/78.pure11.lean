/-! SEARCH: the book's rows point back -/
def q_bw (B : q_B) : Prop := q_lv B 0 = 0 ∧ ∀ i, 0 < i → i < B.1 → q_fr1 B i < i ∧ q_lv B i = q_lv B (q_fr1 B i) + 1 ∧ q_ba B i < q_bb B i ∧ q_bb B i < 10
theorem q_bw.ap {B : q_B} (h : q_bw B) {n k a b : Nat} (hk : k < B.1) (hab : a < b) (hb : b < 10) : q_bw (q_ap B (n, k, a, b, q_lv B k + 1, 0)) := by
  have old : ∀ i, i < B.1 → (q_ap B (n, k, a, b, q_lv B k + 1, 0)).2 i = B.2 i := fun i hi => q_ap_old hi
  have new : (q_ap B (n, k, a, b, q_lv B k + 1, 0)).2 B.1 = (n, k, a, b, q_lv B k + 1, 0) := q_ap_new
  refine ⟨?_, fun i h0 hi => ?_⟩
  · show ((q_ap B (n, k, a, b, q_lv B k + 1, 0)).2 0).2.2.2.2.1 = 0
    rw [old 0 (by omega)]
    exact h.1
  · have hi' : i < B.1 + 1 := hi
    rcases Nat.lt_or_ge i B.1 with z | z
    · obtain ⟨c1, c2, c3, c4⟩ := h.2 i h0 z
      have e1 : q_fr1 (q_ap B (n, k, a, b, q_lv B k + 1, 0)) i = q_fr1 B i := congrArg (fun e : q_E => e.2.1) (old i z)
      have e2 : q_lv (q_ap B (n, k, a, b, q_lv B k + 1, 0)) i = q_lv B i := congrArg (fun e : q_E => e.2.2.2.2.1) (old i z)
      have e3 : q_ba (q_ap B (n, k, a, b, q_lv B k + 1, 0)) i = q_ba B i := congrArg (fun e : q_E => e.2.2.1) (old i z)
      have e4 : q_bb (q_ap B (n, k, a, b, q_lv B k + 1, 0)) i = q_bb B i := congrArg (fun e : q_E => e.2.2.2.1) (old i z)
      have e5 : q_lv (q_ap B (n, k, a, b, q_lv B k + 1, 0)) (q_fr1 B i) = q_lv B (q_fr1 B i) := congrArg (fun e : q_E => e.2.2.2.2.1) (old _ (by omega))
      rw [e1, e2, e3, e4, e5]
      exact ⟨c1, c2, c3, c4⟩
    · obtain rfl : i = B.1 := by omega
      have e1 : q_fr1 (q_ap B (n, k, a, b, q_lv B k + 1, 0)) B.1 = k := congrArg (fun e : q_E => e.2.1) new
      have e2 : q_lv (q_ap B (n, k, a, b, q_lv B k + 1, 0)) B.1 = q_lv B k + 1 := congrArg (fun e : q_E => e.2.2.2.2.1) new
      have e3 : q_ba (q_ap B (n, k, a, b, q_lv B k + 1, 0)) B.1 = a := congrArg (fun e : q_E => e.2.2.1) new
      have e4 : q_bb (q_ap B (n, k, a, b, q_lv B k + 1, 0)) B.1 = b := congrArg (fun e : q_E => e.2.2.2.1) new
      have e5 : q_lv (q_ap B (n, k, a, b, q_lv B k + 1, 0)) k = q_lv B k := congrArg (fun e : q_E => e.2.2.2.2.1) (old k hk)
      rw [e1, e2, e3, e4, e5]
      exact ⟨hk, rfl, hab, hb⟩
/-- what every step keeps -/
theorem q_lp_P {f : Nat → q_B → q_B × Option Int32} {P : q_B → Prop} {Q : Nat → Prop} (hf : ∀ i B, Q i → P B → P (f i B).1) : ∀ (m i : Nat) (B : q_B), (∀ j, i ≤ j → j < i + m → Q j) → P B → P (q_lp f m i B).1
  | 0, _, _, _, h => h
  | m + 1, i, B, hq, h => by
    have k := hf i B (hq i (by omega) (by omega)) h
    obtain ⟨x, y⟩ : ∃ x, f i B = x := ⟨_, rfl⟩
    obtain ⟨B1, o⟩ := x
    rw [y] at k
    cases o with
    | none =>
      rw [q_lp_n y]
      exact q_lp_P hf m (i + 1) B1 (fun j h1 h2 => hq j (by omega) (by omega)) k
    | some t =>
      rw [q_lp_r y]
      exact k
theorem q_wk_P {f : Nat → q_B → q_B × Option Int32} {P : q_B → Prop} (hf : ∀ i B, i < B.1 → P B → P (f i B).1) : ∀ (m i : Nat) (B : q_B), P B → P (q_wk f m i B).1
  | 0, _, _, h => h
  | m + 1, i, B, h => by
    by_cases hi : i < B.1
    · have k := hf i B hi h
      obtain ⟨x, y⟩ : ∃ x, f i B = x := ⟨_, rfl⟩
      obtain ⟨B1, o⟩ := x
      rw [y] at k
      cases o with
      | none =>
        rw [q_wk_n hi y]
        exact q_wk_P hf m (i + 1) B1 k
      | some t =>
        rw [q_wk_r hi y]
        exact k
    · rw [q_wk_e hi]
      exact h
theorem q_ev_bw {S : qS} {rf : Option qR} {go : Option (Nat × Nat)} {k a b : Nat} {B : q_B} (hab : a < b) (hb : b < 10) (h : q_bw B ∧ k < B.1) : q_bw (q_ev S rf go k a b B).1 ∧ k < (q_ev S rf go k a b B).1.1 := by
  unfold q_ev
  split
  · exact h
  · split
    · exact h
    · split
      · exact h
      · exact ⟨h.1.ap h.2 hab hb, Nat.lt_succ_of_lt h.2⟩
theorem q_se_bw {S : qS} (g : gS S) (rf : Option qR) (go : Option (Nat × Nat)) : q_bw (q_se S rf go).1 := by
  have h10 := g.2.1.2
  have b0 : q_bw (q_B0 (q_en (s_at S) (s_n S 1))) := ⟨rfl, fun i h0 hi => absurd (show i < 1 from hi) (by omega)⟩
  unfold q_se
  split
  · exact b0
  · refine q_wk_P (P := q_bw) (fun k B hk h => ?_) _ _ _ b0
    refine (q_lp_P (P := fun B => q_bw B ∧ k < B.1) (Q := fun a => a < s_n S 1) (fun a B ha h => ?_) _ _ _ (fun j _ hj => by omega) ⟨h, hk⟩).1
    exact q_lp_P (P := fun B => q_bw B ∧ k < B.1) (Q := fun b => a < b ∧ b < s_n S 1) (fun b B hb h => q_ev_bw hb.1 (by omega) h) _ _ _ (fun j h1 h2 => by omega) h
