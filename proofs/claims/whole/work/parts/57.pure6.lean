/-! who takes whose place is one of the people -/
def q_nvp (pe x : Nat) : Prop := (x % 8 ≠ 0 → x / 8 % 16 < pe) ∧ (2 < x % 8 → x / 128 % 16 < pe) ∧ (3 < x % 8 → x / 2048 % 16 < pe)
theorem q_fold_nvp {pe : Nat} {D : Nat → q_T3} {set : Nat} : ∀ (l : List q_O) (b : q_T3), (∀ o ∈ l, q_nvp pe o.2.2.2) → q_nvp pe b.2.2 → q_nvp pe (l.foldl (q_of1 D set) b).2.2
  | [], _, _, h => h
  | o :: l, b, hl, h => by
    refine q_fold_nvp l _ (fun x hx => hl x (List.mem_cons_of_mem _ hx)) ?_
    unfold q_of1
    split
    · exact h
    · exact hl o List.mem_cons_self
theorem q_nvp4 {pe b c d : Nat} (hpe : pe ≤ 10) (hb : b < pe) (hc : c < pe) (hd : d < pe) : q_nvp pe (4 + 8 * b + 128 * c + 2048 * d) := by unfold q_nvp; omega
theorem q_nvp3 {pe b c : Nat} (hpe : pe ≤ 10) (hb : b < pe) (hc : c < pe) : q_nvp pe (3 + 8 * b + 128 * c) := by unfold q_nvp; omega
theorem q_nvp2 {pe b : Nat} (hpe : pe ≤ 10) (hb : b < pe) : q_nvp pe (2 + 8 * b) := by unfold q_nvp; omega
theorem q_o4_nvp {can : Nat → Nat → Nat → Bool} {gn : Nat → Nat → Int32} {pe set p b c : Nat} (hpe : pe ≤ 10) (hb : b < pe) (hc : c < pe) : ∀ (m d : Nat), d + m ≤ pe → ∀ o ∈ q_o4 can gn set p b c m d, q_nvp pe o.2.2.2
  | 0, _, _, o, h => absurd h List.not_mem_nil
  | m + 1, d, hd, o, h => by
    unfold q_o4 at h
    split at h
    · rcases List.mem_cons.mp h with e | e
      · subst e
        exact q_nvp4 hpe hb hc (by omega)
      · exact q_o4_nvp hpe hb hc m (d + 1) (by omega) o e
    · exact q_o4_nvp hpe hb hc m (d + 1) (by omega) o h
theorem q_o3_nvp {can : Nat → Nat → Nat → Bool} {gn : Nat → Nat → Int32} {pe k set p b : Nat} (hpe : pe ≤ 10) (hp : p < pe) (hb : b < pe) : ∀ (m c : Nat), c + m ≤ pe → ∀ o ∈ q_o3 can gn pe k set p b m c, q_nvp pe o.2.2.2
  | 0, _, _, o, h => absurd h List.not_mem_nil
  | m + 1, c, hc, o, h => by
    unfold q_o3 at h
    split at h
    · rcases List.mem_append.mp h with h | h
      · rcases List.mem_append.mp h with h | h
        · split at h
          · rcases List.mem_singleton.mp h with rfl
            exact q_nvp3 hpe hb (by omega)
          · exact absurd h List.not_mem_nil
        · split at h
          · exact q_o4_nvp hpe hb (by omega) _ _ (by omega) o h
          · exact absurd h List.not_mem_nil
      · exact q_o3_nvp hpe hp hb m (c + 1) (by omega) o h
    · exact q_o3_nvp hpe hp hb m (c + 1) (by omega) o h
theorem q_o2_nvp {can : Nat → Nat → Nat → Bool} {gn : Nat → Nat → Int32} {pe k set p : Nat} (hpe : pe ≤ 10) (hp : p < pe) : ∀ (m b : Nat), b + m ≤ pe → ∀ o ∈ q_o2 can gn pe k set p m b, q_nvp pe o.2.2.2
  | 0, _, _, o, h => absurd h List.not_mem_nil
  | m + 1, b, hb, o, h => by
    unfold q_o2 at h
    split at h
    · rcases List.mem_append.mp h with h | h
      · rcases List.mem_append.mp h with h | h
        · split at h
          · rcases List.mem_singleton.mp h with rfl
            exact q_nvp2 hpe (by omega)
          · exact absurd h List.not_mem_nil
        · split at h
          · exact q_o3_nvp hpe hp (by omega) _ _ (by omega) o h
          · exact absurd h List.not_mem_nil
      · exact q_o2_nvp hpe hp m (b + 1) (by omega) o h
    · exact q_o2_nvp hpe hp m (b + 1) (by omega) o h
theorem q_nvp0 {pe : Nat} : q_nvp pe 0 := by unfold q_nvp; omega
theorem q_Dt_nvp {can : Nat → Nat → Nat → Bool} {gn : Nat → Nat → Int32} {pe k : Nat} (hpe : pe ≤ 10) : ∀ s, s < 2 ^ pe → ∀ i, q_nvp pe (q_Dt can gn pe k s i).2.2
  | 0, _, i => q_nvp0
  | s + 1, h, i => by
    have ih := q_Dt_nvp (can := can) (gn := gn) (k := k) hpe s (by omega)
    show q_nvp pe (if _ then _ else _ : q_T3).2.2
    split
    · have h1 : s + 1 < 1024 := Nat.lt_of_lt_of_le h (Nat.pow_le_pow_right (by decide) hpe)
      obtain ⟨y1, y2, -⟩ := q_lo_ok (s := s + 1) (by omega) h1
      have y3 := q_tb_lt h y1
      exact q_fold_nvp _ _ (q_o2_nvp hpe y3 _ _ (by omega)) q_nvp0
    · exact ih i
theorem q_up_lt {t : Nat → Nat} {pe p b : Nat} (hb : b < pe) (ht : ∀ i, i < pe → t i < pe) : ∀ i, i < pe → va_up t p b i < pe := by
  intro i hi
  unfold va_up
  split
  · exact hb
  · exact ht i hi
theorem q_fws_lt {c p pe : Nat} {t : Nat → Nat} (hp : p < pe) (hv : q_nvp pe c) (hn : q_nv c) (h0 : c % 8 ≠ 0) (ht : ∀ i, i < pe → t i < pe) : ∀ i, i < pe → q_fws c p t i < pe := by
  obtain ⟨v1, v2, v3⟩ := hv
  have n3 := hn.2.2.2
  have t1 := q_up_lt (p := p) (v1 h0) ht
  have t2 : ∀ i, i < pe → va_up (va_up t p (c / 8 % 16)) (c / 8 % 16) (if c % 8 = 2 then p else c / 128 % 16) i < pe := by
    refine q_up_lt ?_ t1
    split
    · exact hp
    · exact v2 (by omega)
  have t3 : ∀ i, i < pe → (if 2 < c % 8 then va_up (va_up (va_up t p (c / 8 % 16)) (c / 8 % 16) (if c % 8 = 2 then p else c / 128 % 16)) (c / 128 % 16) (if c % 8 = 3 then p else c / 2048 % 16) else va_up (va_up t p (c / 8 % 16)) (c / 8 % 16) (if c % 8 = 2 then p else c / 128 % 16)) i < pe := by
    split
    · refine q_up_lt ?_ t2
      split
      · exact hp
      · exact v3 (by omega)
    · exact t2
  unfold q_fws
  split
  · exact q_up_lt hp t3
  · exact t3
theorem q_fwc_lt {ch : Nat → Nat} {pe : Nat} (hpe : pe ≤ 10) (hch : ∀ s, q_nvp pe (ch s) ∧ q_nv (ch s)) : ∀ (f s : Nat) (t : Nat → Nat), s < 2 ^ pe → (∀ i, i < pe → t i < pe) → ∀ i, i < pe → q_fwc ch f s t i < pe
  | 0, _, _, _, ht => ht
  | f + 1, s, t, hs, ht => by
    have h1024 : 2 ^ pe ≤ 1024 := Nat.pow_le_pow_right (by decide) hpe
    unfold q_fwc
    split
    · exact ht
    · next h0 =>
      obtain ⟨y1, y2, -⟩ := q_lo_ok (s := s) (by omega) (by omega)
      have hw := q_wo_le s (2 ^ q_lo s)
      have hw2 := q_wo_le (q_wo s (2 ^ q_lo s)) (q_fwl (ch s))
      split
      · exact q_fwc_lt hpe hch f _ _ (by omega) ht
      · next hn => exact q_fwc_lt hpe hch f _ _ (by omega) (q_fws_lt (q_tb_lt hs y1) (hch s).1 (hch s).2 hn ht)
theorem q_tk_lt {S : qS} {rf : Option qR} {ly : Option (Nat × Nat)} {k : Nat} (hpe : s_n S 1 ≤ 10) : ∀ i, i < s_n S 1 → q_tk S rf ly k i < s_n S 1 := by
  have hpos : 1 ≤ 2 ^ s_n S 1 := Nat.one_le_two_pow
  exact q_fwc_lt hpe (fun s => ⟨q_Dt_nvp hpe _ (by omega) s, q_Dt_nv hpe _ (by omega) s⟩) _ _ _ (by omega) (fun i hi => hi)
theorem q_cr_lt {S : qS} {rf : Option qR} {ly : Option (Nat × Nat)} : ∀ (f left : Nat) (t : Nat → Nat), left < 2 ^ s_n S 1 → (∀ i, i < s_n S 1 → t i < s_n S 1) → ∀ i, i < s_n S 1 → q_cr S rf ly f left t i < s_n S 1
  | 0, _, _, _, ht => ht
  | f + 1, left, t, hl, ht => by
    unfold q_cr
    split
    · exact ht
    · refine q_cr_lt f _ _ (Nat.lt_of_le_of_lt (q_wo_le _ _) hl) (fun i hi => ?_)
      split
      · exact q_pt_lt hl hi
      · exact ht i hi
theorem q_ct_lt {S : qS} {rf : Option qR} {ly : Option (Nat × Nat)} : ∀ i, i < s_n S 1 → q_ct S rf ly i < s_n S 1 := by
  have hpos : 1 ≤ 2 ^ s_n S 1 := Nat.one_le_two_pow
  exact q_cr_lt _ _ _ (by omega) (fun i hi => hi)
/-- twos who would each like the other one's place more -/
def q_bf (S : qS) (rf : Option qR) (tk : Nat → Nat) (a b : Nat) : Bool := decide (q_lk S rf a (s_at S a) (s_at S (tk a)) < q_lk S rf a (s_at S a) (s_at S (tk b))) && decide (q_lk S rf b (s_at S b) (s_at S (tk b)) < q_lk S rf b (s_at S b) (s_at S (tk a)))
def q_b1 (f : Nat → Nat → Bool) (a : Nat) : Nat → Nat → Nat → Nat
  | 0, _, n => n
  | m + 1, b, n => q_b1 f a m (b + 1) (if f a b = true then n + 1 else n)
def q_b2 (f : Nat → Nat → Bool) (pe : Nat) : Nat → Nat → Nat → Nat
  | 0, _, n => n
  | m + 1, a, n => q_b2 f pe m (a + 1) (q_b1 f a (pe - (a + 1)) (a + 1) n)
