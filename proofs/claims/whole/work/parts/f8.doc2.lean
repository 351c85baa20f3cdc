/-! THE CLASS: DOCTORS, all sets -/
def q_sbd (v ca : Nat → Nat) (set : Nat) : Nat → Nat
  | 0 => 0
  | q + 1 => q_sbd v ca set q + (if v q &&& set = 0 then 0 else ca q)
theorem q_sbd_add (v a b : Nat → Nat) (set : Nat) : ∀ k, q_sbd v (fun q => a q + b q) set k = q_sbd v a set k + q_sbd v b set k
  | 0 => rfl
  | k + 1 => by
    show q_sbd v (fun q => a q + b q) set k + (if _ then _ else _) = (q_sbd v a set k + (if _ then _ else _)) + (q_sbd v b set k + (if _ then _ else _))
    rw [q_sbd_add v a b set k]
    by_cases h : v k &&& set = 0
    · rw [if_pos h, if_pos h, if_pos h]
      simp only [Nat.add_zero]
    · rw [if_neg h, if_neg h, if_neg h]
      exact Nat.add_add_add_comm _ _ _ _
theorem q_sbd_1 (v : Nat → Nat) (set t : Nat) : ∀ k, q_sbd v (fun q => if t = q then 1 else 0) set k = if t < k then (if v t &&& set = 0 then 0 else 1) else 0
  | 0 => rfl
  | k + 1 => by
    show q_sbd v _ set k + (if v k &&& set = 0 then 0 else if t = k then 1 else 0) = _
    rw [q_sbd_1 v set t k]
    have hz : (if v k &&& set = 0 then 0 else 0) = (0 : Nat) := by split <;> rfl
    by_cases h : t = k
    · rw [h, if_neg (Nat.lt_irrefl k), if_pos (Nat.lt_succ_self k), if_pos rfl, Nat.zero_add]
    · by_cases h2 : t < k
      · have h3 : t < k + 1 := by omega
        rw [if_pos h2, if_pos h3, if_neg h, hz, Nat.add_zero]
      · have h3 : ¬ t < k + 1 := by omega
        rw [if_neg h2, if_neg h3, if_neg h, hz]
theorem q_sbd_cg {v a b : Nat → Nat} {set : Nat} : ∀ k, (∀ q, q < k → a q = b q) → q_sbd v a set k = q_sbd v b set k
  | 0, _ => rfl
  | k + 1, h => by
    show _ + _ = _ + _
    rw [q_sbd_cg k (fun q hq => h q (by omega)), h k (by omega)]
theorem q_sbd_0 {v : Nat → Nat} {set : Nat} : ∀ k, q_sbd v (fun _ => 0) set k = 0
  | 0 => rfl
  | k + 1 => by
    show q_sbd v (fun _ => 0) set k + (if _ then _ else _) = 0
    rw [q_sbd_0 k]
    split <;> rfl
theorem q_sbd_so {S : qS} {v : Nat → Nat} {set pl : Nat} (hpl : pl ≤ 8) : ∀ n, (∀ c, c < n → S (140 + c) = nI (s_n S (140 + c)) ∧ s_n S (140 + c) < pl) → q_sbd v (fun q => q_ca S (nI q) n) set pl = q_so (fun c => v (s_n S (140 + c))) set n
  | 0, _ => q_sbd_0 pl
  | n + 1, h => by
    have hn := h n (by omega)
    have e : q_sbd v (fun q => q_ca S (nI q) (n + 1)) set pl = q_sbd v (fun q => q_ca S (nI q) n + (if s_n S (140 + n) = q then 1 else 0)) set pl := q_sbd_cg pl (fun q hq => by
      show q_ca S (nI q) n + (if S (140 + n) = nI q then 1 else 0) = _
      by_cases z : s_n S (140 + n) = q
      · rw [if_pos (by rw [hn.1, z]), if_pos z]
      · rw [if_neg (fun w => z (nI_eqT (by omega) (by omega) (hn.1.symm.trans w))), if_neg z])
    rw [e, q_sbd_add, q_sbd_1, if_pos hn.2, q_sbd_so hpl n (fun c hc => h c (by omega))]
    rfl
theorem l_servedBy {G : qx_G} {σ : qx_S} {S : qS} {rf : Option qR} {e : Nat} (hI : cI σ S rf e) {v : Nat → Nat} (hv : ∀ c, c < s_n S 0 → qx_mi σ 190 c = nI (v c) ∧ v c < 256) {x : Nat} : ∀ (m k : Nat), m + k = s_n S 0 → qx_K G qc_T 0 RX11 YX11_servedBy 4 [.ref 3, .int (nI x), .int (nI (q_sbd v (fun q => q_ca S (nI q) (s_n S 2)) x k)), .int (nI k)] [] σ (qr (nI (q_sbd v (fun q => q_ca S (nI q) (s_n S 2)) x (s_n S 0))) σ) := by
  have h8 := hI.1.pl
  have e4 := hI.2.1.1.1.trans hI.1.1.2.1.1.1
  intro m
  induction m with
  | zero =>
    intro k hk
    rw [show k = s_n S 0 by omega]
    refine qy_wp_ok (c := CX11_servedBy) (cuts := [4]) vX11_servedBy wX11_servedBy 2000 4 _ _ _ ?_
    refine And.intro rfl (Exists.intro 15 (And.intro rfl ?_))
    refine And.intro rfl (Exists.intro 16 (And.intro rfl ?_))
    refine And.intro rfl (Exists.intro 4 (Exists.intro (nI (s_n S 0)) (And.intro rfl (And.intro e4 ?_))))
    refine And.intro (fun h15 => ?_) (fun h15 => ?_)
    · skip
      have h15 := nI_leT (a := s_n S 0) (b := s_n S 0) (by omega) (by omega) h15
      exact ⟨rfl, rfl⟩
    · skip
      have h15 := nI_leF (a := s_n S 0) (b := s_n S 0) (by omega) (by omega) h15
      exact absurd h15 (by omega)
  | succ m ih =>
    intro k hk
    have hvk := hv k (by omega)
    have hva : v k &&& x < 256 := Nat.lt_of_le_of_lt Nat.and_le_left hvk.2
    obtain ⟨a, ea⟩ : ∃ a, a = q_sbd v (fun q => q_ca S (nI q) (s_n S 2)) x k := ⟨_, rfl⟩
    have z := ih (k + 1) (by omega)
    have st : q_sbd v (fun q => q_ca S (nI q) (s_n S 2)) x (k + 1) = a + (if v k &&& x = 0 then 0 else q_ca S (nI k) (s_n S 2)) := by rw [ea]; rfl
    rw [st] at z
    rw [← ea]
    refine qy_wp_ok (c := CX11_servedBy) (cuts := [4]) vX11_servedBy wX11_servedBy 2000 4 _ _ _ ?_
    refine And.intro rfl (Exists.intro 15 (And.intro rfl ?_))
    refine And.intro rfl (Exists.intro 16 (And.intro rfl ?_))
    refine And.intro rfl (Exists.intro 4 (Exists.intro (nI (s_n S 0)) (And.intro rfl (And.intro e4 ?_))))
    refine And.intro (fun h15 => ?_) (fun h15 => ?_)
    · skip
      have h15 := nI_leT (a := s_n S 0) (b := k) (by omega) (by omega) h15
      exact absurd h15 (by omega)
    · skip
      have h15 := nI_leF (a := s_n S 0) (b := k) (by omega) (by omega) h15
      refine And.intro rfl (Exists.intro 190 (And.intro rfl ?_))
      refine Exists.intro (k) (Exists.intro (nI (v k)) (And.intro rfl (And.intro ⟨8, rfl, by omega, by decide⟩ (And.intro hvk.1 ?_))))
      refine Exists.intro (nI ((v k) &&& x)) (And.intro (nI_and _ _) ?_)
      refine And.intro (fun h26 => ?_) (fun h26 => ?_)
      · skip
        have h26 := nI_eqT (a := (v k) &&& x) (b := 0) (by omega) (by decide) h26
        refine Exists.intro (nI (k + 1)) (And.intro (nI_add _ _) ?_)
        first | (rw [if_pos h26, Nat.add_zero] at z; exact z) | (rw [if_neg h26] at z; exact z)
      · skip
        have h26 := nI_neT (a := (v k) &&& x) (b := 0) (by omega) (by decide) h26
        refine And.intro rfl (Exists.intro 15 (And.intro rfl ?_))
        refine And.intro rfl (Exists.intro 16 (And.intro rfl ?_))
        refine And.intro rfl (Exists.intro 20 (And.intro rfl ?_))
        refine Exists.intro (k) (Exists.intro (nI (q_ca S (nI k) (s_n S 2))) (And.intro rfl (And.intro ⟨8, rfl, by omega, by decide⟩ (And.intro (hI.2.1.1.2.2.2.2.2.2.1 k (by omega)) ?_))))
        refine Exists.intro (nI (a + (q_ca S (nI k) (s_n S 2)))) (And.intro (nI_add _ _) ?_)
        refine Exists.intro (nI (k + 1)) (And.intro (nI_add _ _) ?_)
        first | (rw [if_pos h26, Nat.add_zero] at z; exact z) | (rw [if_neg h26] at z; exact z)
theorem c_servedBy {G : qx_G} {σ : qx_S} {S : qS} {rf : Option qR} {e : Nat} (hI : cI σ S rf e) (hL : iL S) (hv : ∀ c, c < s_n S 0 → qx_mi σ 190 c = nI (q_sv S rf c)) {x : Nat} : qx_M G qc_T 0 YX11_servedBy [.ref 3, .int (nI x)] σ (qr (nI (q_sf S rf x)) σ) := by
  have h8 := hI.1.pl
  have e1 : q_sf S rf x = q_sbd (q_sv S rf) (fun q => q_ca S (nI q) (s_n S 2)) x (s_n S 0) := (q_sbd_so h8 _ hL.2.2).symm
  rw [e1]
  refine qx_M_in rfl (Nat.le_of_ble_eq_true rfl) ?_
  refine qy_wp_ok (c := CX11_servedBy) (cuts := [4]) vX11_servedBy wX11_servedBy 2000 0 _ _ _ ?_
  refine Exists.intro (nI 0) (And.intro rfl ?_)
  refine Exists.intro (nI 0) (And.intro rfl ?_)
  exact l_servedBy hI (fun c hc => ⟨hv c hc, q_sv_lt (by omega) h8⟩) (s_n S 0) 0 (by omega)
theorem c_served_no {G : qx_G} {σ : qx_S} {S : qS} {rf : Option qR} {e : Nat} (hI : cI σ S rf e) {x : Int32} (hb : (decide (0 < s_n S 0) && q_is x (2 ^ s_n S 0)) = false) : qx_M G qc_T 5 YX11_served [.ref 3, .int x] σ (qr (-1) σ) := by
  have hpl := hI.1.pl
  refine qx_M_in rfl (Nat.le_of_ble_eq_true rfl) ?_
  refine qy_wp_ok (c := CX11_served) (cuts := []) vX11_served wX11_served 2000 0 _ _ _ ?_
  refine And.intro rfl (Exists.intro _ (And.intro (by decide) (qx_M_mono (c_hasCountry hI.2.1.1 hI.1.1.2.1.1.1 hI.1.1.2.1.1.2) ?_)))
  rintro _ _ ⟨rfl, rfl⟩
  refine And.intro (fun h4 => ?_) (fun h4 => ?_)
  · skip
    have h4 := bI_f h4
    refine Exists.intro ((-1)) (And.intro (by decide) ?_)
    exact ⟨rfl, rfl⟩
  · skip
    have h4 := bI_t h4
    refine And.intro (fun h8 => ?_) (fun h8 => ?_)
    · skip
      refine Exists.intro ((-1)) (And.intro (by decide) ?_)
      exact ⟨rfl, rfl⟩
    · skip
      refine Exists.intro (nI 1) (And.intro rfl ?_)
      refine And.intro rfl (Exists.intro 15 (And.intro rfl ?_))
      refine And.intro rfl (Exists.intro 16 (And.intro rfl ?_))
      refine And.intro rfl (Exists.intro 4 (Exists.intro (nI (s_n S 0)) (And.intro rfl (And.intro (hI.2.1.1.1.trans hI.1.1.2.1.1.1) ?_))))
      refine Exists.intro (nI (2 ^ (s_n S 0))) (And.intro (nI_sh1 (by omega)) ?_)
      refine And.intro (fun h24 => ?_) (fun h24 => ?_)
      · skip
        exfalso; rw [h4, show q_is x (2 ^ s_n S 0) = true from by unfold q_is; rw [decide_eq_true (Int32.not_lt.mp h8), decide_eq_true h24]; rfl] at hb; cases hb
      · skip
        refine Exists.intro ((-1)) (And.intro (by decide) ?_)
        exact ⟨rfl, rfl⟩
theorem c_served_ok {G : qx_G} {σ : qx_S} {S : qS} {rf : Option qR} {e : Nat} (hI : cI σ S rf e) (hL : iL S) (hc : 0 < s_n S 0) {x : Nat} (hx : x < 2 ^ s_n S 0) : qx_M G qc_T 5 YX11_served [.ref 3, .int (nI x)] σ (fun r s => r = some (.int (nI (q_sf S rf x))) ∧ ql kFs σ s ∧ cI s S rf e) := by
  have hpl := hI.1.pl
  have h256 : 2 ^ s_n S 0 ≤ 256 := Nat.pow_le_pow_right (by decide) hpl
  refine qx_M_in rfl (Nat.le_of_ble_eq_true rfl) ?_
  refine qy_wp_ok (c := CX11_served) (cuts := []) vX11_served wX11_served 2000 0 _ _ _ ?_
  refine And.intro rfl (Exists.intro _ (And.intro (by decide) (qx_M_mono (c_hasCountry hI.2.1.1 hI.1.1.2.1.1.1 hI.1.1.2.1.1.2) ?_)))
  rintro _ _ ⟨rfl, rfl⟩
  refine And.intro (fun h4 => ?_) (fun h4 => ?_)
  · skip
    have h4 := bI_f h4
    exact absurd (h4.symm.trans (decide_eq_true hc)) (by decide)
  · skip
    have h4 := bI_t h4
    refine And.intro (fun h8 => ?_) (fun h8 => ?_)
    · skip
      have h8 := nI_ltT (a := x) (b := 0) (by omega) (by decide) h8
      exact absurd h8 (by omega)
    · skip
      have h8 := nI_ltF (a := x) (b := 0) (by omega) (by decide) h8
      refine Exists.intro (nI 1) (And.intro rfl ?_)
      refine And.intro rfl (Exists.intro 15 (And.intro rfl ?_))
      refine And.intro rfl (Exists.intro 16 (And.intro rfl ?_))
      refine And.intro rfl (Exists.intro 4 (Exists.intro (nI (s_n S 0)) (And.intro rfl (And.intro (hI.2.1.1.1.trans hI.1.1.2.1.1.1) ?_))))
      refine Exists.intro (nI (2 ^ (s_n S 0))) (And.intro (nI_sh1 (by omega)) ?_)
      refine And.intro (fun h24 => ?_) (fun h24 => ?_)
      · skip
        have h24 := nI_ltT (a := x) (b := 2 ^ (s_n S 0)) (by omega) (by omega) h24
        refine And.intro rfl (Exists.intro _ (And.intro (by decide) (qx_M_mono (c_findServers hI) ?_)))
        rintro _ ρ ⟨rfl, fρ, iρ, vρ⟩
        refine And.intro rfl (Exists.intro _ (And.intro (by decide) (qx_M_mono (c_servedBy iρ hL vρ) ?_)))
        rintro _ _ ⟨rfl, rfl⟩
        exact ⟨rfl, fρ, iρ⟩
      · skip
        have h24 := nI_ltF (a := x) (b := 2 ^ (s_n S 0)) (by omega) (by omega) h24
        exact absurd h24 (by omega)
/-- the fewest -/
def q_fw1 (sf : Nat → Nat) (calls : Nat) : Nat → Nat → Nat → Nat
  | 0, _, b => b
  | m + 1, s, b => q_fw1 sf calls m (s + 1) (if q_bc s < q_bc b ∧ sf s = calls then s else b)
theorem q_bc_full : ∀ pl, pl < 9 → ∀ s, s < 2 ^ pl → q_bc s < q_bc (2 ^ pl - 1) ∨ s = 2 ^ pl - 1 := by decide +kernel
theorem q_bc_j : ∀ j, j < 9 → q_bc (2 ^ j - 1) = j := by decide +kernel
theorem q_fw1_d1 {sf : Nat → Nat} {calls pl : Nat} (hle : ∀ s, sf s ≤ calls) (hpl : pl ≤ 8) (hfull : sf (2 ^ pl - 1) = calls) : ∀ (m s b : Nat) (br : Option Nat), m + s = 2 ^ pl → (br = none ∧ b = 2 ^ pl - 1 ∧ ∀ t, t < s → sf t < calls) ∨ br = some b → q_d1 sf calls m s br = some (q_fw1 sf calls m s b)
  | 0, s, b, br, hs, h => by
    have hp : 0 < 2 ^ pl := Nat.two_pow_pos pl
    rcases h with ⟨-, -, h⟩ | h
    · exact absurd (h (2 ^ pl - 1) (by omega)) (by omega)
    · exact h
  | m + 1, s, b, br, hs, h => by
    have hp : 0 < 2 ^ pl := Nat.two_pow_pos pl
    have hl := hle s
    unfold q_d1 q_fw1
    refine q_fw1_d1 hle hpl hfull m (s + 1) _ _ (by omega) ?_
    rcases h with ⟨h1, h2, h3⟩ | h
    · rw [h1]
      dsimp only
      by_cases z : sf s < calls
      · rw [if_pos z, if_neg (by omega)]
        refine Or.inl ⟨rfl, h2, fun t ht => ?_⟩
        by_cases w : t = s
        · rw [w]; exact z
        · exact h3 t (by omega)
      · rw [if_neg z]
        right
        rcases q_bc_full pl (by omega) s (by omega) with w | w
        · rw [if_pos ⟨by rw [h2]; exact w, by omega⟩]
        · rw [if_neg (fun y => by rw [h2, ← w] at y; exact absurd y.1 (Nat.lt_irrefl _)), h2, w]
    · rw [h]
      dsimp only
      right
      by_cases z : sf s < calls ∨ q_bc b ≤ q_bc s
      · rw [if_pos z, if_neg (by omega)]
      · rw [if_neg z, if_pos (by omega)]
theorem q_or_bit {f : Nat → Bool} {i : Nat} : ∀ (m q s : Nat), s.testBit i = true → (q_or f m q s).testBit i = true
  | 0, _, _, h => h
  | m + 1, q, s, h => q_or_bit m (q + 1) _ (by rw [Nat.testBit_or, h]; rfl)
theorem q_s2_bit {S : qS} {rf : Option qR} {c i : Nat} : ∀ (m p s : Nat), s.testBit i = true → (q_s2 S rf c m p s).testBit i = true
  | 0, _, _, h => h
  | m + 1, p, s, h => by
    refine q_s2_bit m (p + 1) _ ?_
    split
    · exact q_or_bit _ _ _ h
    · exact h
theorem q_so_all {v : Nat → Nat} {set : Nat} : ∀ n, (∀ c, c < n → ¬ v c &&& set = 0) → q_so v set n = n
  | 0, _ => rfl
  | n + 1, h => by
    show q_so v set n + (if v n &&& set = 0 then 0 else 1) = n + 1
    rw [q_so_all n (fun c hc => h c (by omega)), if_neg (h n (by omega))]
theorem q_sf_full {S : qS} {rf : Option qR} (hL : iL S) : q_sf S rf (2 ^ s_n S 0 - 1) = s_n S 2 := by
  refine q_so_all _ (fun c hc z => ?_)
  have hc2 := (hL.2.2 c hc).2
  have b1 : (q_sv S rf (s_n S (140 + c))).testBit (s_n S (140 + c)) = true := q_s2_bit _ _ _ Nat.testBit_two_pow_self
  have b2 : (2 ^ s_n S 0 - 1).testBit (s_n S (140 + c)) = true := by rw [Nat.testBit_two_pow_sub_one]; exact decide_eq_true hc2
  have b3 := congrArg (fun y => y.testBit (s_n S (140 + c))) z
  have b3 : (q_sv S rf (s_n S (140 + c)) &&& (2 ^ s_n S 0 - 1)).testBit (s_n S (140 + c)) = (0 : Nat).testBit (s_n S (140 + c)) := b3
  rw [Nat.testBit_and, b1, b2, Nat.zero_testBit] at b3
  cases b3
theorem l_few {G : qx_G} {σ : qx_S} {S : qS} {rf : Option qR} {e : Nat} (hI : cI σ S rf e) (hL : iL S) (hv : ∀ c, c < s_n S 0 → qx_mi σ 190 c = nI (q_sv S rf c)) : ∀ (m s b : Nat), m + s = 2 ^ s_n S 0 → b < 256 → qx_K G qc_T 1 RX11 YX11_fewestDoctors 17 [.ref 3, .int (nI b), .int (nI s), .retAddr 0] [] σ (qr (nI (q_fw1 (q_sf S rf) (s_n S 2) m s b)) σ) := by
  have hpl := hI.1.pl
  have h256 : 2 ^ s_n S 0 ≤ 256 := Nat.pow_le_pow_right (by decide) hpl
  have e4 := hI.2.1.1.1.trans hI.1.1.2.1.1.1
  have e6 : qx_mi σ 16 6 = nI (s_n S 2) := hI.2.1.1.2.2.1.trans hL.1
  have l8 := hL.2.1
  intro m
  induction m with
  | zero =>
    intro s b hs hb
    rw [show s = 2 ^ s_n S 0 by omega]
    refine qy_wp_ok (c := CX11_fewestDoctors) (cuts := [17]) vX11_fewestDoctors wX11_fewestDoctors 2000 17 _ _ _ ?_
    refine Exists.intro (nI 1) (And.intro rfl ?_)
    refine And.intro rfl (Exists.intro 15 (And.intro rfl ?_))
    refine And.intro rfl (Exists.intro 16 (And.intro rfl ?_))
    refine And.intro rfl (Exists.intro 4 (Exists.intro (nI (s_n S 0)) (And.intro rfl (And.intro e4 ?_))))
    refine Exists.intro (nI (2 ^ (s_n S 0))) (And.intro (nI_sh1 (by omega)) ?_)
    refine And.intro (fun h30 => ?_) (fun h30 => ?_)
    · skip
      have h30 := nI_leT (a := 2 ^ (s_n S 0)) (b := 2 ^ s_n S 0) (by omega) (by omega) h30
      exact ⟨rfl, rfl⟩
    · skip
      have h30 := nI_leF (a := 2 ^ (s_n S 0)) (b := 2 ^ s_n S 0) (by omega) (by omega) h30
      exact absurd h30 (by omega)
  | succ m ih =>
    intro s b hs hb
    have b1 := q_bc_le s
    have b2 := q_bc_le b
    have f1 : q_sf S rf s ≤ s_n S 2 := q_so_le _ _ _
    have st : q_fw1 (q_sf S rf) (s_n S 2) (m + 1) s b = q_fw1 (q_sf S rf) (s_n S 2) m (s + 1) (if q_bc s < q_bc b ∧ q_sf S rf s = s_n S 2 then s else b) := rfl
    rw [st]
    refine qy_wp_ok (c := CX11_fewestDoctors) (cuts := [17]) vX11_fewestDoctors wX11_fewestDoctors 2000 17 _ _ _ ?_
    refine Exists.intro (nI 1) (And.intro rfl ?_)
    refine And.intro rfl (Exists.intro 15 (And.intro rfl ?_))
    refine And.intro rfl (Exists.intro 16 (And.intro rfl ?_))
    refine And.intro rfl (Exists.intro 4 (Exists.intro (nI (s_n S 0)) (And.intro rfl (And.intro e4 ?_))))
    refine Exists.intro (nI (2 ^ (s_n S 0))) (And.intro (nI_sh1 (by omega)) ?_)
    refine And.intro (fun h30 => ?_) (fun h30 => ?_)
    · skip
      have h30 := nI_leT (a := 2 ^ (s_n S 0)) (b := s) (by omega) (by omega) h30
      exact absurd h30 (by omega)
    · skip
      have h30 := nI_leF (a := 2 ^ (s_n S 0)) (b := s) (by omega) (by omega) h30
      refine Exists.intro _ (And.intro (by decide) (qx_M_mono (c_bitCount (s := s) (by omega)) ?_))
      rintro _ _ ⟨rfl, rfl⟩
      refine Exists.intro _ (And.intro (by decide) (qx_M_mono (c_bitCount (s := b) (by omega)) ?_))
      rintro _ _ ⟨rfl, rfl⟩
      refine And.intro (fun h41 => ?_) (fun h41 => ?_)
      · skip
        have h41 := nI_leT (a := q_bc b) (b := q_bc s) (by omega) (by omega) h41
        refine Exists.intro (nI 0) (And.intro rfl ?_)
        refine And.intro (fun h51 => ?_) (fun h51 => ?_)
        · skip
          refine Exists.intro (nI (s + 1)) (And.intro (nI_add _ _) ?_)
          refine qx_K_le (ls := [.ref 3, .int (nI b), .int (nI (s + 1)), .retAddr 0]) ⟨Or.inr rfl, Or.inr rfl, Or.inr rfl, Or.inl rfl, trivial⟩ ?_
          first
            | (rw [if_pos ⟨h41, h69⟩]; exact ih (s + 1) s (by omega) (by omega))
            | (rw [if_neg (fun z => h69 z.2)]; exact ih (s + 1) b (by omega) hb)
            | (rw [if_neg (fun z => absurd z.1 (Nat.not_lt.mpr h41))]; exact ih (s + 1) b (by omega) hb)
        · skip
          exact absurd (by decide) h51
      · skip
        have h41 := nI_leF (a := q_bc b) (b := q_bc s) (by omega) (by omega) h41
        refine Exists.intro (nI 1) (And.intro rfl ?_)
        refine And.intro (fun h51 => ?_) (fun h51 => ?_)
        · skip
          exact absurd h51 (by decide)
        · skip
          refine And.intro rfl (Exists.intro _ (And.intro (by decide) (qx_M_mono (c_servedBy hI hL hv) ?_)))
          rintro _ _ ⟨rfl, rfl⟩
          refine And.intro rfl (Exists.intro 15 (And.intro rfl ?_))
          refine And.intro rfl (Exists.intro 16 (And.intro rfl ?_))
          refine And.intro rfl (Exists.intro 6 (Exists.intro (nI (s_n S 2)) (And.intro rfl (And.intro e6 ?_))))
          refine And.intro (fun h69 => ?_) (fun h69 => ?_)
          · skip
            have h69 := nI_neT (a := q_sf S rf s) (b := s_n S 2) (by omega) (by omega) h69
            refine Exists.intro (nI (s + 1)) (And.intro (nI_add _ _) ?_)
            refine qx_K_le (ls := [.ref 3, .int (nI b), .int (nI (s + 1)), .retAddr 0]) ⟨Or.inr rfl, Or.inr rfl, Or.inr rfl, Or.inl rfl, trivial⟩ ?_
            first
              | (rw [if_pos ⟨h41, h69⟩]; exact ih (s + 1) s (by omega) (by omega))
              | (rw [if_neg (fun z => h69 z.2)]; exact ih (s + 1) b (by omega) hb)
              | (rw [if_neg (fun z => absurd z.1 (Nat.not_lt.mpr h41))]; exact ih (s + 1) b (by omega) hb)
          · skip
            have h69 := nI_eqT (a := q_sf S rf s) (b := s_n S 2) (by omega) (by omega) h69
            refine Exists.intro (nI (s + 1)) (And.intro (nI_add _ _) ?_)
            refine qx_K_le (ls := [.ref 3, .int (nI s), .int (nI (s + 1)), .retAddr 0]) ⟨Or.inr rfl, Or.inr rfl, Or.inr rfl, Or.inl rfl, trivial⟩ ?_
            first
              | (rw [if_pos ⟨h41, h69⟩]; exact ih (s + 1) s (by omega) (by omega))
              | (rw [if_neg (fun z => h69 z.2)]; exact ih (s + 1) b (by omega) hb)
              | (rw [if_neg (fun z => absurd z.1 (Nat.not_lt.mpr h41))]; exact ih (s + 1) b (by omega) hb)
theorem c_few {G : qx_G} {σ : qx_S} {S : qS} {rf : Option qR} {e : Nat} (hI : cI σ S rf e) (hL : iL S) (hv : ∀ c, c < s_n S 0 → qx_mi σ 190 c = nI (q_sv S rf c)) : qx_M G qc_T 1 YX11_fewestDoctors [.ref 3] σ (qr (q_oI (q_d1 (q_sf S rf) (s_n S 2) (2 ^ s_n S 0) 0 none)) σ) := by
  have hpl := hI.1.pl
  have hp : 0 < 2 ^ s_n S 0 := Nat.two_pow_pos _
  have h256 : 2 ^ s_n S 0 ≤ 256 := Nat.pow_le_pow_right (by decide) hpl
  have e4 := hI.2.1.1.1.trans hI.1.1.2.1.1.1
  rw [q_fw1_d1 (sf := q_sf S rf) (b := 2 ^ s_n S 0 - 1) (fun s => q_so_le _ _ _) hpl (q_sf_full hL) (2 ^ s_n S 0) 0 none (by omega) (Or.inl ⟨rfl, rfl, fun t ht => absurd ht (Nat.not_lt_zero t)⟩)]
  refine qx_M_in rfl (Nat.le_of_ble_eq_true rfl) ?_
  refine qy_wp_ok (c := CX11_fewestDoctors) (cuts := [17]) vX11_fewestDoctors wX11_fewestDoctors 2000 0 _ _ _ ?_
  refine Exists.intro (nI 1) (And.intro rfl ?_)
  refine And.intro rfl (Exists.intro 15 (And.intro rfl ?_))
  refine And.intro rfl (Exists.intro 16 (And.intro rfl ?_))
  refine And.intro rfl (Exists.intro 4 (Exists.intro (nI (s_n S 0)) (And.intro rfl (And.intro e4 ?_))))
  refine Exists.intro (nI (2 ^ (s_n S 0))) (And.intro (nI_sh1 (by omega)) ?_)
  refine Exists.intro (nI 1) (And.intro rfl ?_)
  refine Exists.intro (nI ((2 ^ (s_n S 0)) - 1)) (And.intro (nI_sub (by omega)) ?_)
  refine Exists.intro (nI 0) (And.intro rfl ?_)
  exact l_few hI hL hv (2 ^ s_n S 0) 0 (2 ^ s_n S 0 - 1) (by omega) (by omega)
/-- the best of so many -/
def q_g2 (sf : Nat → Nat) (just : Nat) : Nat → Nat → Nat × Int32 → Nat × Int32
  | 0, _, b => b
  | m + 1, s, b => q_g2 sf just m (s + 1) (if q_bc s ≠ just ∨ nI (sf s) ≤ b.2 then b else (s, nI (sf s)))
theorem q_g2_d2 {sf : Nat → Nat} {just N : Nat} (hj : 2 ^ just - 1 < N) (hj9 : just < 9) (hle : ∀ s, sf s ≤ 8) : ∀ (m s : Nat) (c : Nat × Int32) (b : Int32 × Int32), m + s = N → b.2 = c.2 ∧ (b.1 = nI c.1 ∨ (b.2 = -1 ∧ ∀ t, t < s → q_bc t ≠ just)) → (q_d2 sf just m s b).1 = nI (q_g2 sf just m s c).1
  | 0, s, c, b, hs, h => by
    rcases h.2 with z | z
    · exact z
    · exact absurd (q_bc_j just hj9) (z.2 _ (by omega))
  | m + 1, s, c, b, hs, h => by
    unfold q_d2 q_g2
    refine q_g2_d2 hj hj9 hle m (s + 1) _ _ (by omega) ?_
    rw [h.1]
    by_cases z : q_bc s ≠ just ∨ nI (sf s) ≤ c.2
    · rw [if_pos z, if_pos z]
      refine ⟨h.1, ?_⟩
      rcases h.2 with w | w
      · exact Or.inl w
      · refine Or.inr ⟨w.1, fun t ht => ?_⟩
        by_cases y : t = s
        · rw [y]
          refine z.resolve_right (fun q => ?_)
          rw [← h.1, w.1] at q
          have l8 := hle s
          exact absurd (Int32.le_iff_toInt_le.mp q) (by rw [nI_toInt (by omega), show (-1 : Int32).toInt = -1 by decide]; omega)
        · exact w.2 t (by omega)
    · rw [if_neg z, if_neg z]
      exact ⟨rfl, Or.inl rfl⟩
theorem l_best {G : qx_G} {σ : qx_S} {S : qS} {rf : Option qR} {e j : Nat} (hj : j ≤ 8) (hI : cI σ S rf e) (hL : iL S) (hv : ∀ c, c < s_n S 0 → qx_mi σ 190 c = nI (q_sv S rf c)) : ∀ (m s b : Nat) (w : Int32), m + s = 2 ^ s_n S 0 → qx_K G qc_T 1 RX11 YX11_bestDoctors 7 [.ref 3, .int (nI j), .int (nI b), .int w, .int (nI s), .retAddr 0] [] σ (qr (nI (q_g2 (q_sf S rf) j m s (b, w)).1) σ) := by
  have hpl := hI.1.pl
  have h256 : 2 ^ s_n S 0 ≤ 256 := Nat.pow_le_pow_right (by decide) hpl
  have e4 := hI.2.1.1.1.trans hI.1.1.2.1.1.1
  have l8 := hL.2.1
  intro m
  induction m with
  | zero =>
    intro s b w hs
    rw [show s = 2 ^ s_n S 0 by omega]
    refine qy_wp_ok (c := CX11_bestDoctors) (cuts := [7]) vX11_bestDoctors wX11_bestDoctors 2000 7 _ _ _ ?_
    refine Exists.intro (nI 1) (And.intro rfl ?_)
    refine And.intro rfl (Exists.intro 15 (And.intro rfl ?_))
    refine And.intro rfl (Exists.intro 16 (And.intro rfl ?_))
    refine And.intro rfl (Exists.intro 4 (Exists.intro (nI (s_n S 0)) (And.intro rfl (And.intro e4 ?_))))
    refine Exists.intro (nI (2 ^ (s_n S 0))) (And.intro (nI_sh1 (by omega)) ?_)
    refine And.intro (fun h21 => ?_) (fun h21 => ?_)
    · skip
      have h21 := nI_leT (a := 2 ^ (s_n S 0)) (b := 2 ^ s_n S 0) (by omega) (by omega) h21
      exact ⟨rfl, rfl⟩
    · skip
      have h21 := nI_leF (a := 2 ^ (s_n S 0)) (b := 2 ^ s_n S 0) (by omega) (by omega) h21
      exact absurd h21 (by omega)
  | succ m ih =>
    intro s b w hs
    have b1 := q_bc_le s
    have st : q_g2 (q_sf S rf) j (m + 1) s (b, w) = q_g2 (q_sf S rf) j m (s + 1) (if q_bc s ≠ j ∨ nI (q_sf S rf s) ≤ w then (b, w) else (s, nI (q_sf S rf s))) := rfl
    rw [st]
    refine qy_wp_ok (c := CX11_bestDoctors) (cuts := [7]) vX11_bestDoctors wX11_bestDoctors 2000 7 _ _ _ ?_
    refine Exists.intro (nI 1) (And.intro rfl ?_)
    refine And.intro rfl (Exists.intro 15 (And.intro rfl ?_))
    refine And.intro rfl (Exists.intro 16 (And.intro rfl ?_))
    refine And.intro rfl (Exists.intro 4 (Exists.intro (nI (s_n S 0)) (And.intro rfl (And.intro e4 ?_))))
    refine Exists.intro (nI (2 ^ (s_n S 0))) (And.intro (nI_sh1 (by omega)) ?_)
    refine And.intro (fun h21 => ?_) (fun h21 => ?_)
    · skip
      have h21 := nI_leT (a := 2 ^ (s_n S 0)) (b := s) (by omega) (by omega) h21
      exact absurd h21 (by omega)
    · skip
      have h21 := nI_leF (a := 2 ^ (s_n S 0)) (b := s) (by omega) (by omega) h21
      refine Exists.intro _ (And.intro (by decide) (qx_M_mono (c_bitCount (s := s) (by omega)) ?_))
      rintro _ _ ⟨rfl, rfl⟩
      refine And.intro (fun h30 => ?_) (fun h30 => ?_)
      · skip
        have h30 := nI_neT (a := q_bc s) (b := j) (by omega) (by omega) h30
        refine Exists.intro (nI (s + 1)) (And.intro (nI_add _ _) ?_)
        first
          | (rw [if_pos (Or.inl h30)]; exact ih (s + 1) b w (by omega))
          | (rw [if_pos (Or.inr h44)]; exact ih (s + 1) b w (by omega))
          | (rw [if_neg (fun z => z.elim (fun y => y h30) h44)]; exact ih (s + 1) s _ (by omega))
      · skip
        have h30 := nI_eqT (a := q_bc s) (b := j) (by omega) (by omega) h30
        refine And.intro rfl (Exists.intro _ (And.intro (by decide) (qx_M_mono (c_servedBy hI hL hv) ?_)))
        rintro _ _ ⟨rfl, rfl⟩
        refine And.intro (fun h44 => ?_) (fun h44 => ?_)
        · skip
          refine Exists.intro (nI (s + 1)) (And.intro (nI_add _ _) ?_)
          refine qx_K_le (ls := [.ref 3, .int (nI j), .int (nI b), .int w, .int (nI (s + 1)), .retAddr 0]) ⟨Or.inr rfl, Or.inr rfl, Or.inr rfl, Or.inr rfl, Or.inr rfl, Or.inl rfl, trivial⟩ ?_
          first
            | (rw [if_pos (Or.inl h30)]; exact ih (s + 1) b w (by omega))
            | (rw [if_pos (Or.inr h44)]; exact ih (s + 1) b w (by omega))
            | (rw [if_neg (fun z => z.elim (fun y => y h30) h44)]; exact ih (s + 1) s _ (by omega))
        · skip
          refine Exists.intro (nI (s + 1)) (And.intro (nI_add _ _) ?_)
          refine qx_K_le (ls := [.ref 3, .int (nI j), .int (nI s), .int (nI (q_sf S rf s)), .int (nI (s + 1)), .retAddr 0]) ⟨Or.inr rfl, Or.inr rfl, Or.inr rfl, Or.inr rfl, Or.inr rfl, Or.inl rfl, trivial⟩ ?_
          first
            | (rw [if_pos (Or.inl h30)]; exact ih (s + 1) b w (by omega))
            | (rw [if_pos (Or.inr h44)]; exact ih (s + 1) b w (by omega))
            | (rw [if_neg (fun z => z.elim (fun y => y h30) h44)]; exact ih (s + 1) s _ (by omega))
theorem c_best {G : qx_G} {σ : qx_S} {S : qS} {rf : Option qR} {e j : Nat} (hj : j ≤ s_n S 0) (hI : cI σ S rf e) (hL : iL S) (hv : ∀ c, c < s_n S 0 → qx_mi σ 190 c = nI (q_sv S rf c)) : qx_M G qc_T 1 YX11_bestDoctors [.ref 3, .int (nI j)] σ (qr (q_d2 (q_sf S rf) j (2 ^ s_n S 0) 0 (-1, -1)).1 σ) := by
  have hpl := hI.1.pl
  have l8 := hL.2.1
  have hp : 0 < 2 ^ j := Nat.two_pow_pos _
  have h1 : 2 ^ j ≤ 2 ^ s_n S 0 := Nat.pow_le_pow_right (by decide) hj
  rw [q_g2_d2 (sf := q_sf S rf) (c := (0, -1)) (N := 2 ^ s_n S 0) (by omega) (by omega) (fun s => Nat.le_trans (q_so_le _ _ _) l8) (2 ^ s_n S 0) 0 (-1, -1) (by omega) ⟨rfl, Or.inr ⟨rfl, fun t ht => absurd ht (Nat.not_lt_zero t)⟩⟩]
  refine qx_M_in rfl (Nat.le_of_ble_eq_true rfl) ?_
  refine qy_wp_ok (c := CX11_bestDoctors) (cuts := [7]) vX11_bestDoctors wX11_bestDoctors 2000 0 _ _ _ ?_
  refine Exists.intro (nI 0) (And.intro rfl ?_)
  refine Exists.intro ((-1)) (And.intro (by decide) ?_)
  refine Exists.intro (nI 0) (And.intro rfl ?_)
  exact l_best (by omega) hI hL hv (2 ^ s_n S 0) 0 0 (-1) (by omega)
theorem i_m1 {x : Int32} (h : ¬ x < -1) : x = -1 ∨ 0 ≤ x := by
  by_cases z : 0 ≤ x
  · exact Or.inr z
  · left
    have k1 : ¬ x.toInt < (-1 : Int32).toInt := fun z => h (Int32.lt_iff_toInt_lt.mpr z)
    have k2 : x.toInt < (0 : Int32).toInt := Int32.lt_iff_toInt_lt.mp (Int32.not_le.mp z)
    have e1 : (-1 : Int32).toInt = -1 := by decide
    have e0 : (0 : Int32).toInt = 0 := by decide
    exact Int32.toInt_inj.mp (by omega)
theorem c_doctors_no {G : qx_G} {σ : qx_S} {S : qS} {rf : Option qR} {e : Nat} (hI : cI σ S rf e) {x : Int32} (hb : (decide (0 < s_n S 0) && (decide (x = -1) || q_in64 x.toInt64 (lN 0) (lN 8))) = false) : qx_M G qc_T 5 YX11_doctors [.ref 3, .int x] σ (qr (-2) σ) := by
  refine qx_M_in rfl (Nat.le_of_ble_eq_true rfl) ?_
  refine qy_wp_ok (c := CX11_doctors) (cuts := []) vX11_doctors wX11_doctors 2000 0 _ _ _ ?_
  refine And.intro rfl (Exists.intro _ (And.intro (by decide) (qx_M_mono (c_hasCountry hI.2.1.1 hI.1.1.2.1.1.1 hI.1.1.2.1.1.2) ?_)))
  rintro _ _ ⟨rfl, rfl⟩
  refine And.intro (fun h4 => ?_) (fun h4 => ?_)
  · skip
    have h4 := bI_f h4
    refine Exists.intro ((-2)) (And.intro (by decide) ?_)
    exact ⟨rfl, rfl⟩
  · skip
    have h4 := bI_t h4
    refine Exists.intro ((-1)) (And.intro (by decide) ?_)
    refine And.intro (fun h9 => ?_) (fun h9 => ?_)
    · skip
      refine Exists.intro ((-2)) (And.intro (by decide) ?_)
      exact ⟨rfl, rfl⟩
    · skip
      refine Exists.intro (nI 8) (And.intro rfl ?_)
      refine And.intro (fun h15 => ?_) (fun h15 => ?_)
      · skip
        exfalso; rw [h4] at hb
        rcases i_m1 h9 with z | z
        · rw [decide_eq_true z] at hb; cases hb
        · rw [q_in_iff x (by decide) (by decide), decide_eq_true (show nI 0 ≤ x ∧ x ≤ nI 8 from ⟨z, h15⟩), Bool.or_true] at hb; cases hb
      · skip
        refine Exists.intro ((-2)) (And.intro (by decide) ?_)
        exact ⟨rfl, rfl⟩
theorem c_doctors_m1 {G : qx_G} {σ : qx_S} {S : qS} {rf : Option qR} {e : Nat} (hI : cI σ S rf e) (hL : iL S) (hc : 0 < s_n S 0) : qx_M G qc_T 5 YX11_doctors [.ref 3, .int (-1)] σ (fun r s => r = some (.int (q_oI (q_d1 (q_sf S rf) (s_n S 2) (2 ^ s_n S 0) 0 none))) ∧ ql kFs σ s ∧ cI s S rf e) := by
  obtain ⟨v, ev⟩ : ∃ v, q_oI (q_d1 (q_sf S rf) (s_n S 2) (2 ^ s_n S 0) 0 none) = v := ⟨_, rfl⟩
  have key : ∀ s, cI s S rf e → (∀ c, c < s_n S 0 → qx_mi s 190 c = nI (q_sv S rf c)) → qx_M G qc_T 1 YX11_fewestDoctors [.ref 3] s (qr v s) := fun s i h => by rw [← ev]; exact c_few i hL h
  rw [ev]
  refine qx_M_in rfl (Nat.le_of_ble_eq_true rfl) ?_
  refine qy_wp_ok (c := CX11_doctors) (cuts := []) vX11_doctors wX11_doctors 2000 0 _ _ _ ?_
  refine And.intro rfl (Exists.intro _ (And.intro (by decide) (qx_M_mono (c_hasCountry hI.2.1.1 hI.1.1.2.1.1.1 hI.1.1.2.1.1.2) ?_)))
  rintro _ _ ⟨rfl, rfl⟩
  refine And.intro (fun h4 => ?_) (fun h4 => ?_)
  · skip
    have h4 := bI_f h4
    exact absurd (h4.symm.trans (decide_eq_true hc)) (by decide)
  · skip
    have h4 := bI_t h4
    refine Exists.intro ((-1)) (And.intro (by decide) ?_)
    refine And.intro (fun h9 => ?_) (fun h9 => ?_)
    · skip
      exact absurd h9 (by decide)
    · skip
      refine Exists.intro (nI 8) (And.intro rfl ?_)
      refine And.intro (fun h15 => ?_) (fun h15 => ?_)
      · skip
        refine And.intro rfl (Exists.intro _ (And.intro (by decide) (qx_M_mono (c_findServers hI) ?_)))
        rintro _ ρ ⟨rfl, fρ, iρ, vρ⟩
        refine Exists.intro ((-1)) (And.intro (by decide) ?_)
        refine And.intro (fun h27 => ?_) (fun h27 => ?_)
        · skip
          exact absurd (by decide) h27
        · skip
          refine And.intro rfl (Exists.intro _ (And.intro (by decide) (qx_M_mono (key _ iρ vρ) ?_)))
          rintro _ _ ⟨rfl, rfl⟩
          exact ⟨rfl, fρ, iρ⟩
      · skip
        exact absurd (by decide) h15
theorem c_doctors_ok {G : qx_G} {σ : qx_S} {S : qS} {rf : Option qR} {e : Nat} (hI : cI σ S rf e) (hL : iL S) (hc : 0 < s_n S 0) {n : Nat} (hn : n ≤ 8) : qx_M G qc_T 5 YX11_doctors [.ref 3, .int (nI n)] σ (fun r s => r = some (.int (q_d2 (q_sf S rf) (if s_n S 0 < n then s_n S 0 else n) (2 ^ s_n S 0) 0 (-1, -1)).1) ∧ ql kFs σ s ∧ cI s S rf e) := by
  have hpl := hI.1.pl
  obtain ⟨j, ej⟩ : ∃ j, (if s_n S 0 < n then s_n S 0 else n) = j := ⟨_, rfl⟩
  have hj : j ≤ s_n S 0 := by rw [← ej]; split <;> omega
  have em : (if nI (s_n S 0) < nI n then nI (s_n S 0) else nI n) = nI j := by
    rw [← ej]
    by_cases z : s_n S 0 < n
    · rw [if_pos z, if_pos ((nI_ltI (by omega) (by omega)).mpr z)]
    · rw [if_neg z, if_neg (fun w => z ((nI_ltI (by omega) (by omega)).mp w))]
  obtain ⟨v, ev⟩ : ∃ v, (q_d2 (q_sf S rf) j (2 ^ s_n S 0) 0 (-1, -1)).1 = v := ⟨_, rfl⟩
  have key : ∀ s, cI s S rf e → (∀ c, c < s_n S 0 → qx_mi s 190 c = nI (q_sv S rf c)) → qx_M G qc_T 1 YX11_bestDoctors [.ref 3, .int (nI j)] s (qr v s) := fun s i h => by rw [← ev]; exact c_best hj i hL h
  rw [ej, ev]
  refine qx_M_in rfl (Nat.le_of_ble_eq_true rfl) ?_
  refine qy_wp_ok (c := CX11_doctors) (cuts := []) vX11_doctors wX11_doctors 2000 0 _ _ _ ?_
  refine And.intro rfl (Exists.intro _ (And.intro (by decide) (qx_M_mono (c_hasCountry hI.2.1.1 hI.1.1.2.1.1.1 hI.1.1.2.1.1.2) ?_)))
  rintro _ _ ⟨rfl, rfl⟩
  refine And.intro (fun h4 => ?_) (fun h4 => ?_)
  · skip
    have h4 := bI_f h4
    exact absurd (h4.symm.trans (decide_eq_true hc)) (by decide)
  · skip
    have h4 := bI_t h4
    refine Exists.intro ((-1)) (And.intro (by decide) ?_)
    refine And.intro (fun h9 => ?_) (fun h9 => ?_)
    · skip
      exact absurd h9 (Int32.not_lt.mpr (Int32.le_trans (by decide) (nI_pos' (by omega))))
    · skip
      refine Exists.intro (nI 8) (And.intro rfl ?_)
      refine And.intro (fun h15 => ?_) (fun h15 => ?_)
      · skip
        have h15 := nI_leT (a := n) (b := 8) (by omega) (by decide) h15
        refine And.intro rfl (Exists.intro _ (And.intro (by decide) (qx_M_mono (c_findServers hI) ?_)))
        rintro _ ρ ⟨rfl, fρ, iρ, vρ⟩
        refine Exists.intro ((-1)) (And.intro (by decide) ?_)
        refine And.intro (fun h27 => ?_) (fun h27 => ?_)
        · skip
          refine And.intro rfl (Exists.intro 15 (And.intro rfl ?_))
          refine And.intro rfl (Exists.intro 16 (And.intro rfl ?_))
          refine And.intro rfl (Exists.intro 4 (Exists.intro (nI (s_n S 0)) (And.intro rfl (And.intro (iρ.2.1.1.1.trans iρ.1.1.2.1.1.1) ?_))))
          refine Exists.intro (nI j) (And.intro em ?_)
          refine And.intro rfl (Exists.intro _ (And.intro (by decide) (qx_M_mono (key _ iρ vρ) ?_)))
          rintro _ _ ⟨rfl, rfl⟩
          exact ⟨rfl, fρ, iρ⟩
        · skip
          exact absurd h27 (nI_nm1 (by omega))
      · skip
        have h15 := nI_leF (a := n) (b := 8) (by omega) (by decide) h15
        exact absurd h15 (by omega)

