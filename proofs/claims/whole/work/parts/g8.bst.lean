/-! THE CLASS: MOST, the best of a set -/
theorem q_wo_xor {s r : Nat} (h : q_wo r s = 0) : s ^^^ r = q_wo s r := by
  apply Nat.eq_of_testBit_eq
  intro i
  have k := congrArg (fun z => z.testBit i) h
  have k : (q_wo r s).testBit i = (0 : Nat).testBit i := k
  rw [q_wo_bit, Nat.zero_testBit] at k
  rw [Nat.testBit_xor, q_wo_bit]
  revert k
  cases s.testBit i <;> cases r.testBit i <;> decide
theorem q_wo_0 {r s : Nat} : q_wo r s = 0 ↔ ∀ i, r.testBit i = true → s.testBit i = true := by
  constructor
  · intro h i hi
    have k := congrArg (fun z => z.testBit i) h
    have k : (q_wo r s).testBit i = (0 : Nat).testBit i := k
    rw [q_wo_bit, Nat.zero_testBit, hi] at k
    revert k
    cases s.testBit i <;> decide
  · intro h
    apply Nat.eq_of_testBit_eq
    intro i
    rw [q_wo_bit, Nat.zero_testBit]
    cases hr : r.testBit i with
    | false => rfl
    | true => rw [h i hr]; rfl
theorem q_mx_i (a b : Int32) : a.toInt ≤ (q_mx a b).toInt ∧ b.toInt ≤ (q_mx a b).toInt ∧ ((q_mx a b).toInt = a.toInt ∨ (q_mx a b).toInt = b.toInt) := ⟨Int32.le_iff_toInt_le.mp (q_mx_l a b), Int32.le_iff_toInt_le.mp (q_mx_r a b), (q_mx_or a b).elim (fun z => Or.inl (by rw [z])) (fun z => Or.inr (by rw [z]))⟩
theorem q_F_b {can : Nat → Nat → Nat → Bool} {gn : Nat → Nat → Int32} {pe k s : Nat} (hpe : pe ≤ 10) (hk : k ≤ 4) (hg : q_gB gn pe) (hs : s < 2 ^ pe) : -330000 ≤ q_F can gn pe k s ∧ q_F can gn pe k s ≤ 330000 := by
  obtain ⟨h1, h2⟩ := q_Db (can := can) hpe hk hg s hs
  have h3 := q_nb_le s 10
  have h4 := h1.1
  have h5 := h1.2
  unfold q_F q_Vx
  omega
/-- what stands when all rings are noted -/
def bX (σ : qx_S) (S : qS) (rf : Option qR) (ly : Option (Nat × Nat)) (e k : Nat) (rg : Nat → Nat) (M : q_Mt) : Prop := rXm σ S rf ly e k ∧ M = (q_al (q_cn S rf ly) (q_gn S rf ly) (s_n S 1) k (s_n S 1)).foldl q_nt (q_M0 rg) ∧ mR σ M ∧ q_mo M ∧ (∀ q, q ≤ s_n S 1 → qx_mi σ 171 q = nI ((q_al (q_cn S rf ly) (q_gn S rf ly) (s_n S 1) k q).foldl q_nt (q_M0 rg)).2.2.1) ∧ 2 ≤ k ∧ k ≤ 4
theorem bX.fr {σ s : qx_S} {S : qS} {rf : Option qR} {ly : Option (Nat × Nat)} {e k : Nat} {rg : Nat → Nat} {M : q_Mt} (h : bX σ S rf ly e k rg M) (f : ql [(172, none)] σ s) : bX s S rf ly e k rg M := ⟨⟨h.1.1.fr f rfl rfl, h.1.2.1.fr f (fun _ => rfl), fun n h1 h2 => (h.1.2.2.1 n h1 h2).fr f (fun _ => rfl), (f.i _ _ rfl).trans h.1.2.2.2⟩, h.2.1, h.2.2.1.fr f (fun _ => rfl) (fun _ => rfl) rfl rfl, h.2.2.2.1, fun q hq => (f.i _ _ rfl).trans (h.2.2.2.2.1 q hq), h.2.2.2.2.2⟩
theorem bX.gB {σ : qx_S} {S : qS} {rf : Option qR} {ly : Option (Nat × Nat)} {e k : Nat} {rg : Nat → Nat} {M : q_Mt} (h : bX σ S rf ly e k rg M) : q_gB (q_gn S rf ly) (s_n S 1) := fun a b ha hb => q_gn_b h.1.1.1.1 ha hb
abbrev q_RGs (S : qS) (rf : Option qR) (ly : Option (Nat × Nat)) (k p s : Nat) (g : Int32) (n num : Nat) : Prop := q_RG (q_cn S rf ly) (q_gn S rf ly) (s_n S 1) k p s g n num
theorem l_bo {G : qx_G} {σ : qx_S} {S : qS} {rf : Option qR} {ly : Option (Nat × Nat)} {e k set p fe : Nat} {rg : Nat → Nat} {M : q_Mt} (hX : bX σ S rf ly e k rg M) (h0 : 0 < set) (hs : set < 2 ^ s_n S 1) (ep : p = q_lo set) (efe : fe = ((q_al (q_cn S rf ly) (q_gn S rf ly) (s_n S 1) k (p + 1)).foldl q_nt (q_M0 rg)).2.2.1) (hB : ∀ s g n num, q_RGs S rf ly k p s g n num → q_wo s set = 0 → (qx_mi σ 172 (set ^^^ s)).toInt = q_F (q_cn S rf ly) (q_gn S rf ly) (s_n S 1) k (q_wo set s)) : ∀ (m i : Nat) (acc : Int32), m + i = fe → ((q_al (q_cn S rf ly) (q_gn S rf ly) (s_n S 1) k p).foldl q_nt (q_M0 rg)).2.2.1 ≤ i → q_F (q_cn S rf ly) (q_gn S rf ly) (s_n S 1) k (q_wo set (2 ^ p)) ≤ acc.toInt → acc.toInt ≤ q_F (q_cn S rf ly) (q_gn S rf ly) (s_n S 1) k set → (∀ j, ((q_al (q_cn S rf ly) (q_gn S rf ly) (s_n S 1) k p).foldl q_nt (q_M0 rg)).2.2.1 ≤ j → j < i → q_wo (M.2.1 j) set = 0 → (M.1 (M.2.1 j)).toInt + q_F (q_cn S rf ly) (q_gn S rf ly) (s_n S 1) k (q_wo set (M.2.1 j)) ≤ acc.toInt) → qx_K G qc_T 0 RX3 YX3_bestOf 19 [.ref 160, .int (nI set), .int (nI p), .int acc, .int (nI i), .retAddr 0] [] σ (fun r s => ∃ v, r = some (.int v) ∧ σ = s ∧ v.toInt = q_F (q_cn S rf ly) (q_gn S rf ly) (s_n S 1) k set) := by
  have hpe := hX.1.1.1.pe
  have h1024 : 2 ^ s_n S 1 ≤ 1024 := Nat.pow_le_pow_right (by decide) hpe
  obtain ⟨l1, l2, l3⟩ := q_lo_ok (s := set) h0 (by omega)
  have lp := q_tb_lt hs l1
  rw [← ep] at l1 l2 lp
  have hg := hX.gB
  have k2 := hX.2.2.2.2.2.1
  have k4 := hX.2.2.2.2.2.2
  obtain ⟨f1, f2, f3, f4, f5⟩ := q_Mfin k2 k4 hg hX.2.1
  have dm := q_Dm (can := q_cn S rf ly) hpe k4 hg h0 hs
  rw [← ep] at dm
  have e171 := hX.2.2.2.2.1 (p + 1) (by omega)
  rw [← efe] at e171
  have fle := (f1 p lp).2
  rw [← efe] at fle
  have mle : M.2.2.1 ≤ 1024 := by rw [hX.2.2.2.1.1]; exact q_cnt_le _ _
  have up : ∀ j, ((q_al (q_cn S rf ly) (q_gn S rf ly) (s_n S 1) k p).foldl q_nt (q_M0 rg)).2.2.1 ≤ j → j < fe → q_wo (M.2.1 j) set = 0 → (M.1 (M.2.1 j)).toInt + q_F (q_cn S rf ly) (q_gn S rf ly) (s_n S 1) k (q_wo set (M.2.1 j)) ≤ q_F (q_cn S rf ly) (q_gn S rf ly) (s_n S 1) k set ∧ ((M.1 (M.2.1 j)).toInt ≤ 200000 ∧ -200000 ≤ (M.1 (M.2.1 j)).toInt) ∧ (qx_mi σ 172 (set ^^^ M.2.1 j)).toInt = q_F (q_cn S rf ly) (q_gn S rf ly) (s_n S 1) k (q_wo set (M.2.1 j)) := by
    intro j h1 h2 h3
    rw [efe] at h2
    obtain ⟨g, n, num, r1, r2⟩ := f2 p j lp h1 h2
    have rp := q_RG_p r1
    have sb := q_RG_g hg r1
    have sc := q_sc (n := n) (by omega) sb (by omega)
    have om : (M.2.1 j, g, n, num) ∈ q_o2 (q_cn S rf ly) (q_gn S rf ly) (s_n S 1) k set p (s_n S 1 - (p + 1)) (p + 1) := (q_o2_RG k4 lp).mpr ⟨r1, fun i hi => Or.inr (q_wo_0.mp h3 i hi)⟩
    have v := dm.2.1 _ om
    unfold q_vo at v
    dsimp only at v
    rw [r2, sc]
    have s1 := sb.1
    have s2 := sb.2
    exact ⟨v, ⟨by omega, by omega⟩, hB _ _ _ _ r1 h3⟩
  have fin : ∀ acc : Int32, q_F (q_cn S rf ly) (q_gn S rf ly) (s_n S 1) k (q_wo set (2 ^ p)) ≤ acc.toInt → acc.toInt ≤ q_F (q_cn S rf ly) (q_gn S rf ly) (s_n S 1) k set → (∀ j, ((q_al (q_cn S rf ly) (q_gn S rf ly) (s_n S 1) k p).foldl q_nt (q_M0 rg)).2.2.1 ≤ j → j < fe → q_wo (M.2.1 j) set = 0 → (M.1 (M.2.1 j)).toInt + q_F (q_cn S rf ly) (q_gn S rf ly) (s_n S 1) k (q_wo set (M.2.1 j)) ≤ acc.toInt) → acc.toInt = q_F (q_cn S rf ly) (q_gn S rf ly) (s_n S 1) k set := by
    intro acc a1 a2 a3
    rcases dm.2.2 with w | ⟨w1, o, w2, w3⟩
    · have e1 : q_F (q_cn S rf ly) (q_gn S rf ly) (s_n S 1) k set = q_F (q_cn S rf ly) (q_gn S rf ly) (s_n S 1) k (q_wo set (2 ^ p)) := by
        unfold q_F
        rw [w]
        rfl
      omega
    · have om := List.mem_of_find?_eq_some w2
      have ov0 := List.find?_some w2
      have ov : q_vo (q_cn S rf ly) (q_gn S rf ly) (s_n S 1) k set o = q_F (q_cn S rf ly) (q_gn S rf ly) (s_n S 1) k set := of_decide_eq_true ov0
      obtain ⟨r1, r2⟩ := (q_o2_RG k4 lp).mp om
      have rp := q_RG_p r1
      have sb := q_RG_g hg r1
      have sc := q_sc (n := o.2.2.1) (by omega) sb (by omega)
      obtain ⟨c1, j, j1, j2, j3⟩ := f3 _ _ _ _ _ r1
      have sub : q_wo (M.2.1 j) set = 0 := q_wo_0.mpr (fun i hi => by rw [j3] at hi; exact (r2 i hi).elim (fun z => by rw [z]; exact l1) id)
      have k := a3 j j1 (by rw [efe]; exact j2) sub
      rw [j3] at k
      have c2 := Int32.le_iff_toInt_le.mp c1
      rw [sc] at c2
      unfold q_vo at ov
      omega
  intro m
  induction m with
  | zero =>
    intro i acc hm hi a1 a2 a3
    obtain rfl : i = fe := by omega
    refine qy_wp_ok (c := CX3_bestOf) (cuts := [19]) vX3_bestOf wX3_bestOf 2000 19 _ _ _ ?_
    refine And.intro rfl (Exists.intro 171 (And.intro rfl ?_))
    refine Exists.intro (nI 1) (And.intro rfl ?_)
    refine Exists.intro (nI (p + 1)) (And.intro (nI_add _ _) ?_)
    refine Exists.intro (p + 1) (Exists.intro (nI i) (And.intro rfl (And.intro ⟨11, rfl, by omega, by decide⟩ (And.intro e171 ?_))))
    refine And.intro (fun h29 => ?_) (fun h29 => ?_)
    · skip
      have h29 := nI_leT (a := i) (b := i) (by omega) (by omega) h29
      exact ⟨acc, rfl, rfl, fin acc a1 a2 a3⟩
    · skip
      have h29 := nI_leF (a := i) (b := i) (by omega) (by omega) h29
      exact absurd h29 (by omega)
  | succ m ih =>
    intro i acc hm hi a1 a2 a3
    have ri := (hX.2.2.2.1.2.2.2 i (by omega)).1
    have wle := q_wo_le (M.2.1 i) set
    have xl : set ^^^ M.2.1 i < 1024 := Nat.xor_lt_two_pow (n := 10) (by omega) ri
    obtain ⟨B, eB⟩ : ∃ B, qx_mi σ 172 (set ^^^ M.2.1 i) = B := ⟨_, rfl⟩
    have tk : q_wo (M.2.1 i) set = 0 → qx_K G qc_T 0 RX3 YX3_bestOf 19 [.ref 160, .int (nI set), .int (nI p), .int (q_mx acc (M.1 (M.2.1 i) + B)), .int (nI (i + 1)), .retAddr 0] [] σ (fun r s => ∃ v, r = some (.int v) ∧ σ = s ∧ v.toInt = q_F (q_cn S rf ly) (q_gn S rf ly) (s_n S 1) k set) := by
      intro h3
      obtain ⟨u1, u2, u3⟩ := up i hi (by omega) h3
      rw [eB] at u3
      have wl := q_wo_le set (M.2.1 i)
      have fb := q_F_b (can := q_cn S rf ly) hpe k4 hg (show q_wo set (M.2.1 i) < 2 ^ s_n S 1 by omega)
      have es : (M.1 (M.2.1 i) + B).toInt = (M.1 (M.2.1 i)).toInt + q_F (q_cn S rf ly) (q_gn S rf ly) (s_n S 1) k (q_wo set (M.2.1 i)) := by
        have b1 := fb.1
        have b2 := fb.2
        rw [Int32.toInt_add, u3, Int.bmod_eq_of_le (by omega) (by omega)]
      obtain ⟨m1, m2, m3⟩ := q_mx_i acc (M.1 (M.2.1 i) + B)
      refine ih (i + 1) _ (by omega) (by omega) (by omega) (by omega) (fun j j1 j2 j3 => ?_)
      by_cases z : j = i
      · rw [z]; omega
      · have := a3 j j1 (by omega) j3
        omega
    refine qy_wp_ok (c := CX3_bestOf) (cuts := [19]) vX3_bestOf wX3_bestOf 2000 19 _ _ _ ?_
    refine And.intro rfl (Exists.intro 171 (And.intro rfl ?_))
    refine Exists.intro (nI 1) (And.intro rfl ?_)
    refine Exists.intro (nI (p + 1)) (And.intro (nI_add _ _) ?_)
    refine Exists.intro (p + 1) (Exists.intro (nI fe) (And.intro rfl (And.intro ⟨11, rfl, by omega, by decide⟩ (And.intro e171 ?_))))
    refine And.intro (fun h29 => ?_) (fun h29 => ?_)
    · skip
      have h29 := nI_leT (a := fe) (b := i) (by omega) (by omega) h29
      exact absurd h29 (by omega)
    · skip
      have h29 := nI_leF (a := fe) (b := i) (by omega) (by omega) h29
      refine And.intro rfl (Exists.intro 170 (And.intro rfl ?_))
      refine Exists.intro (i) (Exists.intro (nI (M.2.1 i)) (And.intro rfl (And.intro ⟨1024, rfl, by omega, by decide⟩ (And.intro (hX.2.2.1.2.1 i (by omega)) ?_))))
      refine Exists.intro ((-1)) (And.intro (by decide) ?_)
      refine Exists.intro ((nI set) ^^^ (-1)) (And.intro rfl ?_)
      refine Exists.intro (nI (q_wo (M.2.1 i) set)) (And.intro (nI_andn _ _ (by omega)) ?_)
      refine And.intro (fun h47 => ?_) (fun h47 => ?_)
      · skip
        have h47 := nI_neT (a := q_wo (M.2.1 i) set) (b := 0) (by omega) (by decide) h47
        refine Exists.intro (nI (i + 1)) (And.intro (nI_add _ _) ?_)
        refine qx_K_le (ls := [.ref 160, .int (nI set), .int (nI p), .int acc, .int (nI (i + 1)), .retAddr 0]) ⟨Or.inr rfl, Or.inr rfl, Or.inr rfl, Or.inr rfl, Or.inr rfl, Or.inl rfl, trivial⟩ ?_
        first
          | exact tk h47
          | exact ih (i + 1) acc (by omega) (by omega) a1 a2 (fun j j1 j2 j3 => a3 j j1 (Nat.lt_of_le_of_ne (by omega) (fun z => h47 (by rw [← z]; exact j3))) j3)
      · skip
        have h47 := nI_eqT (a := q_wo (M.2.1 i) set) (b := 0) (by omega) (by decide) h47
        refine And.intro rfl (Exists.intro 169 (And.intro rfl ?_))
        refine Exists.intro (M.2.1 i) (Exists.intro (M.1 (M.2.1 i)) (And.intro rfl (And.intro ⟨1024, rfl, by omega, by decide⟩ (And.intro (hX.2.2.1.1 _ ri) ?_))))
        refine And.intro rfl (Exists.intro 172 (And.intro rfl ?_))
        refine Exists.intro (nI (set ^^^ (M.2.1 i))) (And.intro (nI_xor _ _) ?_)
        refine Exists.intro (set ^^^ (M.2.1 i)) (Exists.intro B (And.intro rfl (And.intro ⟨1024, rfl, by omega, by decide⟩ (And.intro eB ?_))))
        refine Exists.intro ((M.1 (M.2.1 i)) + B) (And.intro rfl ?_)
        refine Exists.intro (q_mx acc (M.1 (M.2.1 i) + B)) (And.intro rfl ?_)
        refine Exists.intro (nI (i + 1)) (And.intro (nI_add _ _) ?_)
        refine qx_K_le (ls := [.ref 160, .int (nI set), .int (nI p), .int (q_mx acc (M.1 (M.2.1 i) + B)), .int (nI (i + 1)), .retAddr 0]) ⟨Or.inr rfl, Or.inr rfl, Or.inr rfl, Or.inr rfl, Or.inr rfl, Or.inl rfl, trivial⟩ ?_
        first
          | exact tk h47
          | exact ih (i + 1) acc (by omega) (by omega) a1 a2 (fun j j1 j2 j3 => a3 j j1 (Nat.lt_of_le_of_ne (by omega) (fun z => h47 (by rw [← z]; exact j3))) j3)
theorem c_bestOf {G : qx_G} {σ : qx_S} {S : qS} {rf : Option qR} {ly : Option (Nat × Nat)} {e k set p : Nat} {rg : Nat → Nat} {M : q_Mt} (hX : bX σ S rf ly e k rg M) (h0 : 0 < set) (hs : set < 2 ^ s_n S 1) (ep : p = q_lo set) (hB0 : (qx_mi σ 172 (set ^^^ 2 ^ p)).toInt = q_F (q_cn S rf ly) (q_gn S rf ly) (s_n S 1) k (q_wo set (2 ^ p))) (hB : ∀ s g n num, q_RGs S rf ly k p s g n num → q_wo s set = 0 → (qx_mi σ 172 (set ^^^ s)).toInt = q_F (q_cn S rf ly) (q_gn S rf ly) (s_n S 1) k (q_wo set s)) : qx_M G qc_T 0 YX3_bestOf [.ref 160, .int (nI set), .int (nI p)] σ (fun r s => ∃ v, r = some (.int v) ∧ σ = s ∧ v.toInt = q_F (q_cn S rf ly) (q_gn S rf ly) (s_n S 1) k set) := by
  have hpe := hX.1.1.1.pe
  have h1024 : 2 ^ s_n S 1 ≤ 1024 := Nat.pow_le_pow_right (by decide) hpe
  obtain ⟨l1, l2, l3⟩ := q_lo_ok (s := set) h0 (by omega)
  have lp := q_tb_lt hs l1
  have k4 := hX.2.2.2.2.2.2
  have dm := (q_Dm (can := q_cn S rf ly) hpe k4 hX.gB h0 hs).1
  rw [← ep] at l1 l2 lp dm
  have p2 : 2 ^ p < 1024 := Nat.pow_lt_pow_right (n := 10) (by decide) (by omega)
  have xl : set ^^^ 2 ^ p < 1024 := Nat.xor_lt_two_pow (n := 10) (by omega) p2
  obtain ⟨B, eB⟩ : ∃ B, qx_mi σ 172 (set ^^^ 2 ^ p) = B := ⟨_, rfl⟩
  rw [eB] at hB0
  obtain ⟨f1, f2, f3, f4, f5⟩ := q_Mfin hX.2.2.2.2.2.1 k4 hX.gB hX.2.1
  obtain ⟨fb, efb⟩ : ∃ fb, fb = ((q_al (q_cn S rf ly) (q_gn S rf ly) (s_n S 1) k p).foldl q_nt (q_M0 rg)).2.2.1 := ⟨_, rfl⟩
  have e171 := hX.2.2.2.2.1 p (by omega)
  rw [← efb] at e171
  have lo := l_bo (G := G) hX h0 hs ep rfl hB (((q_al (q_cn S rf ly) (q_gn S rf ly) (s_n S 1) k (p + 1)).foldl q_nt (q_M0 rg)).2.2.1 - fb) fb B (by have := (f1 p lp).1; omega) (by omega) (by omega) (by omega) (fun j j1 j2 => by omega)
  refine qx_M_in rfl (Nat.le_of_ble_eq_true rfl) ?_
  refine qy_wp_ok (c := CX3_bestOf) (cuts := [19]) vX3_bestOf wX3_bestOf 2000 0 _ _ _ ?_
  refine And.intro rfl (Exists.intro 172 (And.intro rfl ?_))
  refine Exists.intro (nI 1) (And.intro rfl ?_)
  refine Exists.intro (nI (2 ^ p)) (And.intro (nI_sh1 (by omega)) ?_)
  refine Exists.intro (nI (set ^^^ (2 ^ p))) (And.intro (nI_xor _ _) ?_)
  refine Exists.intro (set ^^^ (2 ^ p)) (Exists.intro B (And.intro rfl (And.intro ⟨1024, rfl, by omega, by decide⟩ (And.intro eB ?_))))
  refine And.intro rfl (Exists.intro 171 (And.intro rfl ?_))
  refine Exists.intro (p) (Exists.intro (nI fb) (And.intro rfl (And.intro ⟨11, rfl, by omega, by decide⟩ (And.intro e171 ?_))))
  exact lo

